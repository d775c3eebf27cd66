/-! Narrowings, switches, texts and statics of the checker's step. -/
theorem rvOne_pt (z : Int) : rvOne (z, z) = true := by simp [rvOne]
theorem xUn_ok {Q Q2 : xQ} {r : List Int} {T pl : List Nat} {a : Nat × Int × Int} {v : xV} {lo hi z n : Int} (h : xQs Q r) (ha : xR r T pl (.inl a) (.inl (z, z))) (h1 : lo ≤ n) (h2 : n ≤ hi) (h3 : lo ≤ z → z ≤ hi → n = z) (hn : xIn32 n) (he : xUn Q lo hi a = some (Q2, v)) :
    ∃ r', (∃ t, r' = r ++ t) ∧ xQs Q2 r' ∧ xR r' T pl v (.inl (n, n)) := by
  obtain ⟨z', e1, e2, hz, -⟩ := xR_pt ha
  cases e1
  unfold xUn at he
  split at he
  · rename_i x hx
    obtain ⟨x1, x2⟩ := xItv_ok h hx
    rw [← e2] at x1 x2
    cases hc : (decide (lo ≤ x.1) && decide (x.2 ≤ hi)) with
    | true =>
      rw [hc] at he
      cases he
      obtain ⟨c1, c2⟩ := rv_and hc
      have c1 := of_decide_eq_true c1
      have c2 := of_decide_eq_true c2
      rw [h3 (by omega) (by omega)]
      exact ⟨r, ⟨[], (List.append_nil r).symm⟩, h, ha⟩
    | false =>
      rw [hc] at he
      have he : xNew (lo, hi) Q = (Q2, v) := Option.some.inj he
      have h9 := xNew_ok (a := (lo, hi)) T pl h h1 h2 hn
      rw [he] at h9
      exact h9
  · cases he
theorem xi_i2b {z : Int} (hz : xIn32 z) : -128 ≤ (Int32.ofInt z).toInt8.toInt32.toInt ∧ (Int32.ofInt z).toInt8.toInt32.toInt ≤ 127 ∧ (-128 ≤ z → z ≤ 127 → (Int32.ofInt z).toInt8.toInt32.toInt = z) := by
  have h1 := Int8.le_toInt (Int32.ofInt z).toInt8
  have h2 := Int8.toInt_lt (Int32.ofInt z).toInt8
  rw [Int8.toInt_toInt32]
  refine ⟨h1, by omega, fun a b => ?_⟩
  rw [Int32.toInt_toInt8, xi_of hz]
  exact Int.bmod_eq_of_le (by omega) (by omega)
theorem xi_i2c {z : Int} (hz : xIn32 z) : 0 ≤ ((Int32.ofInt z).toUInt32 % 65536).toInt32.toInt ∧ ((Int32.ofInt z).toUInt32 % 65536).toInt32.toInt ≤ 65535 ∧ (0 ≤ z → z ≤ 65535 → ((Int32.ofInt z).toUInt32 % 65536).toInt32.toInt = z) := by
  rw [pk_char, nI_toInt (by omega)]
  refine ⟨by omega, by omega, fun a b => ?_⟩
  have e := xi_bits (x := Int32.ofInt z) (by rw [xi_of hz]; exact a)
  rw [xi_of hz] at e
  omega
theorem xSw_ok {rg : Nat → xG} {fm : xF → List Int → List Nat → List Nat → rvH → Prop} (hf : xFm fm) {S : xS} {aw : rvH} {kc ks pc : Nat} {r : List Int} {T pl : List Nat} {al st : List xV} {cl cs : List rvV} {Q : xQ} {a : Nat × Int × Int} {z : Int}
    (hst : xSt r T pl S.2.2.2.1 aw) (hhp : xHp rg T pl aw) (hfs : ∀ f ∈ S.2.2.2.2.1, fm f r T pl aw) (hkc : kc = S.2.2.2.2.2.2.1) (hks : ks = S.2.2.2.2.2.2.2) (hal : xRs r T pl al cl) (hs : xRs r T pl st cs) (hQ : xQs Q r) (hz : z = xVal r (xSm a)) :
    ∀ (offs : List Int) (lo : Int) (l : List xS), xSw S pc al st a Q lo offs = some l → lo ≤ z → ∀ off, offs[(z - lo).toNat]? = some off → ∃ t S', rvJ pc off = some t ∧ S' ∈ l ∧ xRel rg fm S' (t, cl, cs, aw, kc, ks)
  | [], lo, l, _, _, off, ho => by simp at ho
  | o1 :: offs, lo, l, hl, h0, off, ho => by
      unfold xSw at hl
      split at hl
      · rename_i t l2 ht hl2
        cases hl
        by_cases he : z = lo
        · have e0 : (z - lo).toNat = 0 := by omega
          rw [e0] at ho
          have ho : o1 = off := by simpa using ho
          subst ho
          obtain ⟨Q2, hm, hQ2, -⟩ := xCmp_ok (c := .eq) (a := xSm a) (b := xK lo) hQ (by rw [xK_ok, ← hz]; exact decide_eq_true he)
          exact ⟨t, _, ht, List.mem_append.mpr (Or.inl (List.mem_map.mpr ⟨Q2, hm, rfl⟩)), xNx_ok hf hst hhp hfs hkc hks ⟨[], (List.append_nil r).symm⟩ hal hs hQ2⟩
        · have e1 : (z - lo).toNat = (z - (lo + 1)).toNat + 1 := by omega
          rw [e1] at ho
          have ho : offs[(z - (lo + 1)).toNat]? = some off := by simpa using ho
          obtain ⟨t2, S2, h1, h2, h3⟩ := xSw_ok hf hst hhp hfs hkc hks hal hs hQ hz offs (lo + 1) l2 hl2 (by omega) off ho
          exact ⟨t2, S2, h1, List.mem_append.mpr (Or.inr h2), h3⟩
      · cases hl
section XPX
variable {rg : Nat → xG} {fm : xF → List Int → List Nat → List Nat → rvH → Prop} {sc : List (Int × Int)} {BC BS mL a1 a2 a3 pc kc ks : Nat} {al st : List xV} {ah : List xC} {fs : List xF} {Q : xQ} {Ss : List xS} {o : rvS}
set_option maxHeartbeats 1000000 in
theorem xp_i2b (hf : xFm fm) (hs : xPurb mL (.i2b) a1 a2 (pc, al, st, ah, fs, Q, kc, ks) = some Ss) (h : xRel rg fm (pc, al, st, ah, fs, Q, kc, ks) o) : xOk rg fm Ss (rvStep rvTy rvNf rvTxt sc BC BS mL (.i2b) a1 a2 a3 o.1 o.2.1 o.2.2.1 o.2.2.2.1 o.2.2.2.2.1 o.2.2.2.2.2) := by
  obtain ⟨r, T, pl, cl, cs, aw, rfl, hl, hst, hS, hP, hF, hQ⟩ := xRel_out h
  dsimp only at hl hst hS hF hQ ⊢
  simp only [xPurb] at hs
  split at hs
  · rename_i a st
    obtain ⟨c, ds, rfl, ha, hst3⟩ := xRs_cons hst
    obtain ⟨z, rfl, ez, z32, -⟩ := xR_pt ha
    unfold xPq at hs
    split at hs
    · rename_i Q2 v he
      cases hs
      obtain ⟨b1, b2, b3⟩ := xi_i2b z32
      obtain ⟨r', hr, hQ2, hv⟩ := xUn_ok hQ ha b1 b2 b3 (xi_in _) he
      exact Or.inl ⟨_, _, (by simp only [rvStep, rvOne_pt] <;> rfl), List.mem_singleton.mpr rfl, xNx_ok hf hS hP hF rfl rfl hr (xRs_grow (xG_r hr) hl) (xRs_c hv (xRs_grow (xG_r hr) hst3)) hQ2⟩
    · cases hs
  · cases hs
set_option maxHeartbeats 1000000 in
theorem xp_i2c (hf : xFm fm) (hs : xPurb mL (.i2c) a1 a2 (pc, al, st, ah, fs, Q, kc, ks) = some Ss) (h : xRel rg fm (pc, al, st, ah, fs, Q, kc, ks) o) : xOk rg fm Ss (rvStep rvTy rvNf rvTxt sc BC BS mL (.i2c) a1 a2 a3 o.1 o.2.1 o.2.2.1 o.2.2.2.1 o.2.2.2.2.1 o.2.2.2.2.2) := by
  obtain ⟨r, T, pl, cl, cs, aw, rfl, hl, hst, hS, hP, hF, hQ⟩ := xRel_out h
  dsimp only at hl hst hS hF hQ ⊢
  simp only [xPurb] at hs
  split at hs
  · rename_i a st
    obtain ⟨c, ds, rfl, ha, hst3⟩ := xRs_cons hst
    obtain ⟨z, rfl, ez, z32, -⟩ := xR_pt ha
    unfold xPq at hs
    split at hs
    · rename_i Q2 v he
      cases hs
      obtain ⟨b1, b2, b3⟩ := xi_i2c z32
      obtain ⟨r', hr, hQ2, hv⟩ := xUn_ok hQ ha b1 b2 b3 (xi_in _) he
      exact Or.inl ⟨_, _, (by simp only [rvStep, rvOne_pt] <;> rfl), List.mem_singleton.mpr rfl, xNx_ok hf hS hP hF rfl rfl hr (xRs_grow (xG_r hr) hl) (xRs_c hv (xRs_grow (xG_r hr) hst3)) hQ2⟩
    · cases hs
  · cases hs
set_option maxHeartbeats 1000000 in
theorem xp_lshr (hf : xFm fm) (hs : xPurb mL (.lshr) a1 a2 (pc, al, st, ah, fs, Q, kc, ks) = some Ss) (h : xRel rg fm (pc, al, st, ah, fs, Q, kc, ks) o) : xOk rg fm Ss (rvStep rvTy rvNf rvTxt sc BC BS mL (.lshr) a1 a2 a3 o.1 o.2.1 o.2.2.1 o.2.2.2.1 o.2.2.2.2.1 o.2.2.2.2.2) := by
  obtain ⟨r, T, pl, cl, cs, aw, rfl, hl, hst, hS, hP, hF, hQ⟩ := xRel_out h
  dsimp only at hl hst hS hF hQ ⊢
  simp only [xPurb] at hs
  split at hs
  · rename_i b x st
    cases hs
    obtain ⟨c, ds, rfl, hv, hst2⟩ := xRs_cons hst
    obtain ⟨d, ds, rfl, hw, hst3⟩ := xRs_cons hst2
    obtain ⟨w, rfl, ew, -, -⟩ := xR_pt hv
    obtain ⟨x', rfl, q2⟩ := xR_lc hw
    refine Or.inl ⟨_, _, rfl, List.mem_singleton.mpr rfl, xNx_ok hf hS hP hF rfl rfl ⟨[], (List.append_nil r).symm⟩ hl (xRs_c (c := rvLs (fun x y => x >>> (y.toInt64 &&& 63)) x' (w, w)) ?_ hst3) hQ⟩
    have any : xR r T pl (.inr (1, 0)) (rvLs (fun x y => x >>> (y.toInt64 &&& 63)) x' (w, w)) := by
      unfold rvLs
      cases hd : (Nat.beq x' 0 || !rvOne (w, w)) with
      | true => exact ⟨0, rfl⟩
      | false => exact ⟨_, rfl⟩
    unfold xLsh
    split
    · rename_i a ha
      obtain ⟨y1, y2⟩ := xItv_ok hQ ha
      rw [← ew] at y1 y2
      cases hc : (Nat.beq x 0 || !decide (a.1 = a.2)) with
      | true => exact any
      | false =>
        obtain ⟨c1, c2⟩ := rv_or hc
        have c2 : a.1 = a.2 := by simpa using c2
        have e1 := q2 c1
        subst e1
        have e2 : a.1 = w := by omega
        unfold rvLs
        rw [c1, rvOne_pt, e2]
        exact xR_long _
    · exact any
  · cases hs
set_option maxHeartbeats 1000000 in
theorem xp_tableswitch (hf : xFm fm) {dflt lo hi : Int} {offs : Array Int} (hs : xPurb mL (.tableswitch dflt lo hi offs) a1 a2 (pc, al, st, ah, fs, Q, kc, ks) = some Ss) (h : xRel rg fm (pc, al, st, ah, fs, Q, kc, ks) o) : xOk rg fm Ss (rvStep rvTy rvNf rvTxt sc BC BS mL (.tableswitch dflt lo hi offs) a1 a2 a3 o.1 o.2.1 o.2.2.1 o.2.2.2.1 o.2.2.2.2.1 o.2.2.2.2.2) := by
  obtain ⟨r, T, pl, cl, cs, aw, rfl, hl, hst, hS, hP, hF, hQ⟩ := xRel_out h
  dsimp only at hl hst hS hF hQ ⊢
  simp only [xPurb] at hs
  split at hs
  · rename_i a st
    obtain ⟨c, ds, rfl, ha, hst3⟩ := xRs_cons hst
    obtain ⟨z, rfl, ez, z32, -⟩ := xR_pt ha
    split at hs
    · rename_i t l ht hsw
      obtain ⟨hc, rfl⟩ := rv_bif hs
      have hc := of_decide_eq_true hc
      by_cases h1 : z < lo
      · obtain ⟨Q2, hm, hQ2, -⟩ := xCmp_ok (c := .lt) (a := xSm a) (b := xK lo) hQ (by rw [xK_ok, ← ez]; exact decide_eq_true h1)
        exact Or.inl ⟨_, _, (by simp only [rvStep, h1, decide_true, Bool.true_or, cond_true, ht] <;> rfl), List.mem_append.mpr (Or.inr (List.mem_append.mpr (Or.inl (List.mem_map.mpr ⟨Q2, hm, rfl⟩)))), xNx_ok hf hS hP hF rfl rfl ⟨[], (List.append_nil r).symm⟩ hl hst3 hQ2⟩
      · by_cases h2 : hi < z
        · obtain ⟨Q2, hm, hQ2, -⟩ := xCmp_ok (c := .gt) (a := xSm a) (b := xK hi) hQ (by rw [xK_ok, ← ez]; exact decide_eq_true h2)
          exact Or.inl ⟨_, _, (by simp only [rvStep, h1, h2, decide_true, decide_false, Bool.or_true, cond_true, ht] <;> rfl), List.mem_append.mpr (Or.inr (List.mem_append.mpr (Or.inr (List.mem_map.mpr ⟨Q2, hm, rfl⟩)))), xNx_ok hf hS hP hF rfl rfl ⟨[], (List.append_nil r).symm⟩ hl hst3 hQ2⟩
        · have hlt : (z - lo).toNat < offs.toList.length := by omega
          have ho : offs.toList[(z - lo).toNat]? = some offs.toList[(z - lo).toNat] := List.getElem?_eq_getElem hlt
          obtain ⟨t2, S2, g1, g2, g3⟩ := xSw_ok hf hS hP hF rfl rfl hl hst3 hQ ez offs.toList lo l hsw (by omega) _ ho
          have ho2 : offs[(z - lo).toNat]? = some offs.toList[(z - lo).toNat] := by rw [← Array.getElem?_toList]; exact ho
          have h3 : lo ≤ z := by omega
          have h4 : z ≤ hi := by omega
          exact Or.inl ⟨_, S2, (by simp only [rvStep, h1, h2, h3, h4, decide_true, decide_false, Bool.or_self, cond_false, rvOne_pt, Bool.and_self, cond_true, ho2, g1] <;> rfl), List.mem_append.mpr (Or.inl g2), g3⟩
    · cases hs
  · cases hs
end XPX
