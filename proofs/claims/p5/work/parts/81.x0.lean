/-! The law, run exactly (by hand). -/
/-- what is wanted of an exact state that is among those told of -/
def lwX (RG R : rvS → Prop) (o : rvS) : Prop := exO o → R o → RG o
theorem rvStep_exs {sc : List (Int × Int)} (hsc : ∀ (k : Nat) (v : Int × Int), sc[k]? = some v → v.2 = v.1 ∧ xIn32 v.1) {BC BS mL a1 a2 a3 pc kc ks : Nat} {i : Instr} {al st : List rvV} {aw : rvH} {o : rvS} (h2w : exRow i a1) (ha : exL al) (hs : exL st) (hh : exH aw) (h : rvStep rvTy rvNf rvTxt sc BC BS mL i a1 a2 a3 pc al st aw kc ks = some o) : exO o := by
  by_cases hi : i = .iaload
  · subst hi
    simp only [rvStep] at h
    split at h
    · split at h
      · rename_i n d ov e
        split at h
        · cases h; exact ⟨ha, exL_c (ex_look (exH_get hh e).1 (exH_get hh e).2).1 (exL_tl (exL_tl hs)), hh⟩
        · cases h
      · cases h
    · split at h
      · split at h
        · rename_i b e2
          obtain ⟨hc, rfl⟩ := rv_bif h
          have hc := rv_blt hc
          exact ⟨ha, exL_c (exV_Tx (by omega) e2) (exL_tl (exL_tl hs)), hh⟩
        · cases h
      · cases h
    · split at h
      · rename_i j hj
        split at h
        · rename_i a e2
          obtain ⟨hc, rfl⟩ := rv_bif h
          obtain ⟨q1, q2⟩ := hsc j a e2
          exact ⟨ha, exL_c ⟨q1.symm, q2⟩ (exL_tl (exL_tl hs)), hh⟩
        · cases h
      · cases h
    · cases h
  · have e : rvStep rvTy rvNf rvTxt [] BC BS mL i a1 a2 a3 pc al st aw kc ks = some o := by
      rw [← h]
      cases i <;> first | rfl | exact absurd rfl hi
    exact rvStep_ex h2w ha hs hh e
theorem lwOk_row {i : Instr} {a1 : Nat} (h : lwOk i = true) : exRow i a1 := by
  cases i <;> first | trivial | cases h
section LWX
variable {RG R : rvS → Prop} {sc : List (Int × Int)} {Met : Nat → List rvV → rvH → (xRes2 → Prop) → Prop}
theorem lwX_S (hS : lwS RG sc) (hsc : ∀ (k : Nat) (v : Int × Int), sc[k]? = some v → v.2 = v.1 ∧ xIn32 v.1) (hR : ∀ (pc : Nat) (al st : List rvV) (aw : rvH) (kc ks : Nat) (i : Instr) (len a1 a2 a3 : Nat) (o : rvS), decode cL_law pc = .ok (i, rvSz i len) → lwOk i = true → rvStep rvTy rvNf rvTxt sc 600000 7000000 7 i a1 a2 a3 pc al st aw kc ks = some o → R (pc, al, st, aw, kc, ks) → R o) : lwS (lwX RG R) sc := by
  intro pc al st aw kc ks i len a1 a2 a3 wi o hd hk hst hG hex hr
  have hok := (rv_and hk).2
  exact hS pc al st aw kc ks i len a1 a2 a3 wi o hd hk hst (hG (rvStep_exs hsc (lwOk_row hok) hex.1 hex.2.1 hex.2.2 hst) (hR pc al st aw kc ks i len a1 a2 a3 o hd hok hst hr))
theorem lwX_I (hI : lwI RG Met) (hM : ∀ (j : Nat) (as : List rvV) (aw : rvH) (Q : xRes2 → Prop), EvM rvTab rvInf rvRet 316 rvMth j as aw Q → Met j as aw Q) (hR : ∀ (pc : Nat) (al st : List rvV) (aw : rvH) (kc ks j2 : Nat) (as rest : List rvV), j2 < 316 → xInv (fun _ => lwTb) lwInf 316 pc st aw kc ks j2 as rest → exL as → exH aw → R (pc, al, st, aw, kc, ks) → ∃ P : xRes2 → Prop, PCM rvTab rvInf rvRet 316 rvMth j2 as aw P ∧ ∀ res, P res → exR res → R (pc + 3, al, res.1.toList ++ rest, res.2, kc + (rvInf j2).2.2.1, ks + (rvInf j2).2.2.2.1)) : lwI (lwX RG R) (EvXM rvTab rvInf rvRet 316 rvMth) := by
  intro pc al st aw kc ks j2 as rest Q hj hinv hmet hG hex hr
  obtain ⟨x1, x2⟩ := ex_invA hinv hex.2.1
  obtain ⟨P, p1, p2⟩ := hR pc al st aw kc ks j2 as rest hj hinv x1 hex.2.2 hr
  refine hI pc al st aw kc ks j2 as rest (fun res => (Q res ∧ exR res) ∧ P res) hj hinv (hM _ _ _ _ (p1 _ (hmet x1 hex.2.2))) (fun res hres => ?_)
  exact hG res hres.1.1 ⟨hex.1, ex_app (ex_opt hres.1.2.1) x2, hres.1.2.2⟩ (p2 res hres.2 hres.1.2)
theorem lwX_sp (hsp : ∀ (pc : Nat) (al st : List rvV) (a : Int × Int) (aw : rvH) (kc ks : Nat), (∀ n, a.1 ≤ n → n ≤ a.2 → xIn32 n → RG (pc, al, .inl (n, n) :: st, aw, kc, ks)) → RG (pc, al, .inl a :: st, aw, kc, ks)) : ∀ (pc : Nat) (al st : List rvV) (a : Int × Int) (aw : rvH) (kc ks : Nat), (∀ n, a.1 ≤ n → n ≤ a.2 → xIn32 n → lwX RG R (pc, al, .inl (n, n) :: st, aw, kc, ks)) → lwX RG R (pc, al, .inl a :: st, aw, kc, ks) := by
  intro pc al st a aw kc ks hG hex hr
  obtain ⟨b1, b2⟩ := exL_hd hex.2.1
  obtain ⟨a1, a2⟩ := a
  have b1 : a1 = a2 := b1
  subst b1
  exact hG a1 (Int.le_refl _) (Int.le_refl _) b2 hex hr
/-- the call of person from an exact heap -/
def lwPerX (RG : rvS → Prop) : Prop := ∀ (al st : List rvV) (aw : rvH) (kc ks : Nat) (r : List Int) (T pl : List Nat), exH aw → lwInv r T pl aw → lwSt4 pl st → kc + 20 ≤ 600000 → ks + 400 ≤ 7000000 → (∀ (k : Int) (aw' : rvH) (r' : List Int) (T' pl' : List Nat), 0 ≤ k → k ≤ 1 → exH aw' → lwInv r' T' pl' aw' → lwFr xlM T pl aw T' pl' aw' → Fr aw aw' → Fw aw aw' → RG (377, al, [.inl (k, k)], aw', kc + 1, ks + 6)) → RG (374, al, st, aw, kc, ks)
theorem lwX_P (hP : lwPerX RG) (hR : ∀ (al st : List rvV) (aw : rvH) (kc ks : Nat) (k : Int) (aw' : rvH), Fr aw aw' → Fw aw aw' → R (374, al, st, aw, kc, ks) → R (377, al, [.inl (k, k)], aw', kc + 1, ks + 6)) : lwPer (lwX RG R) := by
  intro al st aw kc ks r T pl hinv hst hk hs hG hex hr
  refine hP al st aw kc ks r T pl hex.2.2 hinv hst hk hs (fun k aw' r' T' pl' k0 k1 hx h1 h2 hF hW => ?_)
  refine hG k aw' r' T' pl' k0 k1 h1 h2 ⟨hex.1, exL_c ⟨rfl, ?_⟩ (fun v hv => by cases hv), hx⟩ (hR al st aw kc ks k aw' hF hW hr)
  exact ⟨by show -2147483648 ≤ k; omega, by show k ≤ 2147483647; omega⟩
end LWX
