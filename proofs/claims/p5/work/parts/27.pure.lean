/-! Instructions that touch no cell: the checker's step, and that it tells of the point state's step. -/
def xNx (S : xS) (pc : Nat) (al st : List xV) (Q : xQ) : xS := (pc, al, st, S.2.2.2.1, S.2.2.2.2.1, Q, S.2.2.2.2.2.2.1, S.2.2.2.2.2.2.2)
/-- what facts say stays, with more variables -/
def xFm (fm : xF → List Int → List Nat → List Nat → rvH → Prop) : Prop := ∀ (f : xF) (r t : List Int) (T pl : List Nat) (aw : rvH), fm f r T pl aw → fm f (r ++ t) T pl aw
theorem xSt_app {r : List Int} {T pl : List Nat} {ah : List xC} {aw : rvH} (t : List Int) (h : xSt r T pl ah aw) : xSt (r ++ t) T pl ah aw := by
  refine ⟨h.1, fun k s hs => ?_⟩
  obtain ⟨i, c, h1, h2, h3, h4⟩ := h.2 k s hs
  exact ⟨i, c, h1, h2, h3, fun q hq => xOv_grow ⟨⟨t, rfl⟩, ⟨[], (List.append_nil T).symm⟩, ⟨[], (List.append_nil pl).symm⟩⟩ (h4 q hq)⟩
theorem xNx_ok {rg : Nat → xG} {fm : xF → List Int → List Nat → List Nat → rvH → Prop} (hf : xFm fm) {S : xS} {aw : rvH} {kc ks pc : Nat} {r r' : List Int} {T pl : List Nat} {al st : List xV} {cl cs : List rvV} {Q : xQ}
    (hst : xSt r T pl S.2.2.2.1 aw) (hhp : xHp rg T pl aw) (hfs : ∀ f ∈ S.2.2.2.2.1, fm f r T pl aw) (hkc : kc = S.2.2.2.2.2.2.1) (hks : ks = S.2.2.2.2.2.2.2) (hr : ∃ t, r' = r ++ t) (hal : xRs r' T pl al cl) (hs : xRs r' T pl st cs) (hQ : xQs Q r') : xRel rg fm (xNx S pc al st Q) (pc, cl, cs, aw, kc, ks) := by
  obtain ⟨t, rfl⟩ := hr
  exact ⟨r ++ t, T, pl, rfl, hal, hs, xSt_app t hst, hhp, fun f hf9 => hf f r t T pl aw (hfs f hf9), hQ, hkc, hks⟩
theorem xG_r {r r' : List Int} {T pl : List Nat} (h : ∃ t, r' = r ++ t) : xGrow r r' T T pl pl := ⟨h, ⟨[], (List.append_nil T).symm⟩, ⟨[], (List.append_nil pl).symm⟩⟩
/-- a value that is no long -/
def xN1 (v : xV) : Bool := match v with
  | .inl _ => true
  | .inr (1, _) => false
  | .inr (9, _) => false
  | .inr _ => true
theorem xN1_ok {r : List Int} {T pl : List Nat} {v : xV} {c : rvV} (hn : xN1 v = true) (h : xR r T pl v c) : rvIsL c = false := by
  rcases v with a | ⟨t, k⟩
  · obtain ⟨-, -, rfl⟩ := h; rfl
  · unfold xR at h
    split at h
    · rename_i heq; cases heq
    · obtain ⟨z, rfl⟩ := h; rfl
    · rename_i heq; cases heq; cases hn
    · obtain ⟨i, -, rfl⟩ := h; rfl
    · rcases h with ⟨z, rfl⟩ | ⟨z, rfl⟩ | ⟨i, -, rfl⟩ <;> rfl
    · rename_i heq; cases heq; cases hn
    · obtain ⟨-, i, -, rfl⟩ := h; rfl
    · rcases h with ⟨z, rfl⟩ | ⟨-, i, -, rfl⟩ <;> rfl
    · rename_i heq
      cases heq
      subst h
      match t, hn with
      | 0, _ => rfl
      | 1, hn => cases hn
      | n + 2, _ => rfl
/-- a reference or null, as aload takes it -/
def xIsA (v : xV) : Bool := match v with
  | .inl _ => false
  | .inr (1, _) => false
  | .inr (7, _) => false
  | .inr (9, _) => false
  | .inr _ => true
theorem xIsA_ok {r : List Int} {T pl : List Nat} {v : xV} {c : rvV} (hn : xIsA v = true) (h : xR r T pl v c) : rvIsA c = true := by
  rcases v with a | ⟨t, k⟩
  · cases hn
  · unfold xR at h
    split at h
    · rename_i heq; cases heq
    · obtain ⟨z, rfl⟩ := h; rfl
    · rename_i heq; cases heq; cases hn
    · obtain ⟨i, -, rfl⟩ := h; rfl
    · rcases h with ⟨z, rfl⟩ | ⟨z, rfl⟩ | ⟨i, -, rfl⟩ <;> rfl
    · rename_i heq; cases heq; cases hn
    · obtain ⟨-, i, -, rfl⟩ := h; rfl
    · rcases h with ⟨z, rfl⟩ | ⟨-, i, -, rfl⟩ <;> rfl
    · rename_i heq
      cases heq
      subst h
      match t, hn with
      | 0, _ => rfl
      | 1, hn => cases hn
      | 2, _ => rfl
      | 3, _ => rfl
      | 4, _ => rfl
      | 5, _ => rfl
      | 6, _ => rfl
      | 7, hn => cases hn
      | 8, _ => rfl
      | 9, hn => cases hn
      | n + 10, _ => rfl
/-- a local is set, as rvSet does it -/
def xSet (al : List xV) (i : Nat) (v : xV) : List xV := match i with
  | 0 => al.set 0 v
  | k + 1 => match al[k]? with
    | some (.inr (1, _)) => (al.set k (.inr (9, 0))).set (k + 1) v
    | some _ => al.set (k + 1) v
    | none => al
theorem xSet_ok {r : List Int} {T pl : List Nat} {al : List xV} {cl : List rvV} {i : Nat} {v : xV} {c : rvV} (h : xRs r T pl al cl) (hv : xR r T pl v c) : xRs r T pl (xSet al i v) (rvSet cl i c) := by
  cases i with
  | zero => exact xRs_set h hv
  | succ k =>
    cases hk : al[k]? with
    | none =>
      have hk2 : cl[k]? = none := by
        rw [List.getElem?_eq_none_iff] at hk ⊢
        rw [← xRs_len h]
        exact hk
      have e1 : xSet al (k + 1) v = al := by simp [xSet, hk]
      have e2 : rvSet cl (k + 1) c = cl := by simp [rvSet, hk2]
      rw [e1, e2]
      exact h
    | some w =>
      obtain ⟨d, hd, hw⟩ := xRs_get h hk
      have hu : xR r T pl (.inr (9, 0)) rvU := trivial
      cases hL : rvIsL d with
      | true =>
        have e2 : rvSet cl (k + 1) c = (cl.set k rvU).set (k + 1) c := by simp [rvSet, hd, hL]
        rw [e2]
        rcases w with a | ⟨t, j⟩
        · obtain ⟨-, -, rfl⟩ := hw
          cases hL
        · by_cases ht : t = 1
          · subst ht
            have e1 : xSet al (k + 1) v = (al.set k (.inr (9, 0))).set (k + 1) v := by simp [xSet, hk]
            rw [e1]
            exact xRs_set (xRs_set h hu) hv
          · by_cases ht9 : t = 9
            · subst ht9
              have e1 : xSet al (k + 1) v = al.set (k + 1) v := by simp [xSet, hk]
              have e3 : al.set k (.inr (9, j)) = al := by
                apply List.ext_getElem?
                intro n
                rw [List.getElem?_set]
                by_cases hn : k = n
                · subst hn
                  have hl9 := (List.getElem?_eq_some_iff.mp hk).1
                  simp [hl9]
                  exact (List.getElem?_eq_some_iff.mp hk).2.symm
                · simp [hn]
              rw [e1, ← e3]
              exact xRs_set (xRs_set h trivial) hv
            · have hn1 : xN1 (.inr (t, j)) = true := by
                match t, ht, ht9 with
                | 0, _, _ => rfl
                | 1, h, _ => exact absurd rfl h
                | 2, _, _ => rfl
                | 3, _, _ => rfl
                | 4, _, _ => rfl
                | 5, _, _ => rfl
                | 6, _, _ => rfl
                | 7, _, _ => rfl
                | 8, _, _ => rfl
                | 9, _, h => exact absurd rfl h
                | n + 10, _, _ => rfl
              have := xN1_ok hn1 hw
              rw [hL] at this
              cases this
      | false =>
        have e2 : rvSet cl (k + 1) c = cl.set (k + 1) c := by simp [rvSet, hd, hL]
        rw [e2]
        rcases w with a | ⟨t, j⟩
        · have e1 : xSet al (k + 1) v = al.set (k + 1) v := by simp [xSet, hk]
          rw [e1]
          exact xRs_set h hv
        · by_cases ht : t = 1
          · subst ht
            have : rvIsL d = true := by
              cases j with
              | zero => obtain ⟨z, rfl⟩ := hw; rfl
              | succ n =>
                have hw : d = .inr (1, n + 1) := hw
                rw [hw]; rfl
            rw [hL] at this
            cases this
          · have e1 : xSet al (k + 1) v = al.set (k + 1) v := by
              match t, ht with
              | 0, _ => simp [xSet, hk]
              | 1, h => exact absurd rfl h
              | n + 2, _ => simp [xSet, hk]
            rw [e1]
            exact xRs_set h hv
