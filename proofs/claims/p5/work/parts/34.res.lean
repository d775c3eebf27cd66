/-! Which types an index can meet in a row: by its rest, or by its range. -/
def xHull (sg : List (Nat × xT)) (l : List Nat) : Option (Int × Int) := match l with
  | [] => none
  | m :: l => match xAt sg m with
    | .inl t => match l with
      | [] => some t
      | _ :: _ => match xHull sg l with
        | some h => some (min t.1 h.1, max t.2 h.2)
        | none => none
    | .inr _ => none
theorem xHull_ok {sg : List (Nat × xT)} : ∀ {l : List Nat} {h : Int × Int} {m : Nat}, xHull sg l = some h → m ∈ l → ∃ t, xAt sg m = .inl t ∧ h.1 ≤ t.1 ∧ t.2 ≤ h.2
  | [], h, m, hh, _ => by cases hh
  | a :: l, h, m, hh, hm => by
      unfold xHull at hh
      split at hh
      · rename_i t ht
        split at hh
        · cases hh
          have e : m = a := by simpa using hm
          rw [e]
          exact ⟨_, ht, Int.le_refl _, Int.le_refl _⟩
        · rename_i b l2
          split at hh
          · rename_i h2 hh2
            cases hh
            rcases List.mem_cons.mp hm with e | hm
            · rw [e]
              exact ⟨t, ht, Int.min_le_left _ _, Int.le_max_left _ _⟩
            · obtain ⟨t2, g1, g2, g3⟩ := xHull_ok hh2 hm
              exact ⟨t2, g1, Int.le_trans (Int.min_le_right _ _) g2, Int.le_trans g3 (Int.le_max_right _ _)⟩
          · cases hh
      · cases hh
/-- the rests that an index can have -/
def xResid (Q : xQ) (p : Nat) (v : Nat × Int × Int) : List Nat :=
  bif decide (v.2.1 % (p : Int) = 0) then [(v.2.2 % (p : Int)).toNat] else match xItv Q v with
    | some a => bif decide (0 ≤ a.1) && decide (a.2 - a.1 + 1 < (p : Int)) then (List.range' a.1.toNat (a.2 - a.1 + 1).toNat).map (fun m => m % p) else List.range p
    | none => List.range p
theorem xResid_ok {Q : xQ} {r : List Int} {p j : Nat} {v : Nat × Int × Int} (h : xQs Q r) (hp : 0 < p) (hj : xVal r (xSm v) = (j : Int)) : j % p ∈ xResid Q p v := by
  unfold xResid
  cases hc : decide (v.2.1 % (p : Int) = 0) with
  | true =>
    have hc := of_decide_eq_true hc
    show j % p ∈ [(v.2.2 % (p : Int)).toNat]
    rw [List.mem_singleton]
    rw [xSm_val] at hj
    have e1 : ((j % p : Nat) : Int) = v.2.2 % (p : Int) := by
      rw [Int.natCast_emod, ← hj]
      obtain ⟨q, hq⟩ := Int.dvd_of_emod_eq_zero hc
      rw [hq, Int.mul_assoc, Int.mul_add_emod_self_left]
    omega
  | false =>
    simp only [cond_false]
    have hall : j % p ∈ List.range p := List.mem_range.mpr (Nat.mod_lt j hp)
    split
    · rename_i a ha
      obtain ⟨a1, a2⟩ := xItv_ok h ha
      rw [hj] at a1 a2
      cases hd : (decide (0 ≤ a.1) && decide (a.2 - a.1 + 1 < (p : Int))) with
      | false => exact hall
      | true =>
        obtain ⟨d1, d2⟩ := rv_and hd
        have d1 := of_decide_eq_true d1
        refine List.mem_map.mpr ⟨j, List.mem_range'_1.mpr ⟨by omega, by omega⟩, rfl⟩
    · exact hall
/-- a known slot at the same index -/
def xSame (Q : xQ) (a b : Nat × Int × Int) : Bool := xGe Q.1 (xSub (xSm a) (xSm b)) && xGe Q.1 (xSub (xSm b) (xSm a))
theorem xSame_ok {Q : xQ} {r : List Int} {a b : Nat × Int × Int} (h : xQs Q r) (hs : xSame Q a b = true) : xVal r (xSm a) = xVal r (xSm b) := by
  obtain ⟨g1, g2⟩ := rv_and hs
  have h1 := xGe_ok h.1 g1
  have h2 := xGe_ok h.1 g2
  rw [xSub_ok] at h1 h2
  omega
def xFindL (Q : xQ) (b : Nat × Int × Int) (o : List ((Nat × Int × Int) × xV)) : Option xV := match o with
  | [] => none
  | (q, v) :: o => bif xSame Q q b then some v else xFindL Q b o
theorem xFindL_ok {Q : xQ} {r : List Int} {T pl : List Nat} {c : rvC} {b : Nat × Int × Int} {j : Nat} {v : xV} (h : xQs Q r) (hj : xVal r (xSm b) = (j : Int)) : ∀ {o : List ((Nat × Int × Int) × xV)}, xFindL Q b o = some v → (∀ q ∈ o, xOv r T pl c q) → ∃ w, xSlot c j = some w ∧ xR r T pl v w
  | [], hv, _ => by cases hv
  | (q, y) :: o, hv, ho => by
      unfold xFindL at hv
      cases hc : xSame Q q b with
      | true =>
        rw [hc] at hv
        cases hv
        obtain ⟨-, i, w, h1, h2, h3⟩ := ho _ List.mem_cons_self
        have e := xSame_ok h hc
        have h1 : xVal r (xSm q) = (i : Int) := h1
        have e2 : i = j := by omega
        subst e2
        exact ⟨w, h2, h3⟩
      | false =>
        rw [hc] at hv
        exact xFindL_ok h hj hv (fun p hp => ho p (List.mem_cons_of_mem _ hp))
