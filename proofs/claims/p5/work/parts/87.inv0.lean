/-! The state before the first turn of the law's loop. -/
def xTyB (T pl : List Nat) (ty : xT) (c : rvV) : Bool := match ty, c with
  | .inl a, .inl z => decide (z.2 = z.1) && (decide (a.1 ≤ z.1) && (decide (z.1 ≤ a.2) && (decide (-2147483648 ≤ z.1) && decide (z.1 ≤ 2147483647))))
  | .inr q, .inr z => (Nat.beq q.1 1 && (Nat.beq q.2 0 && Nat.beq z.1 1)) || ((Nat.beq q.1 2 && (Nat.beq z.1 2 && decide (pl[q.2]? = some z.2))) || ((Nat.beq q.1 6 && Nat.beq z.1 0) || ((Nat.beq q.1 20 && (Nat.blt q.2 40 && (Nat.beq z.1 2 && decide (T[z.2]? = some q.2)))) || ((Nat.beq q.1 21 && Nat.beq z.1 0) || (Nat.beq q.1 6 && (Nat.beq z.1 2 && Nat.blt z.2 T.length))))))
  | _, _ => false
theorem xTyB_ok {T pl : List Nat} {ty : xT} {c : rvV} (h : xTyB T pl ty c = true) : xTy T pl ty c := by
  rcases ty with a | ⟨q1, q2⟩
  · rcases c with ⟨z, y⟩ | c
    · have h : (decide (y = z) && (decide (a.1 ≤ z) && (decide (z ≤ a.2) && (decide (-2147483648 ≤ z) && decide (z ≤ 2147483647))))) = true := h
      obtain ⟨h1, h⟩ := rv_and h
      obtain ⟨h2, h⟩ := rv_and h
      obtain ⟨h3, h⟩ := rv_and h
      obtain ⟨h4, h5⟩ := rv_and h
      have e := of_decide_eq_true h1
      subst e
      exact ⟨_, of_decide_eq_true h2, of_decide_eq_true h3, ⟨of_decide_eq_true h4, of_decide_eq_true h5⟩, rfl⟩
    · cases h
  · rcases c with c | ⟨z1, z2⟩
    · cases h
    · have h : ((Nat.beq q1 1 && (Nat.beq q2 0 && Nat.beq z1 1)) || ((Nat.beq q1 2 && (Nat.beq z1 2 && decide (pl[q2]? = some z2))) || ((Nat.beq q1 6 && Nat.beq z1 0) || ((Nat.beq q1 20 && (Nat.blt q2 40 && (Nat.beq z1 2 && decide (T[z2]? = some q2)))) || ((Nat.beq q1 21 && Nat.beq z1 0) || (Nat.beq q1 6 && (Nat.beq z1 2 && Nat.blt z2 T.length))))))) = true := h
      rcases rv_or' h with h | h
      · obtain ⟨h1, h⟩ := rv_and h
        obtain ⟨h2, h3⟩ := rv_and h
        cases rv_beq h1; cases rv_beq h2; cases rv_beq h3
        exact ⟨z2, rfl⟩
      rcases rv_or' h with h | h
      · obtain ⟨h1, h⟩ := rv_and h
        obtain ⟨h2, h3⟩ := rv_and h
        cases rv_beq h1; cases rv_beq h2
        exact ⟨z2, of_decide_eq_true h3, rfl⟩
      rcases rv_or' h with h | h
      · obtain ⟨h1, h2⟩ := rv_and h
        cases rv_beq h1; cases rv_beq h2
        exact Or.inr (Or.inl ⟨z2, rfl⟩)
      rcases rv_or' h with h | h
      · obtain ⟨h1, h⟩ := rv_and h
        obtain ⟨h2, h⟩ := rv_and h
        obtain ⟨h3, h4⟩ := rv_and h
        cases rv_beq h1; cases rv_beq h3
        exact ⟨rv_blt h2, z2, of_decide_eq_true h4, rfl⟩
      rcases rv_or' h with h | h
      · obtain ⟨h1, h2⟩ := rv_and h
        cases rv_beq h1; cases rv_beq h2
        exact Or.inl ⟨z2, rfl⟩
      · obtain ⟨h1, h⟩ := rv_and h
        obtain ⟨h2, h3⟩ := rv_and h
        cases rv_beq h1; cases rv_beq h2
        exact Or.inr (Or.inr ⟨z2, rv_blt h3, rfl⟩)
def xCellB (T pl : List Nat) (g : xG) (c : rvC) : Bool := match g, c with
  | .inl (ci, fts), .inl (cj, fs) => Nat.beq ci cj && (Nat.beq fs.length fts.length && (fts.zip fs).all (fun q => xTyB T pl q.1 q.2))
  | .inr (k, n, q, sg), .inr (k', n', d, ov) => (Nat.beq k k' && Nat.beq n n') && (bif Nat.beq q 1 && ov.isEmpty then xTyB T pl (xAt sg 0) d else (List.range n).all (fun j => xTyB T pl (xAt sg (j % q)) (rvLook d ov j)))
  | _, _ => false
theorem xCellB_ok {T pl : List Nat} {g : xG} {c : rvC} (h : xCellB T pl g c = true) : xCell T pl g c := by
  rcases g with ⟨ci, fts⟩ | ⟨k, n, q, sg⟩
  · rcases c with ⟨cj, fs⟩ | c
    · have h : (Nat.beq ci cj && (Nat.beq fs.length fts.length && (fts.zip fs).all (fun q => xTyB T pl q.1 q.2))) = true := h
      obtain ⟨h1, h⟩ := rv_and h
      obtain ⟨h2, h3⟩ := rv_and h
      refine ⟨rv_beq h1, rv_beq h2, fun f ty v e1 e2 => ?_⟩
      have hz : (fts.zip fs)[f]? = some (ty, v) := List.getElem?_zip_eq_some.mpr ⟨e1, e2⟩
      exact xTyB_ok (List.all_eq_true.mp h3 _ (List.mem_of_getElem? hz))
    · cases h
  · rcases c with c | ⟨k', n', d, ov⟩
    · cases h
    · have h : ((Nat.beq k k' && Nat.beq n n') && (bif Nat.beq q 1 && ov.isEmpty then xTyB T pl (xAt sg 0) d else (List.range n).all (fun j => xTyB T pl (xAt sg (j % q)) (rvLook d ov j)))) = true := h
      obtain ⟨h1, h3⟩ := rv_and h
      obtain ⟨h1, h2⟩ := rv_and h1
      refine ⟨rv_beq h1, rv_beq h2, fun j hj => ?_⟩
      cases hb : (Nat.beq q 1 && ov.isEmpty) with
      | true =>
        rw [hb, cond_true] at h3
        obtain ⟨b1, b2⟩ := rv_and hb
        have e1 := rv_beq b1
        have e2 : ov = [] := List.isEmpty_iff.mp b2
        subst e1; subst e2
        have e3 : j % 1 = 0 := Nat.mod_one j
        rw [e3]
        exact xTyB_ok h3
      | false =>
        rw [hb, cond_false] at h3
        exact xTyB_ok (List.all_eq_true.mp h3 j (List.mem_range.mpr hj))
def xHpB (T pl : List Nat) (aw : rvH) : Bool := Nat.beq aw.length T.length && (T.zip aw).all (fun q => xCellB T pl (xRgn q.1) q.2)
theorem xHpB_ok {T pl : List Nat} {aw : rvH} (h : xHpB T pl aw = true) : xHp xRgn T pl aw := by
  obtain ⟨h1, h2⟩ := rv_and h
  refine ⟨rv_beq h1, fun i g c e1 e2 => ?_⟩
  have hz : (T.zip aw)[i]? = some (g, c) := List.getElem?_zip_eq_some.mpr ⟨e1, e2⟩
  exact xCellB_ok (List.all_eq_true.mp h2 _ (List.mem_of_getElem? hz))
def rzT : List Nat := [60, 64, 65, 66, 67, 68, 69, 70, 61, 62, 63, 73, 74, 75, 76, 77, 78, 79, 80, 81, 82, 83, 84, 85, 86, 87, 88, 6, 7, 8, 9, 10, 11, 12, 13, 0, 1, 2, 3, 4, 5, 0, 1, 2, 3, 4, 5, 71, 72, 0, 1, 2, 3, 4, 5, 0, 1, 2, 3, 4, 5, 0, 1, 2, 3, 4, 5, 0, 1, 2, 3, 4, 5, 0, 1, 2, 3, 4, 5, 0, 1, 2, 3, 4, 5, 0, 1, 2, 3, 4, 5, 0, 1, 2, 3, 4, 5, 0, 1, 2, 3, 4, 5, 0, 1, 2, 3, 4, 5, 89, 90, 91, 92, 93, 94, 95, 96, 97, 98, 99, 100, 101, 102, 103, 104, 105, 106, 107, 108, 109, 110, 111]
def rzPl : List Nat := [0, 8, 9, 10, 1, 2, 3, 4, 5, 6, 7, 47, 48, 11, 12, 13, 14, 15, 16, 17, 18, 19, 20, 21, 22, 23, 24, 25, 26, 109, 110, 111, 112, 113, 114, 115, 116, 117, 118, 119, 120, 121, 122, 123, 124, 125, 126, 127, 128, 129, 130, 131]
def rzR : List Int := [0, 0, 0, 0, 0, 0, 0, 0, 0, 0, 0, 0, 0]
theorem rz_hp : xHp xRgn rzT rzPl rzAw0 := xHpB_ok (by decide +kernel)
theorem rz_R0 (x : Nat) : rzR.getD x 0 = 0 := by
  rw [List.getD_eq_getElem?_getD]
  cases h : rzR[x]? with
  | none => rfl
  | some a => exact (by decide : ∀ a ∈ rzR, a = 0) a (List.mem_of_getElem? h)
/-- a slot that is known holds 0 -/
def rzOvB (c : rvC) (q : (Nat × Int × Int) × xV) : Bool := decide (0 ≤ q.1.2.2) && (match xSlot c q.1.2.2.toNat with
  | some (.inl (z, y)) => decide (z = 0) && decide (y = 0)
  | _ => false)
def rzStB (k : Nat) : Bool := match lwAh[k]?, rzPl[k]? with
  | some s, some i => decide (rzT[i]? = some s.1) && (match rzAw0[i]? with
    | some c => s.2.all (rzOvB c)
    | none => false)
  | _, _ => false
theorem rz_stB : (List.range 52).all rzStB = true := by decide +kernel
theorem rz_ov {c : rvC} {j : Int} {x : Nat} (hx : x < 13) (h : rzOvB c ((0, 0, j), .inl (x, 1, 0)) = true) : xOv rzR rzT rzPl c ((0, 0, j), .inl (x, 1, 0)) := by
  have e0 : xVal rzR (xSm (x, 1, 0)) = 0 := by
    show 1 * rzR.getD x 0 + 0 + 0 = 0
    rw [rz_R0]
    rfl
  obtain ⟨h1, h2⟩ := rv_and h
  have h1 : 0 ≤ j := of_decide_eq_true h1
  have h2 : (match xSlot c j.toNat with
    | some (.inl (z, y)) => decide (z = 0) && decide (y = 0)
    | _ => false) = true := h2
  split at h2
  · rename_i z y hs
    obtain ⟨k1, k2⟩ := rv_and h2
    have k1 := of_decide_eq_true k1
    have k2 := of_decide_eq_true k2
    subst k1; subst k2
    refine ⟨fun q hq => (by cases hq), j.toNat, .inl (0, 0), ?_, hs, fun q hq => ?_, ?_, ?_⟩
    · show 0 + j = (j.toNat : Int)
      omega
    · have hq : q ∈ [(x, (1 : Int))] := hq
      have := List.mem_singleton.mp hq
      subst this
      show x < 13
      exact hx
    · rw [e0]; exact ⟨by omega, by omega⟩
    · rw [e0]
  · cases h2
theorem rz_st : xSt rzR rzT rzPl lwAh rzAw0 := by
  refine ⟨rfl, fun k s hk => ?_⟩
  have hk52 : k < 52 := (List.getElem?_eq_some_iff.mp hk).1
  have hb := List.all_eq_true.mp rz_stB k (List.mem_range.mpr hk52)
  unfold rzStB at hb
  rw [hk] at hb
  split at hb
  · rename_i s' i es ei
    cases es
    obtain ⟨b1, b2⟩ := rv_and hb
    split at b2
    · rename_i c hc
      refine ⟨i, c, ei, of_decide_eq_true b1, hc, fun q hq => ?_⟩
      have hv := List.all_eq_true.mp b2 q hq
      obtain ⟨j, x, e, x1, x2⟩ := lwAh_ok (List.mem_of_getElem? hk) hq
      subst e
      exact rz_ov x2 hv
    · cases b2
  · cases hb
theorem rz_rd31 : xRd rzPl rzAw0 31 115 = some 0 := by decide +kernel
theorem rz_rd48 : ([0, 1] : List Nat).all (fun h => [0, 2, 3, 115].all (fun j => decide (xRd rzPl rzAw0 48 (296 * h + j) = some 0))) = true := by decide +kernel
theorem rz_no14 : rzT.all (fun g => !Nat.beq g 14) = true := by decide +kernel
theorem rz_si (h : Nat) (hh : h ∈ ([0, 1] : List Nat)) : xSi (fun j => xRd rzPl rzAw0 48 (296 * h + j)) := by
  have k := List.all_eq_true.mp rz_rd48 h hh
  have k0 : xRd rzPl rzAw0 48 (296 * h + 0) = some 0 := of_decide_eq_true (List.all_eq_true.mp k 0 (by simp))
  have k2 : xRd rzPl rzAw0 48 (296 * h + 2) = some 0 := of_decide_eq_true (List.all_eq_true.mp k 2 (by simp))
  have k3 : xRd rzPl rzAw0 48 (296 * h + 3) = some 0 := of_decide_eq_true (List.all_eq_true.mp k 3 (by simp))
  have k5 : xRd rzPl rzAw0 48 (296 * h + 115) = some 0 := of_decide_eq_true (List.all_eq_true.mp k 115 (by simp))
  exact ⟨⟨0, k3, by omega, fun j hj => absurd hj (by omega)⟩, ⟨0, 0, by omega, k5, rfl⟩, 0, 0, k0, k2, by omega⟩
theorem rz_fs : ∀ f ∈ lwFs, ∀ P : xP, xFM P f rzR rzT rzPl rzAw0 := by
  intro f hf P
  have hf : f ∈ lwFs := hf
  rcases List.mem_cons.mp hf with e | hf
  · subst e
    refine ⟨fun v hv => ?_, ?_⟩
    · have := List.mem_singleton.mp hv
      subst this
      intro q hq
      have hq : q ∈ [((9 : Nat), (1 : Int))] := hq
      have := List.mem_singleton.mp hq
      subst this
      show 9 < 13
      omega
    · show xPf (xRd rzPl rzAw0) 5 0
      intro j hj
      exact absurd hj (by omega)
  rcases List.mem_cons.mp hf with e | hf
  · subst e
    exact ⟨fun v hv => (by cases hv), 0, 0, by omega, rz_rd31, rfl⟩
  rcases List.mem_cons.mp hf with e | hf
  · subst e
    exact ⟨fun v hv => (by cases hv), rz_si 0 (by simp)⟩
  rcases List.mem_cons.mp hf with e | hf
  · subst e
    exact ⟨fun v hv => (by cases hv), rz_si 1 (by simp)⟩
  rcases List.mem_cons.mp hf with e | hf
  · subst e
    show xSgA rzT rzAw0
    intro i hi
    have := List.all_eq_true.mp rz_no14 _ (List.mem_of_getElem? hi)
    cases this
  · cases hf
theorem rz_qs : xQs (lwN, lwC) rzR := by
  refine ⟨⟨rfl, fun x a hx => ?_⟩, fun c hc => ?_, fun c hc => ?_⟩
  · match x, hx with
    | 0, hx => cases hx; exact ⟨by decide, by decide⟩
    | 1, hx => cases hx; exact ⟨by decide, by decide⟩
    | 2, hx => cases hx; exact ⟨by decide, by decide⟩
    | 3, hx => cases hx; exact ⟨by decide, by decide⟩
    | 4, hx => cases hx; exact ⟨by decide, by decide⟩
    | 5, hx => cases hx; exact ⟨by decide, by decide⟩
    | 6, hx => cases hx; exact ⟨by decide, by decide⟩
    | 7, hx => cases hx; exact ⟨by decide, by decide⟩
    | 8, hx => cases hx; exact ⟨by decide, by decide⟩
    | 9, hx => cases hx; exact ⟨by decide, by decide⟩
    | 10, hx => cases hx; exact ⟨by decide, by decide⟩
    | 11, hx => cases hx; exact ⟨by decide, by decide⟩
    | 12, hx => cases hx; exact ⟨by decide, by decide⟩
    | n + 13, hx => cases hx
  · have hc : c ∈ lwC := hc
    have e := List.mem_singleton.mp hc
    subst e
    decide
  · have hc : c ∈ lwC := hc
    have e := List.mem_singleton.mp hc
    subst e
    intro q hq
    have hq : q ∈ [((6 : Nat), (10 : Int)), (8, (-1))] := hq
    rcases List.mem_cons.mp hq with e | hq
    · subst e; show 6 < 13; omega
    · have e := List.mem_singleton.mp hq
      subst e; show 8 < 13; omega
theorem rz_inv : lwInv rzR rzT rzPl rzAw0 := ⟨rz_st, rz_hp, rz_fs, rz_qs⟩
theorem rz_loc : lwLoc rzPl (.inr (2, 0)) (.inr (2, 109)) (.inr (2, 131)) := ⟨⟨_, rfl, rfl⟩, ⟨_, rfl, rfl⟩, ⟨_, rfl, rfl⟩⟩
