/-! A slot of a cell is written at an index that is a number of the state: rows. -/
def xKillG (g : Nat) (kp : (Nat × Int × Int) × xV → Bool) (ah : List xC) : List xC := ah.map (fun s => bif Nat.beq s.1 g then (s.1, s.2.filter kp) else s)
theorem xSt_gen {r : List Int} {T pl : List Nat} {ah : List xC} {aw : rvH} {i g j : Nat} {c c' : rvC} {kp : (Nat × Int × Int) × xV → Bool} (hS : xSt r T pl ah aw) (hi : T[i]? = some g) (hc : aw[i]? = some c) (hsl : ∀ m, m ≠ j → xSlot c' m = xSlot c m) (hkp : ∀ q, kp q = true → ∀ m : Nat, xVal r (xSm q.1) = (m : Int) → m ≠ j) :
    xSt r T pl (xKillG g kp ah) (aw.set i c') := by
  refine ⟨by unfold xKillG; rw [List.length_map]; exact hS.1, fun k s hs => ?_⟩
  unfold xKillG at hs
  rw [List.getElem?_map] at hs
  cases hk : ah[k]? with
  | none => rw [hk] at hs; cases hs
  | some s0 =>
    rw [hk] at hs
    have hs : (bif Nat.beq s0.1 g then (s0.1, s0.2.filter kp) else s0) = s := Option.some.inj hs
    obtain ⟨i2, c2, h1, h2, h3, h4⟩ := hS.2 k s0 hk
    by_cases hii : i = i2
    · subst hii
      have e : s0.1 = g := by rw [hi] at h2; exact (Option.some.inj h2).symm
      have hb : Nat.beq s0.1 g = true := by rw [e]; exact Nat.beq_refl g
      rw [hb] at hs
      have hs : (s0.1, s0.2.filter kp) = s := hs
      subst hs
      have hlt := (List.getElem?_eq_some_iff.mp hc).1
      refine ⟨i, c', h1, h2, by rw [List.getElem?_set]; simp [hlt], fun q hq => ?_⟩
      obtain ⟨hq1, hq2⟩ := List.mem_filter.mp hq
      have ec : c2 = c := by rw [hc] at h3; exact (Option.some.inj h3).symm
      subst ec
      obtain ⟨w1, m, v, e1, e2, e3⟩ := h4 q hq1
      refine ⟨w1, m, v, e1, ?_, e3⟩
      rw [hsl m (hkp q hq2 m e1)]
      exact e2
    · have h3' : (aw.set i c')[i2]? = some c2 := by
        rw [List.getElem?_set]
        simp [hii]
        exact h3
      cases hb : Nat.beq s0.1 g with
      | true =>
        rw [hb] at hs
        have hs : (s0.1, s0.2.filter kp) = s := hs
        subst hs
        exact ⟨i2, c2, h1, h2, h3', fun q hq => h4 q (List.mem_filter.mp hq).1⟩
      | false =>
        rw [hb] at hs
        have hs : s0 = s := hs
        subst hs
        exact ⟨i2, c2, h1, h2, h3', h4⟩
theorem xSt_genK {r : List Int} {T pl : List Nat} {ah : List xC} {aw : rvH} {k i g j : Nat} {ov : List ((Nat × Int × Int) × xV)} {c c' : rvC} {kp : (Nat × Int × Int) × xV → Bool} {ky : Nat × Int × Int} {v : xV} {w : rvV} (hS : xSt r T pl ah aw) (hk : ah[k]? = some (g, ov)) (hp : pl[k]? = some i) (hi : T[i]? = some g) (hc : aw[i]? = some c) (hsl : ∀ m, m ≠ j → xSlot c' m = xSlot c m) (hkp : ∀ q, kp q = true → ∀ m : Nat, xVal r (xSm q.1) = (m : Int) → m ≠ j)
    (hw : xWf r.length (xSm ky).1) (hj : xVal r (xSm ky) = (j : Int)) (hs : xSlot c' j = some w) (hv : xR r T pl v w) : xSt r T pl ((xKillG g kp ah).set k (g, (ky, v) :: ov.filter kp)) (aw.set i c') := by
  have h1 := xSt_gen hS hi hc hsl hkp
  have hk2 : (xKillG g kp ah)[k]? = some (g, ov.filter kp) := by
    unfold xKillG
    rw [List.getElem?_map, hk]
    show some (bif Nat.beq g g then (g, ov.filter kp) else (g, ov)) = _
    rw [Nat.beq_refl]
    rfl
  have hlt := (List.getElem?_eq_some_iff.mp hc).1
  have hc2 : (aw.set i c')[i]? = some c' := by rw [List.getElem?_set]; simp [hlt]
  refine xSt_put h1 hk2 hp hc2 (fun q hq => ?_)
  rcases List.mem_cons.mp hq with e | hq
  · rw [e]
    exact ⟨hw, j, w, hj, hs, hv⟩
  · obtain ⟨i3, c3, g1, g2, g3, g4⟩ := h1.2 k _ hk2
    have e : i3 = i := by rw [hp] at g1; exact (Option.some.inj g1).symm
    subst e
    rw [hc2] at g3
    rw [Option.some.inj g3]
    exact g4 q hq
/-- two indices are surely apart -/
noncomputable def xApart (d : Nat) (Q : xQ) (a b : Nat × Int × Int) : Bool := xEnt Q.1 Q.2 d (xSub (xSub (xSm a) (xSm b)) (xK 1)) || xEnt Q.1 Q.2 d (xSub (xSub (xSm b) (xSm a)) (xK 1))
theorem xApart_ok {d : Nat} {Q : xQ} {r : List Int} {a b : Nat × Int × Int} (h : xQs Q r) (ha : xApart d Q a b = true) : xVal r (xSm a) ≠ xVal r (xSm b) := by
  rcases rv_or' ha with g | g
  · have := xEnt_ok h.1 h.2.1 d g
    rw [xSub_ok, xSub_ok, xK_ok] at this
    omega
  · have := xEnt_ok h.1 h.2.1 d g
    rw [xSub_ok, xSub_ok, xK_ok] at this
    omega
/-- a row's slot and a store into it -/
theorem xSlot_row {q n j m : Nat} {d v : rvV} {ov : List (Nat × rvV)} (h : m ≠ j) : xSlot (.inr (q, n, d, rvUp ov j v)) m = xSlot (.inr (q, n, d, ov)) m := by
  show (bif Nat.blt m n then some (rvLook d (rvUp ov j v) m) else none) = (bif Nat.blt m n then some (rvLook d ov m) else none)
  rw [rvLook_up, if_neg h]
theorem xSlot_rowJ {q n j : Nat} {d v : rvV} {ov : List (Nat × rvV)} (h : j < n) : xSlot (.inr (q, n, d, rvUp ov j v)) j = some v := by
  have hb : Nat.blt j n = true := Nat.ble_eq_true_of_le h
  show (bif Nat.blt j n then some (rvLook d (rvUp ov j v) j) else none) = some v
  rw [hb, rvLook_up, if_pos rfl]
  rfl
theorem xHp_row {rg : Nat → xG} {T pl : List Nat} {aw : rvH} {i g q n p j : Nat} {sg : List (Nat × xT)} {d w : rvV} {ov : List (Nat × rvV)} (hP : xHp rg T pl aw) (hi : T[i]? = some g) (hg : rg g = .inr (q, n, p, sg)) (hc : aw[i]? = some (.inr (q, n, d, ov))) (hw : xTy T pl (xAt sg (j % p)) w) :
    xHp rg T pl (aw.set i (.inr (q, n, d, rvUp ov j w))) := by
  refine ⟨by rw [List.length_set]; exact hP.1, fun i2 g2 c2 h1 h2 => ?_⟩
  rw [List.getElem?_set] at h2
  by_cases hii : i = i2
  · subst hii
    have hlt := (List.getElem?_eq_some_iff.mp hc).1
    simp [hlt] at h2
    subst h2
    have e : g2 = g := by rw [hi] at h1; exact (Option.some.inj h1).symm
    subst e
    have hcell := hP.2 i g2 _ hi hc
    rw [hg] at hcell ⊢
    obtain ⟨h3, h4, h5⟩ := hcell
    refine ⟨rfl, rfl, fun m hm => ?_⟩
    rw [rvLook_up]
    by_cases hmj : m = j
    · rw [if_pos hmj, hmj]
      exact hw
    · rw [if_neg hmj]
      exact h5 m hm
  · simp [hii] at h2
    exact hP.2 i2 g2 c2 h1 h2
