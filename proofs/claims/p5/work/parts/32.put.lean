/-! A field is written: the types stay, what is known of the slot in cells of that region is forgotten. -/
def xKeepO (a : Nat) (q : (Nat × Int × Int) × xV) : Bool := decide (q.1.2.1 = 0) && !decide (q.1.2.2 = (a : Int))
def xKillO (g a : Nat) (ah : List xC) : List xC := ah.map (fun s => bif Nat.beq s.1 g then (s.1, s.2.filter (xKeepO a)) else s)
theorem xHp_put {rg : Nat → xG} {T pl : List Nat} {aw : rvH} {i g ci a : Nat} {fts : List xT} {fl : List rvV} {ty : xT} {w : rvV} (hP : xHp rg T pl aw) (hi : T[i]? = some g) (hg : rg g = .inl (ci, fts)) (hc : aw[i]? = some (.inl (ci, fl))) (ha : fts[a]? = some ty) (hw : xTy T pl ty w) :
    xHp rg T pl (aw.set i (.inl (ci, fl.set a w))) := by
  refine ⟨by rw [List.length_set]; exact hP.1, fun i2 g2 c2 h1 h2 => ?_⟩
  rw [List.getElem?_set] at h2
  by_cases hii : i = i2
  · subst hii
    have hlt := (List.getElem?_eq_some_iff.mp hc).1
    simp [hlt] at h2
    subst h2
    have e : g2 = g := by rw [hi] at h1; exact (Option.some.inj h1).symm
    subst e
    have hcell := hP.2 i g2 _ hi hc
    rw [hg] at hcell ⊢
    obtain ⟨h3, h4, h5⟩ := hcell
    refine ⟨rfl, by rw [List.length_set]; exact h4, fun f ty2 v h6 h7 => ?_⟩
    rw [List.getElem?_set] at h7
    by_cases hf : a = f
    · subst hf
      have hla : a < fl.length := by
        have := (List.getElem?_eq_some_iff.mp ha).1
        omega
      simp [hla] at h7
      subst h7
      rw [ha] at h6
      rw [← Option.some.inj h6]
      exact hw
    · simp [hf] at h7
      exact h5 f ty2 v h6 h7
  · simp [hii] at h2
    exact hP.2 i2 g2 c2 h1 h2
theorem xSlot_put {ci a j : Nat} {fl : List rvV} {w : rvV} (h : ¬ a = j) : xSlot (.inl (ci, fl.set a w)) j = xSlot (.inl (ci, fl)) j := by
  show (fl.set a w)[j]? = fl[j]?
  rw [List.getElem?_set]
  simp [h]
theorem xSt_putO {r : List Int} {T pl : List Nat} {ah : List xC} {aw : rvH} {i g ci a : Nat} {fl : List rvV} {w : rvV} (hS : xSt r T pl ah aw) (hi : T[i]? = some g) (hc : aw[i]? = some (.inl (ci, fl))) :
    xSt r T pl (xKillO g a ah) (aw.set i (.inl (ci, fl.set a w))) := by
  refine ⟨by unfold xKillO; rw [List.length_map]; exact hS.1, fun k s hs => ?_⟩
  unfold xKillO at hs
  rw [List.getElem?_map] at hs
  cases hk : ah[k]? with
  | none => rw [hk] at hs; cases hs
  | some s0 =>
    rw [hk] at hs
    have hs : (bif Nat.beq s0.1 g then (s0.1, s0.2.filter (xKeepO a)) else s0) = s := Option.some.inj hs
    obtain ⟨i2, c, h1, h2, h3, h4⟩ := hS.2 k s0 hk
    by_cases hii : i = i2
    · subst hii
      have e : s0.1 = g := by rw [hi] at h2; exact (Option.some.inj h2).symm
      have hb : Nat.beq s0.1 g = true := by rw [e]; exact Nat.beq_refl g
      rw [hb] at hs
      have hs : (s0.1, s0.2.filter (xKeepO a)) = s := hs
      subst hs
      have hlt := (List.getElem?_eq_some_iff.mp hc).1
      refine ⟨i, .inl (ci, fl.set a w), h1, h2, by rw [List.getElem?_set]; simp [hlt], fun q hq => ?_⟩
      obtain ⟨hq1, hq2⟩ := List.mem_filter.mp hq
      obtain ⟨b1, b2⟩ := rv_and hq2
      have b1 := of_decide_eq_true b1
      have b2 : ¬ q.1.2.2 = (a : Int) := by simpa using b2
      have ec : c = .inl (ci, fl) := by rw [hc] at h3; exact (Option.some.inj h3).symm
      subst ec
      obtain ⟨w1, j, v, e1, e2, e3⟩ := h4 q hq1
      refine ⟨w1, j, v, e1, ?_, e3⟩
      rw [xSm_val, b1] at e1
      rw [xSlot_put (by omega)]
      exact e2
    · have h3' : (aw.set i (.inl (ci, fl.set a w)))[i2]? = some c := by
        rw [List.getElem?_set]
        simp [hii]
        exact h3
      cases hb : Nat.beq s0.1 g with
      | true =>
        rw [hb] at hs
        have hs : (s0.1, s0.2.filter (xKeepO a)) = s := hs
        subst hs
        exact ⟨i2, c, h1, h2, h3', fun q hq => h4 q (List.mem_filter.mp hq).1⟩
      | false =>
        rw [hb] at hs
        have hs : s0 = s := hs
        subst hs
        exact ⟨i2, c, h1, h2, h3', h4⟩
/-- and the strong cell that was written knows its new slot -/
theorem xSt_putK {r : List Int} {T pl : List Nat} {ah : List xC} {aw : rvH} {k i g ci a : Nat} {ov : List ((Nat × Int × Int) × xV)} {fl : List rvV} {v : xV} {w : rvV} (hS : xSt r T pl ah aw) (hk : ah[k]? = some (g, ov)) (hp : pl[k]? = some i) (hi : T[i]? = some g) (hc : aw[i]? = some (.inl (ci, fl))) (ha : a < fl.length) (hv : xR r T pl v w) :
    xSt r T pl ((xKillO g a ah).set k (g, ((0, 0, (a : Int)), v) :: ov.filter (xKeepO a))) (aw.set i (.inl (ci, fl.set a w))) := by
  have h1 := xSt_putO (a := a) (w := w) hS hi hc
  have hk2 : (xKillO g a ah)[k]? = some (g, ov.filter (xKeepO a)) := by
    unfold xKillO
    rw [List.getElem?_map, hk]
    show some (bif Nat.beq g g then (g, ov.filter (xKeepO a)) else (g, ov)) = _
    rw [Nat.beq_refl]
    rfl
  have hlt := (List.getElem?_eq_some_iff.mp hc).1
  have hc2 : (aw.set i (.inl (ci, fl.set a w)))[i]? = some (.inl (ci, fl.set a w)) := by rw [List.getElem?_set]; simp [hlt]
  refine xSt_put h1 hk2 hp hc2 (fun q hq => ?_)
  rcases List.mem_cons.mp hq with e | hq
  · rw [e]
    refine ⟨(fun p hp => by cases hp), a, w, ?_, ?_, hv⟩
    · rw [xSm_val]
      show 0 * _ + (a : Int) = a
      omega
    · show (fl.set a w)[a]? = some w
      rw [List.getElem?_set]
      simp [ha]
  · obtain ⟨i3, c3, g1, g2, g3, g4⟩ := h1.2 k _ hk2
    have e : i3 = i := by rw [hp] at g1; exact (Option.some.inj g1).symm
    subst e
    rw [hc2] at g3
    rw [Option.some.inj g3]
    exact g4 q hq
