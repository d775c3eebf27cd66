/-! Linear sums over variables whose ranges are known: lower bounds, what follows from constraints, ranges cut by a constraint. -/
/-- terms (variable, how often) and a constant -/
abbrev xL : Type := List (Nat × Int) × Int
abbrev xN : Type := List (Int × Int)
def xEv (r : List Int) (t : List (Nat × Int)) : Int := match t with
  | [] => 0
  | (x, k) :: t => k * r.getD x 0 + xEv r t
def xVal (r : List Int) (l : xL) : Int := xEv r l.1 + l.2
/-- all variables of a sum are among n -/
def xWf (n : Nat) (t : List (Nat × Int)) : Prop := ∀ q ∈ t, q.1 < n
def xLo (N : xN) (t : List (Nat × Int)) : Option Int := match t with
  | [] => some 0
  | (x, k) :: t => match N[x]? with
    | some a => match xLo N t with
      | some b => some ((bif decide (0 ≤ k) then k * a.1 else k * a.2) + b)
      | none => none
    | none => none
/-- the ranges hold -/
def xRg (N : xN) (r : List Int) : Prop := N.length = r.length ∧ ∀ (x : Nat) (a : Int × Int), N[x]? = some a → a.1 ≤ r.getD x 0 ∧ r.getD x 0 ≤ a.2
theorem xLo_ok {N : xN} {r : List Int} (h : xRg N r) : ∀ {t : List (Nat × Int)} {b : Int}, xLo N t = some b → b ≤ xEv r t
  | [], b, hb => by
      have e : (0 : Int) = b := Option.some.inj hb
      rw [← e]; exact Int.le_refl _
  | (x, k) :: t, b, hb => by
      unfold xLo at hb
      split at hb
      · rename_i a ha
        split at hb
        · rename_i c hc
          have e := Option.some.inj hb
          have h1 := xLo_ok h hc
          obtain ⟨p, q⟩ := h.2 x a ha
          rw [← e]
          show _ ≤ k * r.getD x 0 + xEv r t
          refine Int.add_le_add ?_ h1
          cases hk : decide (0 ≤ k) with
          | true => exact Int.mul_le_mul_of_nonneg_left p (of_decide_eq_true hk)
          | false =>
            have hk := of_decide_eq_false hk
            exact Int.mul_le_mul_of_nonpos_left (by omega) q
        · cases hb
      · cases hb
theorem xLo_wf {N : xN} : ∀ {t : List (Nat × Int)} {b : Int}, xLo N t = some b → xWf N.length t
  | [], _, _ => fun q hq => by cases hq
  | (x, k) :: t, b, hb => by
      unfold xLo at hb
      split at hb
      · rename_i a ha
        split at hb
        · rename_i c hc
          intro q hq
          rcases List.mem_cons.mp hq with e | hq
          · rw [e]; exact (List.getElem?_eq_some_iff.mp ha).1
          · exact xLo_wf hc q hq
        · cases hb
      · cases hb
/-- a term is put among others -/
def xIns (x : Nat) (k : Int) (t : List (Nat × Int)) : List (Nat × Int) := match t with
  | [] => [(x, k)]
  | (y, j) :: t => bif Nat.beq x y then (bif decide (j + k = 0) then t else (y, j + k) :: t) else (y, j) :: xIns x k t
theorem xIns_ok (r : List Int) (x : Nat) (k : Int) : ∀ t : List (Nat × Int), xEv r (xIns x k t) = k * r.getD x 0 + xEv r t
  | [] => rfl
  | (y, j) :: t => by
      unfold xIns
      cases hb : Nat.beq x y with
      | true =>
        have e := rv_beq hb
        subst e
        cases hz : decide (j + k = 0) with
        | true =>
          have hz := of_decide_eq_true hz
          show xEv r t = k * r.getD x 0 + (j * r.getD x 0 + xEv r t)
          rw [← Int.add_assoc, ← Int.add_mul, Int.add_comm k j, hz, Int.zero_mul, Int.zero_add]
        | false =>
          show (j + k) * r.getD x 0 + xEv r t = k * r.getD x 0 + (j * r.getD x 0 + xEv r t)
          rw [← Int.add_assoc, ← Int.add_mul, Int.add_comm k j]
      | false =>
        show j * r.getD y 0 + xEv r (xIns x k t) = k * r.getD x 0 + (j * r.getD y 0 + xEv r t)
        rw [xIns_ok r x k t]
        omega
/-- a sum less m times another's terms -/
def xTm (t u : List (Nat × Int)) (m : Int) : List (Nat × Int) := match u with
  | [] => t
  | (x, k) :: u => xTm (xIns x (m * k) t) u m
theorem xTm_ok (r : List Int) (m : Int) : ∀ (u t : List (Nat × Int)), xEv r (xTm t u m) = xEv r t + m * xEv r u
  | [], t => by
      show xEv r t = xEv r t + m * 0
      rw [Int.mul_zero, Int.add_zero]
  | (x, k) :: u, t => by
      show xEv r (xTm (xIns x (m * k) t) u m) = xEv r t + m * (k * r.getD x 0 + xEv r u)
      rw [xTm_ok r m u, xIns_ok, Int.mul_add, Int.mul_assoc]
      omega
def xSub (a b : xL) : xL := (xTm a.1 b.1 (-1), a.2 - b.2)
def xAdd (a b : xL) : xL := (xTm a.1 b.1 1, a.2 + b.2)
def xMul (m : Int) (a : xL) : xL := (xTm [] a.1 m, m * a.2)
theorem xSub_ok (r : List Int) (a b : xL) : xVal r (xSub a b) = xVal r a - xVal r b := by
  unfold xVal xSub
  rw [xTm_ok]
  omega
theorem xAdd_ok (r : List Int) (a b : xL) : xVal r (xAdd a b) = xVal r a + xVal r b := by
  unfold xVal xAdd
  rw [xTm_ok]
  omega
theorem xMul_ok (r : List Int) (m : Int) (a : xL) : xVal r (xMul m a) = m * xVal r a := by
  unfold xVal xMul
  rw [xTm_ok, Int.mul_add]
  show 0 + m * xEv r a.1 + m * a.2 = _
  omega
def xK (c : Int) : xL := ([], c)
theorem xK_ok (r : List Int) (c : Int) : xVal r (xK c) = c := Int.zero_add c
/-- is a sum surely at least 0: by the ranges, then less constraints, n deep -/
def xGe (N : xN) (l : xL) : Bool := match xLo N l.1 with
  | some b => decide (0 ≤ b + l.2)
  | none => false
def xSh (t u : List (Nat × Int)) : Bool := t.any fun q => u.any fun p => Nat.beq q.1 p.1
noncomputable def xEntD (N : xN) (C : List xL) (n : Nat) : xL → Bool :=
  Nat.rec (motive := fun _ => xL → Bool) (fun l => xGe N l) (fun _ ih l => xGe N l || C.any fun c => xSh c.1 l.1 && ih (xSub l c)) n
/-- the last variable that counts up -/
def xPk (t : List (Nat × Int)) : Option (Nat × Int) := match t with
  | [] => none
  | q :: t => match xPk t with
    | some p => bif decide (0 < q.2) && Nat.blt p.1 q.1 then some q else some p
    | none => bif decide (0 < q.2) then some q else none
def xIs2 (t : List (Nat × Int)) : Bool := match t with
  | [_, _] => true
  | _ => false
def xIs3 (t : List (Nat × Int)) : Bool := match t with
  | _ :: _ :: _ :: _ => true
  | _ => false
def xTwo (l : xL) : Bool := match l.1 with
  | _ :: _ :: _ => true
  | _ => false
/-- chains: the last variable is replaced by what bounds it from below -/
noncomputable def xChn (N : xN) (C : List xL) (n : Nat) : xL → Bool :=
  Nat.rec (motive := fun _ => xL → Bool) (fun l => xGe N l) (fun _ ih l => xGe N l || match xPk l.1 with
    | some p => C.any fun c => (xIs2 c.1 && (c.1.any (fun q => Nat.beq q.1 p.1 && decide (q.2 = 1)) && c.1.all (fun q => Nat.ble q.1 p.1))) && ih (xSub l (xMul p.2 c))
    | none => false) n
/-- sums of three and more -/
noncomputable def xBig (N : xN) (C : List xL) (n : Nat) : xL → Bool :=
  Nat.rec (motive := fun _ => xL → Bool) (fun l => xGe N l || C.any fun c => xSh c.1 l.1 && xGe N (xSub l c)) (fun _ ih l => (xGe N l || C.any fun c => xSh c.1 l.1 && xGe N (xSub l c)) || C.any fun c => (xIs3 c.1 && (c.1.any (fun q => l.1.any (fun p => Nat.beq q.1 p.1 && decide (0 < q.2 * p.2))) && Nat.ble (xSub l c).1.length (max 4 l.1.length))) && ih (xSub l c)) n
noncomputable def xEnt (N : xN) (C : List xL) (n : Nat) (l : xL) : Bool := xEntD N C n l || (xTwo l && (xChn N C 9 l || xBig N C 4 l))
def xCs (C : List xL) (r : List Int) : Prop := ∀ c ∈ C, 0 ≤ xVal r c
theorem xGe_ok {N : xN} {r : List Int} {l : xL} (h : xRg N r) (hg : xGe N l = true) : 0 ≤ xVal r l := by
  unfold xGe at hg
  split at hg
  · rename_i b hb
    have := xLo_ok h hb
    have := of_decide_eq_true hg
    unfold xVal
    omega
  · cases hg
theorem xEntD_ok {N : xN} {C : List xL} {r : List Int} (h : xRg N r) (hc : xCs C r) : ∀ (n : Nat) {l : xL}, xEntD N C n l = true → 0 ≤ xVal r l
  | 0, l, hl => xGe_ok h hl
  | n + 1, l, hl => by
      have hl : (xGe N l || C.any fun c => xSh c.1 l.1 && xEntD N C n (xSub l c)) = true := hl
      rcases rv_or' hl with g | g
      · exact xGe_ok h g
      · obtain ⟨c, hm, g⟩ := List.any_eq_true.mp g
        have h1 := xEntD_ok h hc n (rv_and g).2
        rw [xSub_ok] at h1
        have h2 := hc c hm
        omega
theorem xPk_pos : ∀ {t : List (Nat × Int)} {p : Nat × Int}, xPk t = some p → 0 < p.2
  | [], _, h => by cases h
  | q :: t, p, h => by
      unfold xPk at h
      split at h
      · rename_i p2 h2
        cases hb : (decide (0 < q.2) && Nat.blt p2.1 q.1) with
        | true =>
          rw [hb] at h
          have e := Option.some.inj h
          rw [← e]
          exact of_decide_eq_true (rv_and hb).1
        | false =>
          rw [hb] at h
          have e := Option.some.inj h
          rw [← e]
          exact xPk_pos h2
      · obtain ⟨hb, e⟩ := rv_bif h
        rw [← e]
        exact of_decide_eq_true hb
theorem xChn_ok {N : xN} {C : List xL} {r : List Int} (h : xRg N r) (hc : xCs C r) : ∀ (n : Nat) {l : xL}, xChn N C n l = true → 0 ≤ xVal r l
  | 0, l, hl => xGe_ok h hl
  | n + 1, l, hl => by
      have hl : (xGe N l || match xPk l.1 with
        | some p => C.any fun c => (xIs2 c.1 && (c.1.any (fun q => Nat.beq q.1 p.1 && decide (q.2 = 1)) && c.1.all (fun q => Nat.ble q.1 p.1))) && xChn N C n (xSub l (xMul p.2 c))
        | none => false) = true := hl
      rcases rv_or' hl with g | g
      · exact xGe_ok h g
      · split at g
        · rename_i p hp
          obtain ⟨c, hm, g⟩ := List.any_eq_true.mp g
          have h1 := xChn_ok h hc n (rv_and g).2
          rw [xSub_ok, xMul_ok] at h1
          have h2 := hc c hm
          have h3 := Int.mul_nonneg (Int.le_of_lt (xPk_pos hp)) h2
          omega
        · cases g
theorem xBig_ok {N : xN} {C : List xL} {r : List Int} (h : xRg N r) (hc : xCs C r) : ∀ (n : Nat) {l : xL}, xBig N C n l = true → 0 ≤ xVal r l
  | 0, l, hl => by
      have hl : (xGe N l || C.any fun c => xSh c.1 l.1 && xGe N (xSub l c)) = true := hl
      rcases rv_or' hl with g | g
      · exact xGe_ok h g
      · obtain ⟨c, hm, g⟩ := List.any_eq_true.mp g
        have h1 := xGe_ok h (rv_and g).2
        rw [xSub_ok] at h1
        have h2 := hc c hm
        omega
  | n + 1, l, hl => by
      have hl : ((xGe N l || C.any fun c => xSh c.1 l.1 && xGe N (xSub l c)) || C.any fun c => (xIs3 c.1 && (c.1.any (fun q => l.1.any (fun p => Nat.beq q.1 p.1 && decide (0 < q.2 * p.2))) && Nat.ble (xSub l c).1.length (max 4 l.1.length))) && xBig N C n (xSub l c)) = true := hl
      rcases rv_or' hl with g | g
      · rcases rv_or' g with g | g
        · exact xGe_ok h g
        · obtain ⟨c, hm, g⟩ := List.any_eq_true.mp g
          have h1 := xGe_ok h (rv_and g).2
          rw [xSub_ok] at h1
          have h2 := hc c hm
          omega
      · obtain ⟨c, hm, g⟩ := List.any_eq_true.mp g
        have h1 := xBig_ok h hc n (rv_and g).2
        rw [xSub_ok] at h1
        have h2 := hc c hm
        omega
theorem xEnt_ok {N : xN} {C : List xL} {r : List Int} (h : xRg N r) (hc : xCs C r) (n : Nat) {l : xL} (hl : xEnt N C n l = true) : 0 ≤ xVal r l := by
  rcases rv_or' hl with g | g
  · exact xEntD_ok h hc n g
  · rcases rv_or' (rv_and g).2 with g | g
    · exact xChn_ok h hc 9 g
    · exact xBig_ok h hc 4 g
/-- the variables of a state grow at their end -/
theorem xEv_app {r : List Int} {v : Int} : ∀ {t : List (Nat × Int)}, xWf r.length t → xEv (r ++ [v]) t = xEv r t
  | [], _ => rfl
  | (x, k) :: t, h => by
      have h1 : x < r.length := h (x, k) List.mem_cons_self
      have h2 := xEv_app (v := v) (t := t) (fun q hq => h q (List.mem_cons_of_mem _ hq))
      show k * (r ++ [v]).getD x 0 + xEv (r ++ [v]) t = k * r.getD x 0 + xEv r t
      rw [h2]
      congr 2
      rw [List.getD_eq_getElem?_getD, List.getD_eq_getElem?_getD, List.getElem?_append_left h1]
theorem xRg_app {N : xN} {r : List Int} {v : Int} {a : Int × Int} (h : xRg N r) (h1 : a.1 ≤ v) (h2 : v ≤ a.2) : xRg (N ++ [a]) (r ++ [v]) := by
  refine ⟨by simp [h.1], fun x b hb => ?_⟩
  by_cases hx : x < N.length
  · rw [List.getElem?_append_left hx] at hb
    obtain ⟨p, q⟩ := h.2 x b hb
    have hr : x < r.length := by rw [← h.1]; exact hx
    rw [List.getD_eq_getElem?_getD, List.getElem?_append_left hr, ← List.getD_eq_getElem?_getD]
    exact ⟨p, q⟩
  · have hlt := (List.getElem?_eq_some_iff.mp hb).1
    have hx2 : x = N.length := by simp at hlt; omega
    subst hx2
    rw [List.getElem?_append_right (Nat.le_refl _)] at hb
    simp at hb
    subst hb
    rw [h.1, List.getD_eq_getElem?_getD, List.getElem?_append_right (Nat.le_refl _)]
    simp [h1, h2]
/-- the range of a variable is cut by a constraint: what is left of the sum is at most h -/
def xCut1 (a : Int × Int) (k h : Int) : Int × Int := bif decide (0 < k) then (max a.1 (-(h / k)), a.2) else bif decide (k < 0) then (a.1, min a.2 (h / (-k))) else a
theorem xCut1_ok {a : Int × Int} {k h x : Int} (h1 : a.1 ≤ x) (h2 : x ≤ a.2) (hk : 0 ≤ k * x + h) : (xCut1 a k h).1 ≤ x ∧ x ≤ (xCut1 a k h).2 := by
  unfold xCut1
  cases hp : decide (0 < k) with
  | true =>
    have hp := of_decide_eq_true hp
    refine ⟨Int.max_le.mpr ⟨h1, ?_⟩, h2⟩
    have q : -x ≤ h / k := by
      rw [Int.le_ediv_iff_mul_le hp]
      have : -x * k = -(k * x) := by rw [Int.neg_mul, Int.mul_comm]
      omega
    omega
  | false =>
    cases hn : decide (k < 0) with
    | true =>
      have hn := of_decide_eq_true hn
      refine ⟨h1, Int.le_min.mpr ⟨h2, ?_⟩⟩
      rw [Int.le_ediv_iff_mul_le (by omega)]
      have : x * -k = -(k * x) := by rw [Int.mul_neg, Int.mul_comm]
      omega
    | false => exact ⟨h1, h2⟩
