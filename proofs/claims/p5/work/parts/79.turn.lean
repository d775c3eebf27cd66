/-! One turn of the law's loop. -/
def lwAh : List xC := [xe60, xe61, (62, [((0, 0, 0), .inl (11, 1, 0)), ((0, 0, 1), .inl (12, 1, 0))]), xe63, (64, [((0, 0, 2), .inl (10, 1, 0))]), xe65, xe66, xe67, xe68, xe69, xe70, xe71, xe72, xe73, xe74, xe75, xe76, xe77, xe78, xe79, xe80, xe81, xe82, xe83, xe84, xe85, xe86, xe87, xe88, (89, [((0, 0, 2), .inl (10, 1, 0))]), xe90, (91, [((0, 0, 0), .inl (6, 1, 0)), ((0, 0, 1), .inl (7, 1, 0)), ((0, 0, 2), .inl (8, 1, 0)), ((0, 0, 3), .inl (9, 1, 0))]), xe92, xe93, xe94, xe95, xe96, xe97, xe98, xe99, xe100, xe101, xe102, xe103, xe104, xe105, xe106, xe107, xe108, xe109, (110, [((0, 0, 0), .inl (11, 1, 0)), ((0, 0, 1), .inl (12, 1, 0))]), xe111]
def lwFs : List xF := [(4, [5], [(9, 1, 0)]), (7, [], []), (11, [0], []), (11, [1], []), (2, [], [])]
def lwN : xN := [(0, 3066), ((-2147483648), 2147483647), ((-2147483648), 2147483647), ((-2147483648), 2147483647), ((-2147483648), 2147483647), ((-2147483648), 2147483647), (0, 4), (0, 3), (0, 10), (0, 3), (0, 940), (0, 1), (0, 1)]
def lwC : List xL := [([(6, 10), (8, (-1))], 0)]
def lwAl : List xV := [.inr (5, 0), .inr (2, 0), .inr (2, 29), .inr (2, 51), .inl (0, 1, 0), .inr (9, 0), .inr (9, 0), .inl (1, 1, 0), .inl (2, 1, 0), .inl (3, 1, 0), .inl (4, 1, 0), .inl (5, 1, 0)]
/-- what holds at the head of the loop; the first six of r are the place and the five ints behind it -/
def lwInv (r : List Int) (T pl : List Nat) (aw : rvH) : Prop := xSt r T pl lwAh aw ∧ xHp xRgn T pl aw ∧ (∀ f ∈ lwFs, ∀ P : xP, xFM P f r T pl aw) ∧ xQs (lwN, lwC) r
theorem lw_len {r : List Int} {T pl : List Nat} {aw : rvH} (h : lwInv r T pl aw) : r.length = 13 := h.2.2.2.1.1.symm
/-- a slot that is known: its place a number, its value one of the variables behind the ints -/
def lwOvB (q : (Nat × Int × Int) × xV) : Bool := match q with
  | ((a, b, _), .inl (x, k, c)) => (Nat.beq a 0 && decide (b = 0)) && ((decide (k = 1) && decide (c = 0)) && (Nat.ble 6 x && Nat.blt x 13))
  | _ => false
theorem lwOvB_ok {q : (Nat × Int × Int) × xV} (h : lwOvB q = true) : ∃ (j : Int) (x : Nat), q = ((0, 0, j), .inl (x, 1, 0)) ∧ 6 ≤ x ∧ x < 13 := by
  obtain ⟨⟨a, b, j⟩, v⟩ := q
  rcases v with ⟨x, k, c⟩ | v
  · have h : ((Nat.beq a 0 && decide (b = 0)) && ((decide (k = 1) && decide (c = 0)) && (Nat.ble 6 x && Nat.blt x 13))) = true := h
    obtain ⟨h1, h2⟩ := rv_and h
    obtain ⟨h1, h3⟩ := rv_and h1
    obtain ⟨h2, h4⟩ := rv_and h2
    obtain ⟨h2, h5⟩ := rv_and h2
    obtain ⟨h4, h6⟩ := rv_and h4
    have h1 := rv_beq h1
    have h3 := of_decide_eq_true h3
    have h2 := of_decide_eq_true h2
    have h5 := of_decide_eq_true h5
    subst h1; subst h3; subst h2; subst h5
    exact ⟨j, x, rfl, rv_ble h4, rv_blt h6⟩
  · cases h
theorem lwAh_okB : lwAh.all (fun s => s.2.all lwOvB) = true := by decide +kernel
theorem lwAh_ok {s : xC} (hs : s ∈ lwAh) {q : (Nat × Int × Int) × xV} (hq : q ∈ s.2) : ∃ (j : Int) (x : Nat), q = ((0, 0, j), .inl (x, 1, 0)) ∧ 6 ≤ x ∧ x < 13 := lwOvB_ok (List.all_eq_true.mp (List.all_eq_true.mp lwAh_okB s hs) q hq)
theorem lw_xv {r r' : List Int} {T pl : List Nat} {x : Nat} {w : rvV} (hx : r'.getD x 0 = r.getD x 0) (hl : x < r'.length) (h : xR r T pl (.inl (x, 1, 0)) w) : xR r' T pl (.inl (x, 1, 0)) w := by
  obtain ⟨-, h2, h3⟩ := h
  have e : xVal r' (xSm (x, 1, 0)) = xVal r (xSm (x, 1, 0)) := by
    show 1 * r'.getD x 0 + 0 + 0 = 1 * r.getD x 0 + 0 + 0
    rw [hx]
  refine ⟨fun q hq => ?_, by rw [e]; exact h2, by rw [e]; exact h3⟩
  have hq : q ∈ [(x, (1 : Int))] := hq
  have := List.mem_singleton.mp hq
  subst this
  exact hl
theorem lw_ov {r r' : List Int} {T pl : List Nat} {c : rvC} {x : Nat} {j : Int} (hx : r'.getD x 0 = r.getD x 0) (hl : x < r'.length) (h : xOv r T pl c ((0, 0, j), .inl (x, 1, 0))) : xOv r' T pl c ((0, 0, j), .inl (x, 1, 0)) := by
  obtain ⟨-, j2, w, h2, h3, h4⟩ := h
  exact ⟨fun q hq => (by cases hq), j2, w, h2, h3, lw_xv hx hl h4⟩
theorem lw_st {r r' : List Int} {T pl : List Nat} {aw : rvH} (hx : ∀ x, 6 ≤ x → x < 13 → r'.getD x 0 = r.getD x 0) (hl : 13 ≤ r'.length) (h : xSt r T pl lwAh aw) : xSt r' T pl lwAh aw := by
  refine ⟨h.1, fun k s hk => ?_⟩
  obtain ⟨i, c, h1, h2, h3, h4⟩ := h.2 k s hk
  refine ⟨i, c, h1, h2, h3, fun q hq => ?_⟩
  have hq2 := h4 q hq
  obtain ⟨j, x, e, x1, x2⟩ := lwAh_ok (List.mem_of_getElem? hk) hq
  subst e
  exact lw_ov (hx x x1 x2) (by omega) hq2
theorem lw_fs {r r' : List Int} {T pl : List Nat} {aw : rvH} (hx : ∀ x, 6 ≤ x → x < 13 → r'.getD x 0 = r.getD x 0) (hl : 13 ≤ r'.length) (h : ∀ f ∈ lwFs, ∀ P : xP, xFM P f r T pl aw) : ∀ f ∈ lwFs, ∀ P : xP, xFM P f r' T pl aw := by
  intro f hf P
  have h0 := h f hf P
  have hf : f ∈ lwFs := hf
  rcases List.mem_cons.mp hf with e | hf
  · subst e
    obtain ⟨-, h2⟩ := h0
    refine ⟨fun v hv => ?_, ?_⟩
    · have := List.mem_singleton.mp hv
      subst this
      intro q hq
      have hq : q ∈ [((9 : Nat), (1 : Int))] := hq
      have := List.mem_singleton.mp hq
      subst this
      show 9 < r'.length
      omega
    · have e : [xVal r' (xSm (9, 1, 0))] = [xVal r (xSm (9, 1, 0))] := by
        show [1 * r'.getD 9 0 + 0 + 0] = [1 * r.getD 9 0 + 0 + 0]
        rw [hx 9 (by omega) (by omega)]
      show xFv 4 [5] [xVal r' (xSm (9, 1, 0))] (xRd pl aw)
      rw [e]
      exact h2
  rcases List.mem_cons.mp hf with e | hf
  · subst e; exact ⟨fun v hv => (by cases hv), h0.2⟩
  rcases List.mem_cons.mp hf with e | hf
  · subst e; exact ⟨fun v hv => (by cases hv), h0.2⟩
  rcases List.mem_cons.mp hf with e | hf
  · subst e; exact ⟨fun v hv => (by cases hv), h0.2⟩
  rcases List.mem_cons.mp hf with e | hf
  · subst e; exact h0
  · cases hf
/-- another place, other ints -/
theorem lw_other {r : List Int} {T pl : List Nat} {aw : rvH} {i v1 v2 v3 v4 v5 : Int} (h : lwInv r T pl aw) (hi : 0 ≤ i) (hi2 : i ≤ 3066) (h1 : xIn32 v1) (h2 : xIn32 v2) (h3 : xIn32 v3) (h4 : xIn32 v4) (h5 : xIn32 v5) : lwInv (i :: v1 :: v2 :: v3 :: v4 :: v5 :: r.drop 6) T pl aw := by
  have hl := lw_len h
  match r, hl, h with
  | [a0, a1, a2, a3, a4, a5, a6, a7, a8, a9, a10, a11, a12], _, h =>
    have hx : ∀ x, 6 ≤ x → x < 13 → (i :: v1 :: v2 :: v3 :: v4 :: v5 :: [a6, a7, a8, a9, a10, a11, a12]).getD x 0 = ([a0, a1, a2, a3, a4, a5, a6, a7, a8, a9, a10, a11, a12] : List Int).getD x 0 := by
      intro x p1 p2
      match x, p1, p2 with
      | 6, _, _ => rfl
      | 7, _, _ => rfl
      | 8, _, _ => rfl
      | 9, _, _ => rfl
      | 10, _, _ => rfl
      | 11, _, _ => rfl
      | 12, _, _ => rfl
      | n + 13, _, p2 => omega
    obtain ⟨g1, g2, g3, g4⟩ := h
    refine ⟨lw_st hx (Nat.le_refl 13) g1, g2, lw_fs hx (Nat.le_refl 13) g3, ⟨rfl, fun x a hx9 => ?_⟩, fun c hc => ?_, fun c hc => ?_⟩
    · by_cases p1 : 6 ≤ x
      · by_cases p2 : x < 13
        · show a.1 ≤ (i :: v1 :: v2 :: v3 :: v4 :: v5 :: [a6, a7, a8, a9, a10, a11, a12]).getD x 0 ∧ (i :: v1 :: v2 :: v3 :: v4 :: v5 :: [a6, a7, a8, a9, a10, a11, a12]).getD x 0 ≤ a.2
          rw [hx x p1 p2]
          exact g4.1.2 x a hx9
        · have := (List.getElem?_eq_some_iff.mp hx9).1
          have : x < 13 := this
          omega
      · match x, hx9, p1 with
        | 0, hx9, _ => cases hx9; exact ⟨hi, hi2⟩
        | 1, hx9, _ => cases hx9; exact h1
        | 2, hx9, _ => cases hx9; exact h2
        | 3, hx9, _ => cases hx9; exact h3
        | 4, hx9, _ => cases hx9; exact h4
        | 5, hx9, _ => cases hx9; exact h5
        | n + 6, _, p1 => omega
    · have := g4.2.1 c hc
      have hc : c ∈ lwC := hc
      have e := List.mem_singleton.mp hc
      subst e
      exact this
    · exact g4.2.2 c hc
