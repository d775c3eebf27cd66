/-! The contracts of the number of ones. -/
section XBCON
variable {tab : Nat → Nat → Option rvE} {info : Nat → rvM} {rets : Nat → Option FieldType} {NM : Nat} {mth : Nat → Option Nat} {Gd : Nat → (xRes2 → Prop) → rvS → Prop} {Met : Nat → List rvV → rvH → (xRes2 → Prop) → Prop}
theorem xBt_one {r : List Int} {N : Int × Int} (h : xQs ([N], []) r) : ∃ z, r = [z] ∧ N.1 ≤ z ∧ z ≤ N.2 := by
  obtain ⟨⟨h1, h2⟩, -⟩ := h
  match r, h1, h2 with
  | [], h1, _ => simp at h1
  | [z], _, h2 => exact ⟨z, rfl, h2 0 N rfl⟩
  | _ :: _ :: _, h1, _ => simp at h1
theorem xBt_arg {z : Int} {T pl : List Nat} {as : List rvV} (h : xRs [z] T pl [.inl (0, 1, 0)] as) : as = [.inl (z, z)] ∧ xIn32 z := by
  obtain ⟨c, ds, rfl, h1, h2⟩ := xRs_cons h
  have e : xVal [z] (xSm (0, 1, 0)) = z := by
    show 1 * z + 0 + 0 = z
    omega
  obtain ⟨-, h4, h5⟩ := h1
  rw [e] at h4 h5
  cases ds with
  | nil => exact ⟨by rw [h5], h4⟩
  | cons a b => exact absurd h2 id
theorem xBt_res {z c : Int} {T pl : List Nat} (hc : xIn32 c) : xRs ([z] ++ [c]) T pl [.inl (1, 1, 0)] [.inl (c, c)] := by
  have e : xVal ([z] ++ [c]) (xSm (1, 1, 0)) = c := by
    show 1 * c + 0 + 0 = c
    omega
  refine ⟨⟨?_, by rw [e]; exact hc, by rw [e]⟩, trivial⟩
  intro q hq
  have hq : q ∈ [((1 : Nat), (1 : Int))] := hq
  have := List.mem_singleton.mp hq
  subst this
  show 1 < 2
  omega
theorem xBt_two {z c : Int} {A B : Int × Int} (h1 : A.1 ≤ z) (h2 : z ≤ A.2) (h3 : B.1 ≤ c) (h4 : c ≤ B.2) : xQs ([A, B], []) ([z] ++ [c]) := by
  refine ⟨⟨rfl, fun x a hx => ?_⟩, (fun c hc => by cases hc), (fun c hc => by cases hc)⟩
  match x, hx with
  | 0, hx => cases hx; exact ⟨h1, h2⟩
  | 1, hx => cases hx; exact ⟨h3, h4⟩
  | n + 2, hx => cases hx
theorem xBt_fs {r : List Int} {t : List Int} {T pl : List Nat} {aw : rvH} (h : ∀ f ∈ [((2 : Nat), ([] : List Nat), ([] : List (Nat × Int × Int)))], f.1 ≠ 0 → ∀ P' : xP, xFM P' f r T pl aw) : ∀ f ∈ [((2 : Nat), ([] : List Nat), ([] : List (Nat × Int × Int)))], f.1 ≠ 0 → ∀ P' : xP, xFM P' f (r ++ t) (T ++ []) pl aw := by
  intro f hf h0 P'
  rw [List.append_nil]
  exact xFM_app P' f r t T pl aw (h f hf h0 P')
theorem xBt_conA (hc : xClo tab info rets NM mth Gd Met) {j : Nat} (hj : j < NM) (hmj : mth j = none) (ht : xBt tab j) (hm : (info j).1 = 3) (hr : rets j = some .int) {A : List xC} {lo hi : Int} {src : List (Nat × List Nat × Int)} : xCon Met (j, (0, [.inl (0, 1, 0)], [], A, [(2, [], [])], ([(lo, hi)], []), 0, 0), src, [(0, [], [.inl (1, 1, 0)], A, [(2, [], [])], ([(lo, hi), (0, 32)], []), 0, 0)], []) := by
  intro r T pl as aw p1 p2 p3 p4 p5
  dsimp only at p1 p2 p4 p5 ⊢
  obtain ⟨z, rfl, z1, z2⟩ := xBt_one p5
  obtain ⟨rfl, z3⟩ := xBt_arg p1
  refine xBt_met hc hj hmj ht hm hr z3 (fun c c1 _ _ _ => ?_)
  have ci : xIn32 (c : Int) := ⟨by omega, by omega⟩
  refine ⟨_, List.mem_singleton.mpr rfl, [(c : Int)], [], ?_, ?_, ?_, xBt_fs p4, xBt_two z1 z2 (by show (0 : Int) ≤ c; omega) (by show (c : Int) ≤ 32; omega), fun i g q hi hq => ⟨q, hq, fun _ _ => rfl⟩⟩
  · exact xBt_res ci
  · rw [List.append_nil]; exact xSt_app _ p2
  · rw [List.append_nil]; exact p3
theorem xBt_conB (hc : xClo tab info rets NM mth Gd Met) {j : Nat} (hj : j < NM) (hmj : mth j = none) (ht : xBt tab j) (hm : (info j).1 = 3) (hr : rets j = some .int) {A : List xC} {src : List (Nat × List Nat × Int)} : xCon Met (j, (0, [.inl (0, 1, 0)], [], A, [(2, [], [])], ([(0, 1023)], []), 0, 0), src, [(0, [], [.inl (1, 1, 0)], A, [(2, [], [])], ([(1, 1023), (1, 10)], []), 0, 0), (0, [], [.inl (0, 0, 0)], A, [(2, [], [])], ([(0, 0)], []), 0, 0)], []) := by
  intro r T pl as aw p1 p2 p3 p4 p5
  dsimp only at p1 p2 p4 p5 ⊢
  obtain ⟨z, rfl, z1, z2⟩ := xBt_one p5
  obtain ⟨rfl, z3⟩ := xBt_arg p1
  have z1 : (0 : Int) ≤ z := z1
  have z2 : z ≤ 1023 := z2
  refine xBt_met hc hj hmj ht hm hr z3 (fun c c1 c2 c3 c4 => ?_)
  have ci : xIn32 (c : Int) := ⟨by omega, by omega⟩
  by_cases h0 : z = 0
  · have e0 := c2 h0
    subst h0
    subst e0
    refine ⟨_, List.mem_cons_of_mem _ (List.mem_singleton.mpr rfl), [], [], ⟨xR_K _ _ _ ⟨by omega, by omega⟩, trivial⟩, ?_, ?_, xBt_fs p4, ?_, fun i g q hi hq => ⟨q, hq, fun _ _ => rfl⟩⟩
    · rw [List.append_nil, List.append_nil]; exact p2
    · rw [List.append_nil]; exact p3
    · refine ⟨⟨rfl, fun x a hx => ?_⟩, (fun c hc => by cases hc), (fun c hc => by cases hc)⟩
      match x, hx with
      | 0, hx => cases hx; exact ⟨Int.le_refl _, Int.le_refl _⟩
      | n + 1, hx => cases hx
  · have d1 := c3 h0
    have d2 := c4 z1 z2
    refine ⟨_, List.mem_cons_self, [(c : Int)], [], ?_, ?_, ?_, xBt_fs p4, xBt_two (by show (1 : Int) ≤ z; omega) z2 (by show (1 : Int) ≤ c; omega) (by show (c : Int) ≤ 10; omega), fun i g q hi hq => ⟨q, hq, fun _ _ => rfl⟩⟩
    · exact xBt_res ci
    · rw [List.append_nil]; exact xSt_app _ p2
    · rw [List.append_nil]; exact p3
end XBCON
