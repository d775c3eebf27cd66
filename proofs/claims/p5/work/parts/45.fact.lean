/-! Facts: what is known of many slots at once. -/
def xRdc (aw : rvH) (i j : Nat) : Option Int := match aw[i]? with
  | some c => (match xSlot c j with
    | some (.inl a) => bif decide (a.1 = a.2) && (decide (-2147483648 ≤ a.1) && decide (a.1 ≤ 2147483647)) then some a.1 else none
    | _ => none)
  | none => none
theorem xRdc_pt {aw : rvH} {i j : Nat} {z : Int} (h : xRdc aw i j = some z) : ∃ c, aw[i]? = some c ∧ xSlot c j = some (.inl (z, z)) ∧ xIn32 z := by
  unfold xRdc at h
  split at h
  · rename_i c hc
    split at h
    · rename_i a ha
      obtain ⟨a1, a2⟩ := a
      obtain ⟨hb, e⟩ := rv_bif h
      have e : a1 = z := e
      subst e
      obtain ⟨b1, e2⟩ := rv_and hb
      obtain ⟨b2, b3⟩ := rv_and e2
      have b1 : a1 = a2 := of_decide_eq_true b1
      subst b1
      exact ⟨c, hc, ha, of_decide_eq_true b2, of_decide_eq_true b3⟩
    · cases h
  · cases h
theorem xRdc_of {aw : rvH} {i j : Nat} {z : Int} {c : rvC} (h1 : aw[i]? = some c) (h2 : xSlot c j = some (.inl (z, z))) (h3 : xIn32 z) : xRdc aw i j = some z := by
  unfold xRdc
  rw [h1]
  show (match xSlot c j with
    | some (.inl a) => bif decide (a.1 = a.2) && (decide (-2147483648 ≤ a.1) && decide (a.1 ≤ 2147483647)) then some a.1 else none
    | _ => none) = some z
  rw [h2]
  show (bif decide (z = z) && (decide (-2147483648 ≤ z) && decide (z ≤ 2147483647)) then some z else none) = some z
  have e1 : decide (-2147483648 ≤ z) = true := decide_eq_true h3.1
  have e2 : decide (z ≤ 2147483647) = true := decide_eq_true h3.2
  rw [e1, e2]
  simp
/-- the number in the slot j of the strong cell k -/
def xRd (pl : List Nat) (aw : rvH) (k j : Nat) : Option Int := match pl[k]? with
  | some i => xRdc aw i j
  | none => none
/-- how high codes of a sentence stand: 20 takes one and gives one, 21 and 22 take two and give one, all others give one -/
def xHt (f : Nat → Option Int) : Nat → Option Int
  | 0 => some 0
  | n + 1 => match xHt f n, f n with
    | some h, some z => bif decide (z = 20) then (bif decide (1 ≤ h) then some h else none) else bif decide (z = 21) || decide (z = 22) then (bif decide (2 ≤ h) then some (h - 1) else none) else some (h + 1)
    | _, _ => none
/-- how many of the first are 21 or 22 -/
def xNb (f : Nat → Option Int) : Nat → Option Int
  | 0 => some 0
  | n + 1 => match xNb f n, f n with
    | some h, some z => bif decide (z = 21) || decide (z = 22) then some (h + 1) else some h
    | _, _ => none
def xBx (rd : Nat → Nat → Option Int) (j : Nat) : List (Nat × Nat × Nat) → List (Int × Int) → Prop
  | [], _ => True
  | s :: ss, b :: bs => (∃ z, rd s.1 (s.2.1 * j + s.2.2) = some z ∧ b.1 ≤ z ∧ z ≤ b.2) ∧ xBx rd j ss bs
  | _ :: _, [] => False
def xPf (rd : Nat → Nat → Option Int) (g : Nat) (B : Int) : Prop := ∀ j : Nat, (j : Int) < B → ∃ bx ∈ (xGrp g).2, xBx rd j (xGrp g).1 bx
def xRsn (f : Nat → Option Int) : Prop := ∃ (n : Nat) (h : Int), n ≤ 60 ∧ f 115 = some (n : Int) ∧ xHt (fun i => f (116 + 3 * i)) n = some h
def xSi (f : Nat → Option Int) : Prop := (∃ b, f 3 = some b ∧ b ≤ 100 ∧ ∀ j : Nat, (j : Int) < b → ∃ z, f (88 + j) = some z ∧ 1 ≤ z ∧ z ≤ 40) ∧ xRsn f ∧ ∃ a c, f 0 = some a ∧ f 2 = some c ∧ c ≤ 10 * a
def xFv (kd : Nat) (ns : List Nat) (vs : List Int) (rd : Nat → Nat → Option Int) : Prop := match kd, ns, vs with
  | 4, [g], [B] => xPf rd g B
  | 5, [], [c, t, e] => ∃ (n m : Nat) (h : Int), c = (n : Int) ∧ t = (m : Int) ∧ xHt (fun i => rd 33 (3 * i)) n = some (h + e) ∧ xNb (fun i => rd 46 i) m = some h
  | 6, [], [b] => ∃ n : Nat, b = (n : Int) ∧ ∀ i, i < n → ∃ z, rd 31 (116 + i) = some z ∧ rd 33 i = some z
  | 7, [], [] => xRsn (rd 31)
  | 8, [], [i, n] => ∃ m : Nat, i = (m : Int) ∧ xHt (fun i => rd 31 (116 + 3 * i)) m = some n
  | 9, [h, n], [] => ∀ i, i < n → ∃ z, rd 31 i = some z ∧ rd 48 (296 * h + i) = some z
  | 11, [h], [] => xSi (fun j => rd 48 (296 * h + j))
  | _, _, _ => False
/-- the slots that a fact speaks of: cell, from, to -/
def xRds (kd : Nat) (ns : List Nat) (vs : List (Nat × Int × Int)) : List (Nat × xL × xL) := match kd, ns, vs with
  | 4, [g], [B] => (xGrp g).1.map (fun s => (s.1, xK (s.2.2 : Int), xAdd (xMul (s.2.1 : Int) (xSm B)) (xK ((s.2.2 : Int) - (s.2.1 : Int)))))
  | 5, [], [c, t, _] => [(33, xK 0, xSub (xMul 3 (xSm c)) (xK 3)), (46, xK 0, xSub (xSm t) (xK 1))]
  | 6, [], [b] => [(31, xK 116, xAdd (xSm b) (xK 115)), (33, xK 0, xSub (xSm b) (xK 1))]
  | 7, [], [] => [(31, xK 115, xK 295)]
  | 8, [], [i, _] => [(31, xK 116, xAdd (xMul 3 (xSm i)) (xK 113))]
  | 9, [h, n], [] => [(31, xK 0, xK ((n : Int) - 1)), (48, xK (296 * (h : Int)), xK (296 * (h : Int) + (n : Int) - 1))]
  | 11, [h], [] => [(48, xK (296 * (h : Int)), xK (296 * (h : Int) + 295))]
  | _, _, _ => []
theorem xHt_mono {f g : Nat → Option Int} : ∀ (n : Nat) {h : Int}, (∀ i, i < n → ∀ z, f i = some z → g i = some z) → xHt f n = some h → xHt g n = some h
  | 0, _, _, hh => hh
  | n + 1, h, hz, hh => by
      unfold xHt at hh ⊢
      split at hh
      · rename_i k z h1 h2
        rw [xHt_mono n (fun i hi => hz i (by omega)) h1, hz n (by omega) z h2]
        exact hh
      · cases hh
theorem xNb_mono {f g : Nat → Option Int} : ∀ (n : Nat) {h : Int}, (∀ i, i < n → ∀ z, f i = some z → g i = some z) → xNb f n = some h → xNb g n = some h
  | 0, _, _, hh => hh
  | n + 1, h, hz, hh => by
      unfold xNb at hh ⊢
      split at hh
      · rename_i k z h1 h2
        rw [xNb_mono n (fun i hi => hz i (by omega)) h1, hz n (by omega) z h2]
        exact hh
      · cases hh
theorem xBx_mono {rd rd' : Nat → Nat → Option Int} {j : Nat} : ∀ {ss : List (Nat × Nat × Nat)} {bs : List (Int × Int)}, (∀ s ∈ ss, ∀ z, rd s.1 (s.2.1 * j + s.2.2) = some z → rd' s.1 (s.2.1 * j + s.2.2) = some z) → xBx rd j ss bs → xBx rd' j ss bs
  | [], _, _, _ => trivial
  | s :: ss, b :: bs, h, hb => by
      obtain ⟨⟨z, h1, h2⟩, h3⟩ := hb
      exact ⟨⟨z, h s List.mem_cons_self z h1, h2⟩, xBx_mono (fun t ht => h t (List.mem_cons_of_mem _ ht)) h3⟩
  | _ :: _, [], _, hb => hb
theorem xRsn_mono {f g : Nat → Option Int} (h : ∀ j, 115 ≤ j → j ≤ 295 → ∀ z, f j = some z → g j = some z) (hr : xRsn f) : xRsn g := by
  obtain ⟨n, k, h1, h2, h3⟩ := hr
  exact ⟨n, k, h1, h 115 (by omega) (by omega) _ h2, xHt_mono n (fun i hi => h _ (by omega) (by omega)) h3⟩
theorem xSi_mono {f g : Nat → Option Int} (h : ∀ j, j ≤ 295 → ∀ z, f j = some z → g j = some z) (hr : xSi f) : xSi g := by
  obtain ⟨⟨b, b1, b2, b3⟩, hs, a, c, a1, a2, a3⟩ := hr
  refine ⟨⟨b, h 3 (by omega) _ b1, b2, fun j hj => ?_⟩, xRsn_mono (fun j _ hj => h j hj) hs, a, c, h 0 (by omega) _ a1, h 2 (by omega) _ a2, a3⟩
  obtain ⟨z, z1, z2⟩ := b3 j hj
  exact ⟨z, h (88 + j) (by omega) _ z1, z2⟩
theorem xFv_loc {kd : Nat} {ns : List Nat} {vs : List (Nat × Int × Int)} {r : List Int} {rd rd' : Nat → Nat → Option Int} (h : ∀ q ∈ xRds kd ns vs, ∀ j : Nat, xVal r q.2.1 ≤ (j : Int) → (j : Int) ≤ xVal r q.2.2 → ∀ z, rd q.1 j = some z → rd' q.1 j = some z) (hf : xFv kd ns (vs.map (fun v => xVal r (xSm v))) rd) : xFv kd ns (vs.map (fun v => xVal r (xSm v))) rd' := by
  unfold xRds at h
  split at h
  · rename_i g B
    intro j hj
    obtain ⟨bx, h1, h2⟩ := hf j hj
    refine ⟨bx, h1, xBx_mono (fun s hs => ?_) h2⟩
    refine h _ (List.mem_map.mpr ⟨s, hs, rfl⟩) _ ?_ ?_
    · show xVal r (xK _) ≤ _
      rw [xK_ok]
      have : 0 ≤ s.2.1 * j := Nat.zero_le _
      omega
    · show _ ≤ xVal r (xAdd _ _)
      rw [xAdd_ok, xMul_ok, xK_ok]
      have hj : (j : Int) + 1 ≤ xVal r (xSm B) := hj
      have := Int.mul_le_mul_of_nonneg_left hj (Int.natCast_nonneg s.2.1)
      rw [Int.mul_add, Int.mul_one] at this
      have e : ((s.2.1 * j + s.2.2 : Nat) : Int) = (s.2.1 : Int) * (j : Int) + (s.2.2 : Int) := by
        rw [Int.natCast_add, Int.natCast_mul]
      rw [e]
      omega
  · rename_i c t e
    obtain ⟨n, m, k, h1, h2, h3, h4⟩ := hf
    have g1 := h _ List.mem_cons_self
    have g2 := h _ (List.mem_cons_of_mem _ List.mem_cons_self)
    have h1 : xVal r (xSm c) = (n : Int) := h1
    have h2 : xVal r (xSm t) = (m : Int) := h2
    refine ⟨n, m, k, h1, h2, ?_, ?_⟩
    · refine xHt_mono n (fun i hi => g1 _ ?_ ?_) h3
      · show xVal r (xK 0) ≤ _
        rw [xK_ok]; omega
      · show _ ≤ xVal r (xSub _ _)
        rw [xSub_ok, xMul_ok, xK_ok, h1]; omega
    · refine xNb_mono m (fun i hi => g2 _ ?_ ?_) h4
      · show xVal r (xK 0) ≤ _
        rw [xK_ok]; omega
      · show _ ≤ xVal r (xSub _ _)
        rw [xSub_ok, xK_ok, h2]; omega
  · rename_i b
    obtain ⟨n, h1, h2⟩ := hf
    have g1 := h _ List.mem_cons_self
    have g2 := h _ (List.mem_cons_of_mem _ List.mem_cons_self)
    have h1 : xVal r (xSm b) = (n : Int) := h1
    refine ⟨n, h1, fun i hi => ?_⟩
    obtain ⟨z, z1, z2⟩ := h2 i hi
    refine ⟨z, ?_, ?_⟩
    · refine g1 _ ?_ ?_ z z1
      · show xVal r (xK 116) ≤ _
        rw [xK_ok]; omega
      · show _ ≤ xVal r (xAdd _ _)
        rw [xAdd_ok, xK_ok, h1]; omega
    · refine g2 _ ?_ ?_ z z2
      · show xVal r (xK 0) ≤ _
        rw [xK_ok]; omega
      · show _ ≤ xVal r (xSub _ _)
        rw [xSub_ok, xK_ok, h1]; omega
  · have g1 := h _ List.mem_cons_self
    refine xRsn_mono (fun j j1 j2 => g1 j ?_ ?_) hf
    · show xVal r (xK 115) ≤ _
      rw [xK_ok]; omega
    · show _ ≤ xVal r (xK 295)
      rw [xK_ok]; omega
  · rename_i i n
    obtain ⟨m, h1, h2⟩ := hf
    have g1 := h _ List.mem_cons_self
    have h1 : xVal r (xSm i) = (m : Int) := h1
    refine ⟨m, h1, ?_⟩
    refine xHt_mono m (fun i hi => g1 _ ?_ ?_) h2
    · show xVal r (xK 116) ≤ _
      rw [xK_ok]; omega
    · show _ ≤ xVal r (xAdd _ _)
      rw [xAdd_ok, xMul_ok, xK_ok, h1]; omega
  · rename_i k n
    have g1 := h _ List.mem_cons_self
    have g2 := h _ (List.mem_cons_of_mem _ List.mem_cons_self)
    intro i hi
    obtain ⟨z, z1, z2⟩ := hf i hi
    refine ⟨z, ?_, ?_⟩
    · refine g1 _ ?_ ?_ z z1
      · show xVal r (xK 0) ≤ _
        rw [xK_ok]; omega
      · show _ ≤ xVal r (xK _)
        rw [xK_ok]; omega
    · refine g2 _ ?_ ?_ z z2
      · show xVal r (xK _) ≤ _
        rw [xK_ok]; omega
      · show _ ≤ xVal r (xK _)
        rw [xK_ok]; omega
  · rename_i k
    have g1 := h _ List.mem_cons_self
    refine xSi_mono (fun j j2 => g1 _ ?_ ?_) hf
    · show xVal r (xK _) ≤ _
      rw [xK_ok]; omega
    · show _ ≤ xVal r (xK _)
      rw [xK_ok]; omega
  · rename_i h1 h2 h3 h4 h5 h6 h7
    exfalso
    revert hf
    rcases vs with _ | ⟨a, _ | ⟨b, _ | ⟨c, _ | ⟨d, t⟩⟩⟩⟩
    all_goals
      intro hf
      simp only [List.map] at hf
      unfold xFv at hf
      split at hf
      all_goals first
        | exact hf
        | exact h1 _ _ rfl rfl rfl
        | exact h2 _ _ _ rfl rfl rfl
        | exact h3 _ rfl rfl rfl
        | exact h4 rfl rfl rfl
        | exact h5 _ _ rfl rfl rfl
        | exact h6 _ _ rfl rfl rfl
        | exact h7 _ rfl rfl rfl
        | (rename_i hv; cases hv; done)
