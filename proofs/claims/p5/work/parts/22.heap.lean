/-! Regions: the kinds of cells, and what always holds of each; strong cells: what is known of one cell just now. -/
/-- a type: a range of numbers, or a kind of reference as values have them -/
abbrev xT : Type := (Int × Int) ⊕ (Nat × Nat)
/-- an object (its class, its fields' types), or a row (its kind, length, period, types by places below) -/
abbrev xG : Type := (Nat × List xT) ⊕ (Nat × Nat × Nat × List (Nat × xT))
def xTy (T pl : List Nat) (ty : xT) (c : rvV) : Prop := match ty with
  | .inl a => ∃ z : Int, a.1 ≤ z ∧ z ≤ a.2 ∧ xIn32 z ∧ c = .inl (z, z)
  | .inr q => xR [] T pl (.inr q) c
def xAt (sg : List (Nat × xT)) (j : Nat) : xT := match sg with
  | [] => .inr (9, 0)
  | (u, ty) :: sg => bif Nat.blt j u then ty else xAt sg j
def xCell (T pl : List Nat) (g : xG) (c : rvC) : Prop := match g, c with
  | .inl (ci, fts), .inl (cj, fs) => ci = cj ∧ fs.length = fts.length ∧ ∀ (f : Nat) (ty : xT) (v : rvV), fts[f]? = some ty → fs[f]? = some v → xTy T pl ty v
  | .inr (k, n, q, sg), .inr (k', n', d, ov) => k = k' ∧ n = n' ∧ ∀ j, j < n → xTy T pl (xAt sg (j % q)) (rvLook d ov j)
  | _, _ => False
/-- every place has a region, every cell its region's type -/
def xHp (rg : Nat → xG) (T pl : List Nat) (aw : rvH) : Prop := aw.length = T.length ∧ ∀ (i g : Nat) (c : rvC), T[i]? = some g → aw[i]? = some c → xCell T pl (rg g) c
def xSlot (c : rvC) (j : Nat) : Option rvV := match c with
  | .inl (_, fs) => fs[j]?
  | .inr (_, n, d, ov) => bif Nat.blt j n then some (rvLook d ov j) else none
/-- a strong cell: its region, and slots that are known: the index as a number, the value -/
abbrev xC : Type := Nat × List ((Nat × Int × Int) × xV)
def xOv (r : List Int) (T pl : List Nat) (c : rvC) (q : (Nat × Int × Int) × xV) : Prop :=
  xWf r.length (xSm q.1).1 ∧ ∃ (j : Nat) (w : rvV), xVal r (xSm q.1) = (j : Int) ∧ xSlot c j = some w ∧ xR r T pl q.2 w
def xSt (r : List Int) (T pl : List Nat) (ah : List xC) (aw : rvH) : Prop :=
  ah.length = pl.length ∧ ∀ (k : Nat) (s : xC), ah[k]? = some s → ∃ (i : Nat) (c : rvC), pl[k]? = some i ∧ T[i]? = some s.1 ∧ aw[i]? = some c ∧ ∀ q ∈ s.2, xOv r T pl c q
def xRs (r : List Int) (T pl : List Nat) : List xV → List rvV → Prop
  | [], [] => True
  | v :: vs, c :: cs => xR r T pl v c ∧ xRs r T pl vs cs
  | _, _ => False
theorem xTy_grow {r r' : List Int} {T T' pl pl' : List Nat} (g : xGrow r r' T T' pl pl') {ty : xT} {c : rvV} (h : xTy T pl ty c) : xTy T' pl' ty c := by
  rcases ty with a | q
  · exact h
  · exact xR_grow (r := []) (r' := []) ⟨⟨[], rfl⟩, g.2.1, g.2.2⟩ h
theorem xCell_grow {r r' : List Int} {T T' pl pl' : List Nat} (g : xGrow r r' T T' pl pl') {y : xG} {c : rvC} (h : xCell T pl y c) : xCell T' pl' y c := by
  rcases y with ⟨ci, fts⟩ | ⟨k, n, q, sg⟩
  · rcases c with ⟨cj, fs⟩ | c
    · exact ⟨h.1, h.2.1, fun f ty v h1 h2 => xTy_grow g (h.2.2 f ty v h1 h2)⟩
    · exact absurd h id
  · rcases c with c | ⟨k', n', d, ov⟩
    · exact absurd h id
    · exact ⟨h.1, h.2.1, fun j hj => xTy_grow g (h.2.2 j hj)⟩
theorem xOv_grow {r r' : List Int} {T T' pl pl' : List Nat} (g : xGrow r r' T T' pl pl') {c : rvC} {q : (Nat × Int × Int) × xV} (h : xOv r T pl c q) : xOv r' T' pl' c q := by
  obtain ⟨h1, j, w, h2, h3, h4⟩ := h
  obtain ⟨t, rfl⟩ := g.1
  refine ⟨fun p hp => ?_, j, w, ?_, h3, xR_grow g h4⟩
  · have := h1 p hp
    rw [List.length_append]
    omega
  · rw [← h2]
    unfold xVal
    rw [xEv_grow h1]
theorem xRs_grow {r r' : List Int} {T T' pl pl' : List Nat} (g : xGrow r r' T T' pl pl') : ∀ {vs : List xV} {cs : List rvV}, xRs r T pl vs cs → xRs r' T' pl' vs cs
  | [], [], _ => trivial
  | _ :: _, _ :: _, h => ⟨xR_grow g h.1, xRs_grow g h.2⟩
  | [], _ :: _, h => h
  | _ :: _, [], h => h
theorem xRs_cons {r : List Int} {T pl : List Nat} {v : xV} {vs : List xV} {cs : List rvV} (h : xRs r T pl (v :: vs) cs) : ∃ c ds, cs = c :: ds ∧ xR r T pl v c ∧ xRs r T pl vs ds := by
  cases cs with
  | nil => exact absurd h id
  | cons c ds => exact ⟨c, ds, rfl, h.1, h.2⟩
theorem xRs_nil {r : List Int} {T pl : List Nat} {cs : List rvV} (h : xRs r T pl [] cs) : cs = [] := by
  cases cs with
  | nil => rfl
  | cons c ds => exact absurd h id
theorem xRs_get {r : List Int} {T pl : List Nat} : ∀ {vs : List xV} {cs : List rvV} {k : Nat} {v : xV}, xRs r T pl vs cs → vs[k]? = some v → ∃ c, cs[k]? = some c ∧ xR r T pl v c
  | [], _, _, _, _, hv => by simp at hv
  | _ :: _, [], _, _, h, _ => absurd h id
  | w :: vs, c :: cs, 0, v, h, hv => ⟨c, rfl, by
      have e : w = v := by simpa using hv
      rw [← e]; exact h.1⟩
  | w :: vs, c :: cs, k + 1, v, h, hv => by
      obtain ⟨d, h1, h2⟩ := xRs_get (k := k) h.2 (by simpa using hv)
      exact ⟨d, by simpa using h1, h2⟩
theorem xRs_set {r : List Int} {T pl : List Nat} : ∀ {vs : List xV} {cs : List rvV} {k : Nat} {v : xV} {c : rvV}, xRs r T pl vs cs → xR r T pl v c → xRs r T pl (vs.set k v) (cs.set k c)
  | [], [], _, _, _, _, _ => trivial
  | _ :: _, [], _, _, _, h, _ => absurd h id
  | [], _ :: _, _, _, _, h, _ => absurd h id
  | _ :: _, _ :: _, 0, _, _, h, hv => ⟨hv, h.2⟩
  | _ :: _, _ :: _, k + 1, _, _, h, hv => ⟨h.1, xRs_set (k := k) h.2 hv⟩
theorem xRs_len {r : List Int} {T pl : List Nat} : ∀ {vs : List xV} {cs : List rvV}, xRs r T pl vs cs → vs.length = cs.length
  | [], [], _ => rfl
  | _ :: _, [], h => absurd h id
  | [], _ :: _, h => absurd h id
  | _ :: _, _ :: _, h => by simp [xRs_len h.2]
/-! numbers of a state: pc, locals, stack, strong cells, facts, what is known of the variables, cells and slots made -/
/-- a fact: its kind, numbers, linear values -/
abbrev xF : Type := Nat × List Nat × List (Nat × Int × Int)
abbrev xS : Type := Nat × List xV × List xV × List xC × List xF × xQ × Nat × Nat
/-- the symbolic state tells of the point state; fm: what a fact says of the variables, places and cells -/
def xRel (rg : Nat → xG) (fm : xF → List Int → List Nat → List Nat → rvH → Prop) (S : xS) (o : rvS) : Prop :=
  ∃ (r : List Int) (T pl : List Nat), o.1 = S.1 ∧ xRs r T pl S.2.1 o.2.1 ∧ xRs r T pl S.2.2.1 o.2.2.1 ∧ xSt r T pl S.2.2.2.1 o.2.2.2.1 ∧ xHp rg T pl o.2.2.2.1 ∧ (∀ f ∈ S.2.2.2.2.1, fm f r T pl o.2.2.2.1) ∧ xQs S.2.2.2.2.2.1 r ∧ o.2.2.2.2.1 = S.2.2.2.2.2.2.1 ∧ o.2.2.2.2.2 = S.2.2.2.2.2.2.2
