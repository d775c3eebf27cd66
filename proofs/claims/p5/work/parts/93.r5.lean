/-! What holds before the first turn (by hand). -/
def exVB (v : rvV) : Bool := match v with
  | .inl a => decide (a.1 = a.2) && (decide (-2147483648 ≤ a.1) && decide (a.1 ≤ 2147483647))
  | .inr (1, z) => decide (z = rvLe (rvLd z))
  | _ => true
theorem exVB_ok {v : rvV} (h : exVB v = true) : exV v := by
  rcases v with a | ⟨k, z⟩
  · have h : (decide (a.1 = a.2) && (decide (-2147483648 ≤ a.1) && decide (a.1 ≤ 2147483647))) = true := h
    obtain ⟨h1, h2⟩ := rv_and h
    obtain ⟨h2, h3⟩ := rv_and h2
    exact ⟨of_decide_eq_true h1, of_decide_eq_true h2, of_decide_eq_true h3⟩
  · match k, h with
    | 0, _ => trivial
    | 1, h => exact ⟨rvLd z, of_decide_eq_true h⟩
    | k + 2, _ => trivial
def exFB (ty : FieldType) (v : rvV) : Bool := exVB v && (match ty, v with
  | .int, .inl _ => true
  | .boolean, .inl _ => true
  | .long, .inr (1, _) => true
  | .object _, .inr (0, _) => true
  | .object _, .inr (2, _) => true
  | .array _, .inr (0, _) => true
  | .array _, .inr (2, _) => true
  | _, _ => false)
theorem exFB_ok {ty : FieldType} {v : rvV} (h : exFB ty v = true) : exF ty v := by
  obtain ⟨h1, h2⟩ := rv_and h
  refine ⟨exVB_ok h1, ?_⟩
  split at h2
  · exact ⟨_, rfl⟩
  · exact ⟨_, rfl⟩
  · exact ⟨_, rfl⟩
  · exact Or.inl ⟨_, rfl⟩
  · exact Or.inr ⟨_, rfl⟩
  · exact Or.inl ⟨_, rfl⟩
  · exact Or.inr ⟨_, rfl⟩
  · cases h2
def exEB (q : Nat) (v : rvV) : Bool := exVB v && (match v with
  | .inl _ => !Nat.beq q 3
  | .inr (1, _) => Nat.ble 3 q
  | _ => Nat.blt 3 q)
theorem exEB_ok {q : Nat} {v : rvV} (h : exEB q v = true) : exE q v := by
  obtain ⟨h1, h2⟩ := rv_and h
  refine ⟨exVB_ok h1, fun hq => ?_, fun hq => ?_⟩
  · split at h2
    · exact ⟨_, rfl⟩
    · have := rv_ble h2; omega
    · have := rv_blt h2; omega
  · split at h2
    · subst hq; cases h2
    · exact ⟨_, rfl⟩
    · have := rv_blt h2; omega
def exCB (c : rvC) : Bool := match c with
  | .inl (ci, fs) => (List.range fs.length).all (fun j => match fs[j]? with
    | some v => exFB (rvTy ci j) v
    | none => false)
  | .inr (q, _, d, ov) => exEB q d && ov.all (fun x => exEB q x.2)
theorem exCB_ok {c : rvC} (h : exCB c = true) : exC c := by
  rcases c with ⟨ci, fs⟩ | ⟨q, n, d, ov⟩
  · intro j v hv
    have hlt := (List.getElem?_eq_some_iff.mp hv).1
    have := List.all_eq_true.mp h j (List.mem_range.mpr hlt)
    rw [hv] at this
    exact exFB_ok this
  · obtain ⟨h1, h2⟩ := rv_and h
    exact ⟨exEB_ok h1, fun x hx => exEB_ok (List.all_eq_true.mp h2 x hx)⟩
theorem rz_exB : rzAw0.all exCB = true := by decide +kernel
theorem rz_ex : exH rzAw0 := fun c hc => exCB_ok (List.all_eq_true.mp rz_exB c hc)
theorem rz_w5 : ∀ i : Fin 23, ghL rzAw0 3 i.1 = pd_tF5 (pd_tW.getD i.1 []) := by decide +kernel
theorem rz_w8 : ∀ i : Fin 23, ghL rzAw0 115 i.1 = pd_tF8 (pd_tW.getD (pd_tWr.getD i.1 0) []) := by decide +kernel
theorem rz_PI : PI rzPl rzAw0 := by
  refine ⟨rz_ex, fun x i hx hi => ?_, fun x i hx hi => ?_, fun x y hx hy j => ?_⟩
  · have e : (3 : Nat) = x := Option.some.inj hx
    subst e
    exact rz_w5 ⟨i, hi⟩
  · have e : (115 : Nat) = x := Option.some.inj hx
    subst e
    exact rz_w8 ⟨i, hi⟩
  · have e1 : (2 : Nat) = x := Option.some.inj hx
    have e2 : (110 : Nat) = y := Option.some.inj hy
    subst e1; subst e2
    have h5 : rzAw0[2]? = some (.inr (1, 940, .inl (0, 0), [])) := rfl
    have h30 : rzAw0[110]? = some (.inr (1, 940, .inl (0, 0), [])) := rfl
    unfold ghI
    rw [h5, h30]
def fbB (c : Option rvC) (f : Nat) : Bool := match c with
  | some (.inl (_, fs)) => (match fs[f]? with
    | some (.inl (a, _)) => decide (a = 0)
    | _ => true)
  | _ => true
theorem fbB_ok {aw : rvH} {k ci f : Nat} (h : fbB aw[k]? f = true) : FB k ci f 0 aw := fun fs z e1 e2 => by
  rw [e1] at h
  unfold fbB at h
  dsimp only at h
  rw [e2] at h
  exact of_decide_eq_true h
theorem rz_fb : (fbB rzAw0[0]? 14 && fbB rzAw0[109]? 15) = true := by decide +kernel
theorem rz_HFk : HFk rzAw0 := ⟨0, fbB_ok (rv_and rz_fb).1, fbB_ok (rv_and rz_fb).2⟩
theorem rz_PJ : PJ rzPl rzAw0 := ⟨rz_PI, rfl, rz_HT, rz_HN, rz_HFk⟩
