/-! Exact states: all numbers are points, all longs are known; steps keep them so. -/
def exV (v : rvV) : Prop := match v with
  | .inl a => a.1 = a.2 ∧ xIn32 a.1
  | .inr (1, z) => ∃ n : Int64, z = rvLe n
  | _ => True
/-- a field's value, an element's -/
def exF (ty : FieldType) (v : rvV) : Prop := exV v ∧ match ty with
  | .int => ∃ a, v = .inl a
  | .boolean => ∃ a, v = .inl a
  | .long => ∃ z, v = .inr (1, z)
  | .object _ => (∃ z, v = .inr (0, z)) ∨ ∃ k, v = .inr (2, k)
  | .array _ => (∃ z, v = .inr (0, z)) ∨ ∃ k, v = .inr (2, k)
  | _ => True
def exE (q : Nat) (v : rvV) : Prop := exV v ∧ (q < 3 → ∃ a, v = .inl a) ∧ (q = 3 → ∃ z, v = .inr (1, z))
def exC (c : rvC) : Prop := match c with
  | .inl (ci, fs) => ∀ (j : Nat) (v : rvV), fs[j]? = some v → exF (rvTy ci j) v
  | .inr (q, _, d, ov) => exE q d ∧ ∀ x ∈ ov, exE q x.2
/-- what the tables' rows must be like -/
def exRow (i : Instr) (a1 : Nat) : Prop := match i with
  | .ldc2_w _ => ∃ n : Int64, a1 = rvLe n
  | .anewarray _ => 3 < a1
  | _ => True
def exH (aw : rvH) : Prop := ∀ c ∈ aw, exC c
def exL (l : List rvV) : Prop := ∀ v ∈ l, exV v
def exO (o : rvS) : Prop := exL o.2.1 ∧ exL o.2.2.1 ∧ exH o.2.2.2.1
theorem exL_hd {v : rvV} {l : List rvV} (h : exL (v :: l)) : exV v := h v List.mem_cons_self
theorem exL_tl {v : rvV} {l : List rvV} (h : exL (v :: l)) : exL l := fun w hw => h w (List.mem_cons_of_mem _ hw)
theorem exL_c {v : rvV} {l : List rvV} (h1 : exV v) (h2 : exL l) : exL (v :: l) := fun w hw => by
  rcases List.mem_cons.mp hw with e | e
  · rw [e]; exact h1
  · exact h2 w e
theorem exL_get {l : List rvV} {k : Nat} {v : rvV} (h : exL l) (e : l[k]? = some v) : exV v := h v (List.mem_of_getElem? e)
theorem exL_set {l : List rvV} {k : Nat} {v : rvV} (h : exL l) (hv : exV v) : exL (l.set k v) := fun w hw => by
  rcases List.mem_or_eq_of_mem_set hw with e | e
  · exact h w e
  · rw [e]; exact hv
theorem exV_U : exV rvU := trivial
theorem exL_rvSet {l : List rvV} {k : Nat} {v : rvV} (h : exL l) (hv : exV v) : exL (rvSet l k v) := by
  unfold rvSet
  split
  · exact exL_set h hv
  · split
    · cases rvIsL _
      · exact exL_set h hv
      · exact exL_set (exL_set h exV_U) hv
    · exact h
theorem exH_get {aw : rvH} {k : Nat} {c : rvC} (h : exH aw) (e : aw[k]? = some c) : exC c := h c (List.mem_of_getElem? e)
theorem exH_set {aw : rvH} {k : Nat} {c : rvC} (h : exH aw) (hc : exC c) : exH (aw.set k c) := fun w hw => by
  rcases List.mem_or_eq_of_mem_set hw with e | e
  · exact h w e
  · rw [e]; exact hc
theorem exH_app {aw : rvH} {c : rvC} (h : exH aw) (hc : exC c) : exH (aw ++ [c]) := fun w hw => by
  rcases List.mem_append.mp hw with e | e
  · exact h w e
  · rw [List.mem_singleton.mp e]; exact hc
theorem ex_look {d : rvV} {q0 j : Nat} : ∀ {ov : List (Nat × rvV)}, exE q0 d → (∀ q ∈ ov, exE q0 q.2) → exE q0 (rvLook d ov j)
  | [], h, _ => h
  | (k, v) :: t, h, h2 => by
      unfold rvLook
      cases Nat.beq k j
      · exact ex_look h (fun q hq => h2 q (List.mem_cons_of_mem _ hq))
      · exact h2 (k, v) List.mem_cons_self
theorem ex_up {j q0 : Nat} {v : rvV} (hv : exE q0 v) : ∀ {ov : List (Nat × rvV)}, (∀ q ∈ ov, exE q0 q.2) → ∀ q ∈ rvUp ov j v, exE q0 q.2
  | [], _, q, hq => by
      unfold rvUp at hq
      rw [List.mem_singleton.mp hq]
      exact hv
  | (k, w) :: t, h, q, hq => by
      unfold rvUp at hq
      cases hb : Nat.beq k j with
      | true =>
        rw [hb] at hq
        rcases List.mem_cons.mp hq with e | e
        · rw [e]; exact hv
        · exact h q (List.mem_cons_of_mem _ e)
      | false =>
        rw [hb] at hq
        rcases List.mem_cons.mp hq with e | e
        · rw [e]; exact h (k, w) List.mem_cons_self
        · exact ex_up hv (fun q hq => h q (List.mem_cons_of_mem _ hq)) q e
theorem rv_bifo {α : Type} {c : Bool} {x : Option α} {r : α} (h : (bif c then x else none) = some r) : c = true ∧ x = some r := by
  cases c with
  | true => exact ⟨rfl, h⟩
  | false => cases h
theorem rvIdx_pos {a : Int × Int} {n j : Nat} (h : rvIdx a n = some j) : j < n := by
  obtain ⟨hc, hj⟩ := rv_bif h
  obtain ⟨-, hb⟩ := rv_and hc
  obtain ⟨hb, hd⟩ := rv_and hb
  have q1 := of_decide_eq_true hb
  have q2 := of_decide_eq_true hd
  omega
theorem exV_I (n : Int32) : exV (rvK n.toInt) := ⟨rfl, rv_lo n, rv_hi n⟩
theorem exV_In {n lo hi : Int} (h : rvIn (n, n) lo hi = true) (h1 : -2147483648 ≤ lo) (h2 : hi ≤ 2147483647) : exV (rvK n) := by
  obtain ⟨a, b⟩ := rv_and h
  have a := of_decide_eq_true a
  have b := of_decide_eq_true b
  have a : lo ≤ n := a
  have b : n ≤ hi := b
  exact ⟨rfl, by show -2147483648 ≤ n; omega, by show n ≤ 2147483647; omega⟩
theorem exV_One {a : Int × Int} (h : exV (.inl a)) : rvOne a = true := decide_eq_true h.1
theorem exV_bin {f : Int32 → Int32 → Int32} {a b : Int × Int} (ha : exV (.inl a)) (hb : exV (.inl b)) : exV (rvBin f a b) := by
  unfold rvBin
  rw [exV_One ha, exV_One hb]
  exact exV_I _
theorem ex_nb {a : Nat} (h : exV (.inr (1, a))) : Nat.beq a 0 = false := by
  obtain ⟨n, rfl⟩ := h
  rfl
theorem exV_Le (n : Int64) : exV (.inr (1, rvLe n)) := ⟨n, rfl⟩
theorem exV_L0 : exV rvL0 := ⟨0, by decide⟩
theorem exF_Def (ty : FieldType) : exF ty (rvDef ty) := by
  cases ty
  case int => exact ⟨⟨rfl, by decide, by decide⟩, _, rfl⟩
  case boolean => exact ⟨⟨rfl, by decide, by decide⟩, _, rfl⟩
  case long => exact ⟨exV_L0, _, rfl⟩
  case object c => exact ⟨trivial, Or.inl ⟨_, rfl⟩⟩
  case array c => exact ⟨trivial, Or.inl ⟨_, rfl⟩⟩
  all_goals exact ⟨trivial, trivial⟩
theorem exF_fit {ty : FieldType} {v : rvV} (hv : exV v) (h : rvFit ty v = true) : exF ty v := by
  refine ⟨hv, ?_⟩
  unfold rvFit at h
  split at h
  · exact ⟨_, rfl⟩
  · exact ⟨_, rfl⟩
  · trivial
  · trivial
  · exact ⟨_, rfl⟩
  · exact Or.inl ⟨_, rfl⟩
  · exact Or.inr ⟨_, rfl⟩
  · exact Or.inl ⟨_, rfl⟩
  · exact Or.inr ⟨_, rfl⟩
  · cases h
theorem exE_I {q : Nat} {a : Int × Int} (h : exV (.inl a)) (hq : q < 3) : exE q (.inl a) := ⟨h, fun _ => ⟨_, rfl⟩, fun e => absurd e (by omega)⟩
theorem exE_L {z : Nat} (h : exV (.inr (1, z))) : exE 3 (.inr (1, z)) := ⟨h, fun e => absurd e (by decide), fun _ => ⟨_, rfl⟩⟩
theorem exE_R {q : Nat} {v : rvV} (h : exV v) (hq : 3 < q) : exE q v := ⟨h, fun e => absurd e (by omega), fun e => absurd e (by omega)⟩
theorem exC_set {ci a : Nat} {fs : List rvV} {v : rvV} (h : exC (.inl (ci, fs))) (hv : exF (rvTy ci a) v) : exC (.inl (ci, fs.set a v)) := by
  intro j w hw
  rw [List.getElem?_set] at hw
  by_cases e : a = j
  · subst e
    by_cases hl : a < fs.length
    · simp [hl] at hw
      rw [← hw]
      exact hv
    · simp [hl] at hw
  · simp [e] at hw
    exact h j w hw
theorem exV_Lb {f : Int64 → Int64 → Int64} {a b : Nat} (ha : exV (.inr (1, a))) (hb : exV (.inr (1, b))) : exV (rvLb f a b) := by
  unfold rvLb
  rw [ex_nb ha, ex_nb hb]
  exact exV_Le _
theorem exV_Ls {f : Int64 → Int32 → Int64} {a : Nat} {b : Int × Int} (ha : exV (.inr (1, a))) (hb : exV (.inl b)) : exV (rvLs f a b) := by
  unfold rvLs
  rw [ex_nb ha, exV_One hb]
  exact exV_Le _
theorem exV_Lc {a b : Nat} (ha : exV (.inr (1, a))) (hb : exV (.inr (1, b))) : exV (rvLc a b) := by
  unfold rvLc
  rw [ex_nb ha, ex_nb hb]
  exact exV_I _
theorem exV_Li {a : Nat} (ha : exV (.inr (1, a))) : exV (rvLi a) := by
  unfold rvLi
  rw [ex_nb ha]
  exact exV_I _
theorem exV_Lw {a : Int × Int} (ha : exV (.inl a)) : exV (rvLw a) := by
  unfold rvLw
  rw [exV_One ha]
  exact exV_Le _
theorem exV_Tx {j z : Nat} {b : Int} (hj : j < 12) (h : (rvTxt j)[z]? = some b) : exV (rvK b) := by
  have h := (rvTxt_in j hj).2 b (List.mem_of_getElem? h)
  rw [← h]
  exact exV_I _
theorem exV_Nat {n : Nat} (h : n < 2147483648) : exV (rvK (n : Int)) := ⟨rfl, by show -2147483648 ≤ (n : Int); omega, by show (n : Int) ≤ 2147483647; omega⟩
theorem exV_len {j : Nat} (hj : j < 12) : exV (rvK ((rvTxt j).length : Int)) := exV_Nat (Nat.lt_trans (rvTxt_in j hj).1 (by decide))
set_option maxHeartbeats 8000000 in
set_option maxRecDepth 100000 in
theorem rvStep_ex {BC BS mL a1 a2 a3 pc kc ks : Nat} {i : Instr} {al st : List rvV} {aw : rvH} {o : rvS} (h2w : exRow i a1) (ha : exL al) (hs : exL st) (hh : exH aw) (h : rvStep rvTy rvNf rvTxt [] BC BS mL i a1 a2 a3 pc al st aw kc ks = some o) : exO o := by
  cases i
  case iconst n => obtain ⟨hc, rfl⟩ := rv_bif h; exact ⟨ha, exL_c (exV_In hc (by decide) (by decide)) hs, hh⟩
  case bipush n => obtain ⟨hc, rfl⟩ := rv_bif h; exact ⟨ha, exL_c (exV_In hc (by decide) (by decide)) hs, hh⟩
  case sipush n => obtain ⟨hc, rfl⟩ := rv_bif h; exact ⟨ha, exL_c (exV_In hc (by decide) (by decide)) hs, hh⟩
  case lconst k =>
    cases h
    refine ⟨ha, exL_c ?_ hs, hh⟩
    match k with
    | 0 => exact ⟨0, by decide⟩
    | 1 => exact ⟨1, by decide⟩
  case ldc2_w n => cases h; exact ⟨ha, exL_c h2w hs, hh⟩
  case ldc n =>
    simp only [rvStep] at h
    cases hb : Nat.beq a1 50 with
    | true =>
      rw [hb, cond_true] at h
      obtain ⟨hc, rfl⟩ := rv_bif h
      exact ⟨ha, exL_c (exV_Nat (rv_blt hc)) hs, hh⟩
    | false =>
      rw [hb, cond_false] at h
      cases h
      exact ⟨ha, exL_c trivial hs, hh⟩
  case ldc_w n =>
    obtain ⟨hc, rfl⟩ := rv_bif h
    exact ⟨ha, exL_c (exV_Nat (rv_blt (rv_and hc).2)) hs, hh⟩
  case aconst_null => cases h; exact ⟨ha, exL_c trivial hs, hh⟩
  case iload k =>
    simp only [rvStep] at h
    split at h
    · rename_i a e; cases h; exact ⟨ha, exL_c (exL_get ha e) hs, hh⟩
    · cases h
  case iload_n k =>
    simp only [rvStep] at h
    split at h
    · rename_i a e; cases h; exact ⟨ha, exL_c (exL_get ha e) hs, hh⟩
    · cases h
  case lload k =>
    simp only [rvStep] at h
    split at h
    · rename_i a e; cases h; exact ⟨ha, exL_c (exL_get ha e) hs, hh⟩
    · cases h
  case lload_n k =>
    simp only [rvStep] at h
    split at h
    · rename_i a e; cases h; exact ⟨ha, exL_c (exL_get ha e) hs, hh⟩
    · cases h
  case aload k =>
    simp only [rvStep] at h
    split at h
    · rename_i a e; obtain ⟨hc, rfl⟩ := rv_bif h; exact ⟨ha, exL_c (exL_get ha e) hs, hh⟩
    · cases h
  case aload_n k =>
    simp only [rvStep] at h
    split at h
    · rename_i a e; obtain ⟨hc, rfl⟩ := rv_bif h; exact ⟨ha, exL_c (exL_get ha e) hs, hh⟩
    · cases h
  case istore k =>
    simp only [rvStep] at h
    split at h
    · obtain ⟨hc, rfl⟩ := rv_bif h; exact ⟨exL_rvSet ha (exL_hd hs), exL_tl hs, hh⟩
    · cases h
  case istore_n k =>
    simp only [rvStep] at h
    split at h
    · obtain ⟨hc, rfl⟩ := rv_bif h; exact ⟨exL_rvSet ha (exL_hd hs), exL_tl hs, hh⟩
    · cases h
  case lstore k =>
    simp only [rvStep] at h
    split at h
    · obtain ⟨hc, rfl⟩ := rv_bif h; exact ⟨exL_set (exL_rvSet ha (exL_hd hs)) exV_U, exL_tl hs, hh⟩
    · cases h
  case lstore_n k =>
    simp only [rvStep] at h
    split at h
    · obtain ⟨hc, rfl⟩ := rv_bif h; exact ⟨exL_set (exL_rvSet ha (exL_hd hs)) exV_U, exL_tl hs, hh⟩
    · cases h
  case astore k =>
    simp only [rvStep] at h
    split at h
    · obtain ⟨hc, rfl⟩ := rv_bif h; exact ⟨exL_rvSet ha (exL_hd hs), exL_tl hs, hh⟩
    · cases h
  case astore_n k =>
    simp only [rvStep] at h
    split at h
    · obtain ⟨hc, rfl⟩ := rv_bif h; exact ⟨exL_rvSet ha (exL_hd hs), exL_tl hs, hh⟩
    · cases h
  case iinc k n =>
    simp only [rvStep] at h
    split at h
    · rename_i a e
      obtain ⟨hc, rfl⟩ := rv_bif h
      exact ⟨exL_rvSet ha (exV_bin (exL_get ha e) (exV_In (rv_and hc).2 (by decide) (by decide))), hs, hh⟩
    · cases h
  case iadd =>
    simp only [rvStep] at h
    split at h
    · cases h; exact ⟨ha, exL_c (exV_bin (exL_hd (exL_tl hs)) (exL_hd hs)) (exL_tl (exL_tl hs)), hh⟩
    · cases h
  case isub =>
    simp only [rvStep] at h
    split at h
    · cases h; exact ⟨ha, exL_c (exV_bin (exL_hd (exL_tl hs)) (exL_hd hs)) (exL_tl (exL_tl hs)), hh⟩
    · cases h
  case imul =>
    simp only [rvStep] at h
    split at h
    · cases h; exact ⟨ha, exL_c (exV_bin (exL_hd (exL_tl hs)) (exL_hd hs)) (exL_tl (exL_tl hs)), hh⟩
    · cases h
  case iand =>
    simp only [rvStep] at h
    split at h
    · cases h; exact ⟨ha, exL_c (exV_bin (exL_hd (exL_tl hs)) (exL_hd hs)) (exL_tl (exL_tl hs)), hh⟩
    · cases h
  case ior =>
    simp only [rvStep] at h
    split at h
    · cases h; exact ⟨ha, exL_c (exV_bin (exL_hd (exL_tl hs)) (exL_hd hs)) (exL_tl (exL_tl hs)), hh⟩
    · cases h
  case ixor =>
    simp only [rvStep] at h
    split at h
    · cases h; exact ⟨ha, exL_c (exV_bin (exL_hd (exL_tl hs)) (exL_hd hs)) (exL_tl (exL_tl hs)), hh⟩
    · cases h
  case ishl =>
    simp only [rvStep] at h
    split at h
    · cases h; exact ⟨ha, exL_c (exV_bin (exL_hd (exL_tl hs)) (exL_hd hs)) (exL_tl (exL_tl hs)), hh⟩
    · cases h
  case ishr =>
    simp only [rvStep] at h
    split at h
    · cases h; exact ⟨ha, exL_c (exV_bin (exL_hd (exL_tl hs)) (exL_hd hs)) (exL_tl (exL_tl hs)), hh⟩
    · cases h
  case iushr =>
    simp only [rvStep] at h
    split at h
    · cases h; exact ⟨ha, exL_c (exV_bin (exL_hd (exL_tl hs)) (exL_hd hs)) (exL_tl (exL_tl hs)), hh⟩
    · cases h
  case irem =>
    simp only [rvStep] at h
    split at h
    · obtain ⟨hc, rfl⟩ := rv_bif h; exact ⟨ha, exL_c (exV_bin (exL_hd (exL_tl hs)) (exL_hd hs)) (exL_tl (exL_tl hs)), hh⟩
    · cases h
  case idiv =>
    simp only [rvStep] at h
    split at h
    · obtain ⟨hc, rfl⟩ := rv_bif h; exact ⟨ha, exL_c (exV_bin (exL_hd (exL_tl hs)) (exL_hd hs)) (exL_tl (exL_tl hs)), hh⟩
    · cases h
  case ineg =>
    simp only [rvStep] at h
    split at h
    · cases h; exact ⟨ha, exL_c (exV_bin (exL_hd hs) ⟨rfl, by decide, by decide⟩) (exL_tl hs), hh⟩
    · cases h
  case i2b =>
    simp only [rvStep] at h
    split at h
    · cases h
      refine ⟨ha, exL_c ?_ (exL_tl hs), hh⟩
      rw [exV_One (exL_hd hs)]
      exact exV_I _
    · cases h
  case i2c =>
    simp only [rvStep] at h
    split at h
    · cases h
      refine ⟨ha, exL_c ?_ (exL_tl hs), hh⟩
      rw [exV_One (exL_hd hs)]
      exact exV_I _
    · cases h
  case i2l =>
    simp only [rvStep] at h
    split at h
    · cases h; exact ⟨ha, exL_c (exV_Lw (exL_hd hs)) (exL_tl hs), hh⟩
    · cases h
  case lor =>
    simp only [rvStep] at h
    split at h
    · cases h; exact ⟨ha, exL_c (exV_Lb (exL_hd (exL_tl hs)) (exL_hd hs)) (exL_tl (exL_tl hs)), hh⟩
    · cases h
  case land =>
    simp only [rvStep] at h
    split at h
    · cases h; exact ⟨ha, exL_c (exV_Lb (exL_hd (exL_tl hs)) (exL_hd hs)) (exL_tl (exL_tl hs)), hh⟩
    · cases h
  case lshl =>
    simp only [rvStep] at h
    split at h
    · cases h; exact ⟨ha, exL_c (exV_Ls (exL_hd (exL_tl hs)) (exL_hd hs)) (exL_tl (exL_tl hs)), hh⟩
    · cases h
  case lshr =>
    simp only [rvStep] at h
    split at h
    · cases h; exact ⟨ha, exL_c (exV_Ls (exL_hd (exL_tl hs)) (exL_hd hs)) (exL_tl (exL_tl hs)), hh⟩
    · cases h
  case lushr =>
    simp only [rvStep] at h
    split at h
    · cases h; exact ⟨ha, exL_c (exV_Ls (exL_hd (exL_tl hs)) (exL_hd hs)) (exL_tl (exL_tl hs)), hh⟩
    · cases h
  case lcmp =>
    simp only [rvStep] at h
    split at h
    · cases h; exact ⟨ha, exL_c (exV_Lc (exL_hd (exL_tl hs)) (exL_hd hs)) (exL_tl (exL_tl hs)), hh⟩
    · cases h
  case l2i =>
    simp only [rvStep] at h
    split at h
    · cases h; exact ⟨ha, exL_c (exV_Li (exL_hd hs)) (exL_tl hs), hh⟩
    · cases h
  case lookupswitch dflt ps =>
    simp only [rvStep] at h
    split at h
    · obtain ⟨hc, h⟩ := rv_bifo h
      split at h
      · cases h; exact ⟨ha, exL_tl hs, hh⟩
      · cases h
    · cases h
  case dup =>
    simp only [rvStep] at h
    split at h
    · obtain ⟨hc, rfl⟩ := rv_nbif h; exact ⟨ha, exL_c (exL_hd hs) hs, hh⟩
    · cases h
  case dup_x1 =>
    simp only [rvStep] at h
    split at h
    · obtain ⟨hc, rfl⟩ := rv_nbif h; exact ⟨ha, exL_c (exL_hd hs) (exL_c (exL_hd (exL_tl hs)) (exL_c (exL_hd hs) (exL_tl (exL_tl hs)))), hh⟩
    · cases h
  case dup2 =>
    simp only [rvStep] at h
    split at h
    · obtain ⟨hc, rfl⟩ := rv_nbif h; exact ⟨ha, exL_c (exL_hd hs) (exL_c (exL_hd (exL_tl hs)) hs), hh⟩
    · cases h
  case pop =>
    simp only [rvStep] at h
    split at h
    · obtain ⟨hc, rfl⟩ := rv_nbif h; exact ⟨ha, exL_tl hs, hh⟩
    · cases h
  case if_icmp c off =>
    simp only [rvStep] at h
    split at h
    · split at h
      · cases h; exact ⟨ha, exL_tl (exL_tl hs), hh⟩
      · cases h; exact ⟨ha, exL_tl (exL_tl hs), hh⟩
      · cases h
    · cases h
  case ifCond c off =>
    simp only [rvStep] at h
    split at h
    · split at h
      · cases h; exact ⟨ha, exL_tl hs, hh⟩
      · cases h; exact ⟨ha, exL_tl hs, hh⟩
      · cases h
    · cases h
  case ifnonnull off =>
    simp only [rvStep] at h
    split at h
    · cases h; exact ⟨ha, exL_tl hs, hh⟩
    · split at h
      · cases h; exact ⟨ha, exL_tl hs, hh⟩
      · cases h
    · cases h
  case ifnull off =>
    simp only [rvStep] at h
    split at h
    · cases h; exact ⟨ha, exL_tl hs, hh⟩
    · split at h
      · cases h; exact ⟨ha, exL_tl hs, hh⟩
      · cases h
    · cases h
  case goto off =>
    simp only [rvStep] at h
    split at h
    · cases h; exact ⟨ha, hs, hh⟩
    · cases h
  case tableswitch dflt lo hi offs =>
    simp only [rvStep] at h
    split at h
    · rename_i a st
      cases hb : (decide (a.2 < lo) || decide (hi < a.1)) with
      | true =>
        rw [hb, cond_true] at h
        split at h
        · cases h; exact ⟨ha, exL_tl hs, hh⟩
        · cases h
      | false =>
        rw [hb, cond_false] at h
        obtain ⟨hc, h⟩ := rv_bifo h
        split at h
        · split at h
          · cases h; exact ⟨ha, exL_tl hs, hh⟩
          · cases h
        · cases h
    · cases h
  case getfield idx =>
    simp only [rvStep] at h
    split at h
    · split at h
      · rename_i ci fs e
        obtain ⟨hc, h⟩ := rv_bifo h
        split at h
        · rename_i w e2
          cases h
          exact ⟨ha, exL_c (exH_get hh e _ _ e2).1 (exL_tl hs), hh⟩
        · cases h
      · cases h
    · obtain ⟨hc, rfl⟩ := rv_bif h
      refine ⟨ha, exL_c ?_ (exL_tl hs), hh⟩
      cases Nat.beq a2 0
      · exact ⟨rfl, by decide, by decide⟩
      · exact trivial
    · cases h
  case putfield idx =>
    simp only [rvStep] at h
    split at h
    · split at h
      · rename_i ci fs e
        obtain ⟨hc, rfl⟩ := rv_bif h
        obtain ⟨hc, hc2⟩ := rv_and hc
        have hc := rv_beq hc
        subst hc
        refine ⟨ha, exL_tl (exL_tl hs), exH_set hh (exC_set (exH_get hh e) (exF_fit (exL_hd hs) ?_))⟩
        exact (rv_and hc2).1
      · cases h
    · cases h
  case getstatic idx =>
    simp only [rvStep] at h
    cases h
    refine ⟨ha, exL_c ?_ hs, hh⟩
    cases Nat.beq a1 0
    · cases Nat.beq a1 1
      · exact trivial
      · exact trivial
    · exact ⟨rfl, by decide, by decide⟩
  case arraylength =>
    simp only [rvStep] at h
    split at h
    · split at h
      · obtain ⟨hc, rfl⟩ := rv_bif h
        exact ⟨ha, exL_c (exV_Nat (rv_blt hc)) (exL_tl hs), hh⟩
      · cases h
    · obtain ⟨hc, rfl⟩ := rv_bif h
      have hc := rv_blt hc
      exact ⟨ha, exL_c (exV_len (by omega)) (exL_tl hs), hh⟩
    · obtain ⟨hc, rfl⟩ := rv_bif h
      have hc := rv_blt hc
      exact ⟨ha, exL_c (exV_len (by omega)) (exL_tl hs), hh⟩
    · cases h
  case iaload =>
    simp only [rvStep] at h
    split at h
    · split at h
      · rename_i n d ov e
        split at h
        · cases h; exact ⟨ha, exL_c (ex_look (exH_get hh e).1 (exH_get hh e).2).1 (exL_tl (exL_tl hs)), hh⟩
        · cases h
      · cases h
    · split at h
      · split at h
        · rename_i b e2
          obtain ⟨hc, rfl⟩ := rv_bif h
          have hc := rv_blt hc
          exact ⟨ha, exL_c (exV_Tx (by omega) e2) (exL_tl (exL_tl hs)), hh⟩
        · cases h
      · cases h
    · split at h
      · rename_i j hj
        exact absurd (rvIdx_pos hj) (Nat.not_lt_zero _)
      · cases h
    · cases h
  case baload =>
    simp only [rvStep] at h
    split at h
    · split at h
      · rename_i n d ov e
        split at h
        · cases h; exact ⟨ha, exL_c (ex_look (exH_get hh e).1 (exH_get hh e).2).1 (exL_tl (exL_tl hs)), hh⟩
        · cases h
      · rename_i n d ov e
        split at h
        · cases h; exact ⟨ha, exL_c (ex_look (exH_get hh e).1 (exH_get hh e).2).1 (exL_tl (exL_tl hs)), hh⟩
        · cases h
      · cases h
    · split at h
      · split at h
        · rename_i b e2
          obtain ⟨hc, rfl⟩ := rv_bif h
          have hc := rv_blt hc
          exact ⟨ha, exL_c (exV_Tx (by omega) e2) (exL_tl (exL_tl hs)), hh⟩
        · cases h
      · cases h
    · cases h
  case laload =>
    simp only [rvStep] at h
    split at h
    · split at h
      · rename_i n d ov e
        split at h
        · split at h
          · rename_i z hz
            cases h
            refine ⟨ha, exL_c ?_ (exL_tl (exL_tl hs)), hh⟩
            rw [← hz]
            exact (ex_look (exH_get hh e).1 (exH_get hh e).2).1
          · cases h
        · cases h
      · cases h
    · cases h
  case aaload =>
    simp only [rvStep] at h
    split at h
    · split at h
      · rename_i n d ov e
        split at h
        · cases h; exact ⟨ha, exL_c (ex_look (exH_get hh e).1 (exH_get hh e).2).1 (exL_tl (exL_tl hs)), hh⟩
        · cases h
      · rename_i n d ov e
        split at h
        · cases h; exact ⟨ha, exL_c (ex_look (exH_get hh e).1 (exH_get hh e).2).1 (exL_tl (exL_tl hs)), hh⟩
        · cases h
      · cases h
    · cases h
  case iastore =>
    simp only [rvStep] at h
    split at h
    · split at h
      · rename_i n d ov e
        split at h
        · cases h; exact ⟨ha, exL_tl (exL_tl (exL_tl hs)), exH_set hh ⟨(exH_get hh e).1, ex_up (exE_I (exL_hd hs) (by decide)) (exH_get hh e).2⟩⟩
        · cases h
      · cases h
    · cases h
  case bastore =>
    simp only [rvStep] at h
    split at h
    · split at h
      · rename_i n d ov e
        split at h
        · obtain ⟨hc, rfl⟩ := rv_bif h
          exact ⟨ha, exL_tl (exL_tl (exL_tl hs)), exH_set hh ⟨(exH_get hh e).1, ex_up (exE_I (exL_hd hs) (by decide)) (exH_get hh e).2⟩⟩
        · cases h
      · rename_i n d ov e
        split at h
        · obtain ⟨hc, rfl⟩ := rv_bif h
          exact ⟨ha, exL_tl (exL_tl (exL_tl hs)), exH_set hh ⟨(exH_get hh e).1, ex_up (exE_I (exL_hd hs) (by decide)) (exH_get hh e).2⟩⟩
        · cases h
      · cases h
    · cases h
  case lastore =>
    simp only [rvStep] at h
    split at h
    · split at h
      · rename_i n d ov e
        split at h
        · cases h; exact ⟨ha, exL_tl (exL_tl (exL_tl hs)), exH_set hh ⟨(exH_get hh e).1, ex_up (exE_L (exL_hd hs)) (exH_get hh e).2⟩⟩
        · cases h
      · cases h
    · cases h
  case aastore =>
    simp only [rvStep] at h
    split at h
    · split at h
      · rename_i q n d ov e
        split at h
        · split at h
          · obtain ⟨hc, rfl⟩ := rv_bif h
            have hq : 3 < q := by
              rcases rv_or' hc with e9 | e9
              · have := rv_beq e9; omega
              · have := rv_beq e9; omega
            exact ⟨ha, exL_tl (exL_tl (exL_tl hs)), exH_set hh ⟨(exH_get hh e).1, ex_up (exE_R (by exact trivial) hq) (exH_get hh e).2⟩⟩
          · split at h
            · obtain ⟨hc, rfl⟩ := rv_bif h
              have hq : 3 < q := by
                rcases rv_or' hc with e9 | e9
                · have := rv_beq (rv_and e9).1; omega
                · have := rv_beq (rv_and e9).1; omega
              exact ⟨ha, exL_tl (exL_tl (exL_tl hs)), exH_set hh ⟨(exH_get hh e).1, ex_up (exE_R (by exact trivial) hq) (exH_get hh e).2⟩⟩
            · cases h
          · cases h
        · cases h
      · cases h
    · cases h
  case new idx =>
    obtain ⟨hc, rfl⟩ := rv_bif h
    refine ⟨ha, exL_c trivial hs, exH_app hh (fun j v hv => ?_)⟩
    rw [List.getElem?_map] at hv
    cases hr : (List.range (rvNf a1))[j]? with
    | none => rw [hr] at hv; cases hv
    | some k =>
      rw [hr] at hv
      have e1 : rvDef (rvTy a1 k) = v := Option.some.inj hv
      have e2 : k = j := by
        have h9 := List.getElem?_eq_some_iff.mp hr
        obtain ⟨h8, h9⟩ := h9
        rw [← h9]
        simp
      rw [← e1, e2]
      exact exF_Def _
  case newarray t =>
    simp only [rvStep] at h
    split at h
    · obtain ⟨hc, rfl⟩ := rv_bif h
      refine ⟨ha, exL_c trivial (exL_tl hs), exH_app hh ⟨?_, fun q hq => by cases hq⟩⟩
      cases hb : Nat.beq a1 3 with
      | false => exact ⟨⟨rfl, by decide, by decide⟩, fun _ => ⟨_, rfl⟩, fun e9 => by rw [e9] at hb; cases hb⟩
      | true =>
        have e9 := rv_beq hb
        subst e9
        exact exE_L exV_L0
    · cases h
  case anewarray idx =>
    simp only [rvStep] at h
    split at h
    · obtain ⟨hc, rfl⟩ := rv_bif h
      exact ⟨ha, exL_c trivial (exL_tl hs), exH_app hh ⟨exE_R trivial h2w, fun q hq => by cases hq⟩⟩
    · cases h
  all_goals
    have h : (none : Option rvS) = some o := h
    cases h
theorem rvCopy_ex {BF BL pc kc ks : Nat} {al st : List rvV} {aw : rvH} {o : rvS} (ha : exL al) (hs : exL st) (hh : exH aw) (h : rvCopy BF BL pc al st aw kc ks = some o) : exO o := by
  unfold rvCopy at h
  split at h
  · split at h
    · rename_i e1 e2
      obtain ⟨hc, rfl⟩ := rv_bif h
      exact ⟨ha, exL_tl (exL_tl (exL_tl (exL_tl (exL_tl hs)))), exH_set hh ⟨(exH_get hh e1).1, (exH_get hh e1).2⟩⟩
    · cases h
  · cases h
