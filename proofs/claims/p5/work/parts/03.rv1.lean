/-! What the values, cells and locals of a run say of the machine's. -/
theorem rv_beq {a b : Nat} (h : Nat.beq a b = true) : a = b := Nat.eq_of_beq_eq_true h
theorem rv_ble {a b : Nat} (h : Nat.ble a b = true) : a ≤ b := Nat.le_of_ble_eq_true h
theorem rv_blt {a b : Nat} (h : Nat.blt a b = true) : a < b := Nat.le_of_ble_eq_true h
theorem rv_bif {α : Type} {c : Bool} {a r : α} (h : (bif c then some a else none) = some r) : c = true ∧ a = r := by
  cases c with
  | true => exact ⟨rfl, Option.some.inj h⟩
  | false => cases h
theorem rv_nbif {α : Type} {c : Bool} {a r : α} (h : (bif c then none else some a) = some r) : c = false ∧ a = r := by
  cases c with
  | false => exact ⟨rfl, Option.some.inj h⟩
  | true => cases h
theorem rv_and {a b : Bool} (h : (a && b) = true) : a = true ∧ b = true := by
  cases a <;> cases b <;> first | exact ⟨rfl, rfl⟩ | cases h
theorem rv_or {a b : Bool} (h : (a || b) = false) : a = false ∧ b = false := by
  cases a <;> cases b <;> first | exact ⟨rfl, rfl⟩ | cases h
theorem rv_or' {a b : Bool} (h : (a || b) = true) : a = true ∨ b = true := by
  cases a <;> cases b <;> first | exact Or.inl rfl | exact Or.inr rfl | cases h
def rvR (ad : List Nat) (ex : Nat → Nat → Nat) (v : rvV) (x : Value) : Prop := match v with
  | .inl a => ∃ n : Int32, x = .int n ∧ a.1 ≤ n.toInt ∧ n.toInt ≤ a.2
  | .inr (0, _) => x = .null
  | .inr (1, k) => ∃ n : Int64, x = .long n ∧ (k = 0 ∨ n = rvLd k)
  | .inr (2, k) => ∃ q : Nat, ad[k]? = some q ∧ x = .ref q
  | .inr (6, _) => x = .null ∨ ∃ q : Nat, x = .ref q
  | .inr (7, k) => x = .int (Int32.ofNat (ex 7 k))
  | .inr (9, _) => False
  | .inr (t, k) => x = .ref (ex t k)
def rvRs (ad : List Nat) (ex : Nat → Nat → Nat) : List rvV → List Value → Prop
  | [], [] => True
  | v :: vs, x :: xs => rvR ad ex v x ∧ rvRs ad ex vs xs
  | _, _ => False
theorem rvR_mono {ad : List Nat} {ex : Nat → Nat → Nat} {v : rvV} {x : Value} (t : List Nat) (h : rvR ad ex v x) : rvR (ad ++ t) ex v x := by
  rcases v with a | ⟨t0, k⟩
  · exact h
  · match t0, h with
    | 0, h => exact h
    | 1, h => exact h
    | 2, h =>
      obtain ⟨q, h1, h2⟩ := h
      exact ⟨q, by rw [List.getElem?_append_left (List.getElem?_eq_some_iff.mp h1).1]; exact h1, h2⟩
    | 3, h => exact h
    | 4, h => exact h
    | 5, h => exact h
    | 6, h => exact h
    | 7, h => exact h
    | 8, h => exact h
    | 9, h => exact h
    | n + 10, h => exact h
theorem rvR_cat {ad : List Nat} {ex : Nat → Nat → Nat} {v : rvV} {x : Value} (h : rvR ad ex v x) : x.category = bif rvIsL v then 2 else 1 := by
  rcases v with a | ⟨t0, k⟩
  · obtain ⟨n, rfl, -⟩ := h
    rfl
  · match t0, h with
    | 0, h => cases h; rfl
    | 1, h => obtain ⟨n, rfl, -⟩ := h; rfl
    | 2, h => obtain ⟨q, -, rfl⟩ := h; rfl
    | 3, h => cases h; rfl
    | 4, h => cases h; rfl
    | 5, h => cases h; rfl
    | 6, h => rcases h with rfl | ⟨q, rfl⟩ <;> rfl
    | 7, h => cases h; rfl
    | 8, h => cases h; rfl
    | 9, h => exact absurd h id
    | n + 10, h => cases h; rfl
theorem rvR_A {ad : List Nat} {ex : Nat → Nat → Nat} {v : rvV} {x : Value} (hv : rvIsA v = true) (h : rvR ad ex v x) : x = .null ∨ ∃ q : Nat, x = .ref q := by
  rcases v with a | ⟨t0, k⟩
  · cases hv
  · match t0, h, hv with
    | 0, h, _ => exact Or.inl h
    | 1, h, hv => cases hv
    | 2, h, _ => obtain ⟨q, -, rfl⟩ := h; exact Or.inr ⟨q, rfl⟩
    | 3, h, _ => exact Or.inr ⟨_, h⟩
    | 4, h, _ => exact Or.inr ⟨_, h⟩
    | 5, h, _ => exact Or.inr ⟨_, h⟩
    | 6, h, _ => exact h
    | 7, h, hv => cases hv
    | 8, h, _ => exact Or.inr ⟨_, h⟩
    | 9, h, hv => cases hv
    | n + 10, h, _ => exact Or.inr ⟨_, h⟩
theorem rvRs_mono {ad : List Nat} {ex : Nat → Nat → Nat} (t : List Nat) : ∀ {vs : List rvV} {xs : List Value}, rvRs ad ex vs xs → rvRs (ad ++ t) ex vs xs
  | [], [], _ => trivial
  | _ :: _, _ :: _, h => ⟨rvR_mono t h.1, rvRs_mono t h.2⟩
  | [], _ :: _, h => h
  | _ :: _, [], h => h
theorem rvRs_cons {ad : List Nat} {ex : Nat → Nat → Nat} {v : rvV} {vs : List rvV} {xs : List Value} (h : rvRs ad ex (v :: vs) xs) : ∃ y ys, xs = y :: ys ∧ rvR ad ex v y ∧ rvRs ad ex vs ys := by
  cases xs with
  | nil => exact absurd h id
  | cons y ys => exact ⟨y, ys, rfl, h.1, h.2⟩
theorem rvRs_nil {ad : List Nat} {ex : Nat → Nat → Nat} {xs : List Value} (h : rvRs ad ex [] xs) : xs = [] := by
  cases xs with
  | nil => rfl
  | cons y ys => exact absurd h id
theorem rvRs_get {ad : List Nat} {ex : Nat → Nat → Nat} : ∀ {vs : List rvV} {xs : List Value} {k : Nat} {v : rvV}, rvRs ad ex vs xs → vs[k]? = some v → ∃ x, xs[k]? = some x ∧ rvR ad ex v x
  | [], _, _, _, _, hv => by simp at hv
  | w :: vs, [], _, _, h, _ => absurd h id
  | w :: vs, y :: ys, 0, v, h, hv => ⟨y, rfl, by
      have e : w = v := by simpa using hv
      rw [← e]; exact h.1⟩
  | w :: vs, y :: ys, k + 1, v, h, hv => by
      obtain ⟨x, h1, h2⟩ := rvRs_get (k := k) h.2 (by simpa using hv)
      exact ⟨x, by simpa using h1, h2⟩
theorem rvRs_set {ad : List Nat} {ex : Nat → Nat → Nat} : ∀ {vs : List rvV} {xs : List Value} {k : Nat} {v : rvV} {x : Value}, rvRs ad ex vs xs → rvR ad ex v x → rvRs ad ex (vs.set k v) (xs.set k x)
  | [], [], _, _, _, _, _ => trivial
  | w :: vs, [], _, _, _, h, _ => absurd h id
  | [], y :: ys, _, _, _, h, _ => absurd h id
  | w :: vs, y :: ys, 0, v, x, h, hv => ⟨hv, h.2⟩
  | w :: vs, y :: ys, k + 1, v, x, h, hv => ⟨h.1, rvRs_set (k := k) h.2 hv⟩
theorem rvRs_len {ad : List Nat} {ex : Nat → Nat → Nat} : ∀ {vs : List rvV} {xs : List Value}, rvRs ad ex vs xs → rvLen vs = xs.length
  | [], [], _ => rfl
  | w :: vs, [], h => absurd h id
  | [], y :: ys, h => absurd h id
  | w :: vs, y :: ys, h => by
      have := rvRs_len h.2
      simp [rvLen, this]
theorem rvRs_wd {ad : List Nat} {ex : Nat → Nat → Nat} : ∀ {vs : List rvV} {xs : List Value}, rvRs ad ex vs xs → (xs.map fun v => v.category).sum = rvWd vs
  | [], [], _ => rfl
  | w :: vs, [], h => absurd h id
  | [], y :: ys, h => absurd h id
  | w :: vs, y :: ys, h => by
      have h1 := rvRs_wd h.2
      have h2 := rvR_cat h.1
      simp [rvWd, h1, h2]
theorem rvRs_pop {ad : List Nat} {ex : Nat → Nat → Nat} : ∀ (n : Nat) {st acc : List rvV} {xs ys : List Value} {as rest : List rvV}, rvPop n st acc = some (as, rest) → rvRs ad ex st xs → rvRs ad ex acc ys → ∃ us vs, xs = us ++ vs ∧ us.length = n ∧ rvRs ad ex as (us.reverse ++ ys) ∧ rvRs ad ex rest vs
  | 0, st, acc, xs, ys, as, rest, h, hs, ha => by
      simp only [rvPop, Option.some.injEq, Prod.mk.injEq] at h
      obtain ⟨rfl, rfl⟩ := h
      exact ⟨[], xs, rfl, rfl, ha, hs⟩
  | n + 1, [], acc, xs, ys, as, rest, h, hs, ha => by cases h
  | n + 1, v :: st, acc, xs, ys, as, rest, h, hs, ha => by
      obtain ⟨y, zs, rfl, h1, h2⟩ := rvRs_cons hs
      obtain ⟨us, vs, e1, e2, e3, e4⟩ := rvRs_pop n (acc := v :: acc) (ys := y :: ys) h h2 ⟨h1, ha⟩
      exact ⟨y :: us, vs, by rw [e1]; rfl, by simp [e2], by simpa using e3, e4⟩
/-- numbers -/
theorem rv_lo (n : Int32) : -2147483648 ≤ n.toInt := Int32.le_toInt n
theorem rv_hi (n : Int32) : n.toInt ≤ 2147483647 := by
  have := Int32.toInt_lt n
  omega
theorem rvR_top {ad : List Nat} {ex : Nat → Nat → Nat} (n : Int32) : rvR ad ex rvTop (.int n) := ⟨n, rfl, rv_lo n, rv_hi n⟩
theorem rvR_K {ad : List Nat} {ex : Nat → Nat → Nat} {n : Int32} {k : Int} (h : n.toInt = k) : rvR ad ex (rvK k) (.int n) := ⟨n, rfl, by show k ≤ n.toInt; omega, by show n.toInt ≤ k; omega⟩
theorem rv_one {a : Int × Int} {n : Int32} (h : rvOne a = true) (h1 : a.1 ≤ n.toInt) (h2 : n.toInt ≤ a.2) : n.toInt = a.1 ∧ n = Int32.ofInt a.1 := by
  have e : a.1 = a.2 := of_decide_eq_true h
  have e2 : n.toInt = a.1 := by omega
  exact ⟨e2, by rw [← e2, Int32.ofInt_toInt]⟩
theorem rvBin_ok {ad : List Nat} {ex : Nat → Nat → Nat} {f : Int32 → Int32 → Int32} {a b : Int × Int} {x y : Int32} (h1 : a.1 ≤ x.toInt) (h2 : x.toInt ≤ a.2) (h3 : b.1 ≤ y.toInt) (h4 : y.toInt ≤ b.2) : rvR ad ex (rvBin f a b) (.int (f x y)) := by
  unfold rvBin
  cases ha : rvOne a with
  | false => exact rvR_top _
  | true =>
    cases hb : rvOne b with
    | false => exact rvR_top _
    | true =>
      obtain ⟨-, e1⟩ := rv_one ha h1 h2
      obtain ⟨-, e2⟩ := rv_one hb h3 h4
      rw [e1, e2]
      exact rvR_K rfl
theorem rvLt_ok {a b : Int × Int} {x y : Int32} {r : Bool} (h : rvLt a b = some r) (h1 : a.1 ≤ x.toInt) (h2 : x.toInt ≤ a.2) (h3 : b.1 ≤ y.toInt) (h4 : y.toInt ≤ b.2) : (x < y) ↔ r = true := by
  rw [Int32.lt_iff_toInt_lt]
  unfold rvLt at h
  by_cases c1 : a.2 < b.1
  · rw [decide_eq_true c1] at h
    cases h
    exact ⟨fun _ => rfl, fun _ => by omega⟩
  · rw [decide_eq_false c1] at h
    obtain ⟨c2, rfl⟩ := rv_bif (show (bif decide (b.2 ≤ a.1) then some false else none) = some r from h)
    have := of_decide_eq_true c2
    exact ⟨fun q => by omega, fun q => by cases q⟩
theorem rvEq_ok {a b : Int × Int} {x y : Int32} {r : Bool} (h : rvEq a b = some r) (h1 : a.1 ≤ x.toInt) (h2 : x.toInt ≤ a.2) (h3 : b.1 ≤ y.toInt) (h4 : y.toInt ≤ b.2) : (x = y) ↔ r = true := by
  rw [← Int32.toInt_inj]
  unfold rvEq at h
  cases hc : (rvOne a && rvOne b) with
  | true =>
    rw [hc] at h
    obtain ⟨ha, hb⟩ := rv_and hc
    obtain ⟨e1, -⟩ := rv_one ha h1 h2
    obtain ⟨e2, -⟩ := rv_one hb h3 h4
    have hr : decide (a.1 = b.1) = r := Option.some.inj h
    rw [e1, e2, ← hr]
    simp
  | false =>
    rw [hc] at h
    obtain ⟨c2, rfl⟩ := rv_bif (show (bif decide (a.2 < b.1) || decide (b.2 < a.1) then some false else none) = some r from h)
    rcases rv_or' c2 with q | q
    · have := of_decide_eq_true q
      exact ⟨fun z => by omega, fun z => by cases z⟩
    · have := of_decide_eq_true q
      exact ⟨fun z => by omega, fun z => by cases z⟩
theorem rvNo_ok {o : Option Bool} {r : Bool} (h : rvNo o = some r) : o = some (!r) := by
  cases o with
  | none => cases h
  | some b =>
    have e : (!b) = r := Option.some.inj h
    rw [← e]
    simp
theorem rvJ_ok {pc t : Nat} {off : Int} (h : rvJ pc off = some t) : (pc : Int) + off = (t : Int) := by
  obtain ⟨h1, h2⟩ := rv_bif h
  have := of_decide_eq_true h1
  rw [← h2]
  omega
theorem rvIdx_ok {a : Int × Int} {n j : Nat} {x : Int32} (h : rvIdx a n = some j) (h1 : a.1 ≤ x.toInt) (h2 : x.toInt ≤ a.2) : vp_in x n ∧ x.toNatClampNeg = j ∧ j < n := by
  obtain ⟨hc, hj⟩ := rv_bif h
  obtain ⟨ha, hb⟩ := rv_and hc
  obtain ⟨hb, hd⟩ := rv_and hb
  have q1 := of_decide_eq_true hb
  have q2 := of_decide_eq_true hd
  obtain ⟨e1, -⟩ := rv_one ha h1 h2
  have e2 : x.toNatClampNeg = x.toInt.toNat := rfl
  have e3 : ¬ x < 0 := by
    rw [Int32.lt_iff_toInt_lt]
    show ¬ x.toInt < 0
    omega
  refine ⟨fun q => ?_, by rw [e2, e1, hj], by omega⟩
  rcases q with q | q
  · exact e3 q
  · rw [e2, e1] at q
    omega
theorem rv_ofInt {n : Int} (h : rvIn (n, n) (-2147483648) 2147483647 = true) : (Int32.ofInt n).toInt = n := by
  obtain ⟨h1, h2⟩ := rv_and h
  have q1 : -2147483648 ≤ n := of_decide_eq_true h1
  have q2 : n ≤ 2147483647 := of_decide_eq_true h2
  exact Int32.toInt_ofInt_of_le (by omega) (by omega)
theorem rv_ofInt8 {n : Int} (h : rvIn (n, n) (-128) 127 = true) : (Int8.ofInt n).toInt32.toInt = n := by
  obtain ⟨h1, h2⟩ := rv_and h
  have q1 : -128 ≤ n := of_decide_eq_true h1
  have q2 : n ≤ 127 := of_decide_eq_true h2
  rw [Int8.toInt_toInt32]
  exact Int8.toInt_ofInt_of_le (by omega) (by omega)
theorem rv_ofInt16 {n : Int} (h : rvIn (n, n) (-32768) 32767 = true) : (Int16.ofInt n).toInt32.toInt = n := by
  obtain ⟨h1, h2⟩ := rv_and h
  have q1 : -32768 ≤ n := of_decide_eq_true h1
  have q2 : n ≤ 32767 := of_decide_eq_true h2
  rw [Int16.toInt_toInt32]
  exact Int16.toInt_ofInt_of_le (by omega) (by omega)
/-- rows -/
theorem rvLook_up (d v : rvV) (j i : Nat) : ∀ ov : List (Nat × rvV), rvLook d (rvUp ov j v) i = if i = j then v else rvLook d ov i
  | [] => by
      show (bif Nat.beq j i then v else d) = _
      by_cases h : i = j
      · subst h; simp
      · have e : Nat.beq j i = false := by
          cases hb : Nat.beq j i with
          | false => rfl
          | true => exact absurd (rv_beq hb).symm h
        rw [e, if_neg h]
        rfl
  | (k, w) :: t => by
      have ih := rvLook_up d v j i t
      cases hb : Nat.beq k j with
      | true =>
        have e := rv_beq hb
        subst e
        have e2 : rvUp ((k, w) :: t) k v = (k, v) :: t := by simp [rvUp]
        rw [e2]
        show (bif Nat.beq k i then v else rvLook d t i) = _
        by_cases h : i = k
        · subst h; simp
        · have e : Nat.beq k i = false := by
            cases hb : Nat.beq k i with
            | false => rfl
            | true => exact absurd (rv_beq hb).symm h
          rw [e, if_neg h]
          show rvLook d t i = (bif Nat.beq k i then w else rvLook d t i)
          rw [e]
          rfl
      | false =>
        have e2 : rvUp ((k, w) :: t) j v = (k, w) :: rvUp t j v := by
          show (bif Nat.beq k j then (j, v) :: t else (k, w) :: rvUp t j v) = _
          rw [hb]; rfl
        rw [e2]
        show (bif Nat.beq k i then w else rvLook d (rvUp t j v) i) = if i = j then v else (bif Nat.beq k i then w else rvLook d t i)
        rw [ih]
        cases hc : Nat.beq k i with
        | true =>
          have e := rv_beq hc
          subst e
          have hne : ¬ k = j := fun q => by rw [q, Nat.beq_refl] at hb; cases hb
          simp [hne]
        | false => rfl
/-- known longs -/
theorem rvLe_ok (n : Int64) : rvLd (rvLe n) = n := by
  show Int64.ofNat (n.toUInt64.toNat + 1 - 1) = n
  rw [Nat.add_sub_cancel]
  rw [← UInt64.toInt64_ofNat', UInt64.ofNat_toNat, Int64.toInt64_toUInt64]
theorem rvR_L {ad : List Nat} {ex : Nat → Nat → Nat} (n : Int64) : rvR ad ex rvL (.long n) := ⟨n, rfl, Or.inl rfl⟩
theorem rvR_Lk {ad : List Nat} {ex : Nat → Nat → Nat} (n : Int64) : rvR ad ex (.inr (1, rvLe n)) (.long n) := ⟨n, rfl, Or.inr (rvLe_ok n).symm⟩
theorem rvL_known {k : Nat} {n : Int64} (hk : Nat.beq k 0 = false) (h : k = 0 ∨ n = rvLd k) : n = rvLd k := by
  rcases h with h | h
  · subst h; cases hk
  · exact h
theorem rvLb_ok {ad : List Nat} {ex : Nat → Nat → Nat} {f : Int64 → Int64 → Int64} {a b : Nat} {x y : Int64} (h1 : a = 0 ∨ x = rvLd a) (h2 : b = 0 ∨ y = rvLd b) : rvR ad ex (rvLb f a b) (.long (f x y)) := by
  unfold rvLb
  cases hc : (Nat.beq a 0 || Nat.beq b 0) with
  | true => exact rvR_L _
  | false =>
    obtain ⟨c1, c2⟩ := rv_or hc
    rw [← rvL_known c1 h1, ← rvL_known c2 h2]
    exact rvR_Lk _
theorem rvLs_ok {ad : List Nat} {ex : Nat → Nat → Nat} {f : Int64 → Int32 → Int64} {a : Nat} {b : Int × Int} {x : Int64} {y : Int32} (h1 : a = 0 ∨ x = rvLd a) (h2 : b.1 ≤ y.toInt) (h3 : y.toInt ≤ b.2) : rvR ad ex (rvLs f a b) (.long (f x y)) := by
  unfold rvLs
  cases hc : (Nat.beq a 0 || !rvOne b) with
  | true => exact rvR_L _
  | false =>
    obtain ⟨c1, c2⟩ := rv_or hc
    have c3 : rvOne b = true := by
      cases hb : rvOne b with
      | true => rfl
      | false => rw [hb] at c2; cases c2
    rw [← rvL_known c1 h1, ← (rv_one c3 h2 h3).2]
    exact rvR_Lk _
theorem rvR_L0 {ad : List Nat} {ex : Nat → Nat → Nat} : rvR ad ex rvL0 (.long 0) := ⟨0, rfl, Or.inr (by decide)⟩
theorem rvLw_ok {ad : List Nat} {ex : Nat → Nat → Nat} {a : Int × Int} {x : Int32} (h1 : a.1 ≤ x.toInt) (h2 : x.toInt ≤ a.2) : rvR ad ex (rvLw a) (.long x.toInt64) := by
  unfold rvLw
  cases hc : rvOne a with
  | false => exact rvR_L _
  | true =>
    rw [← (rv_one hc h1 h2).2]
    exact rvR_Lk _
theorem rvLc_ok {ad : List Nat} {ex : Nat → Nat → Nat} {a b : Nat} {x y : Int64} (h1 : a = 0 ∨ x = rvLd a) (h2 : b = 0 ∨ y = rvLd b) : rvR ad ex (rvLc a b) (.int (lg_cmp x y)) := by
  unfold rvLc
  cases hc : (Nat.beq a 0 || Nat.beq b 0) with
  | true =>
    have h : lg_cmp x y = -1 ∨ lg_cmp x y = 0 ∨ lg_cmp x y = 1 := by
      unfold lg_cmp
      split
      · first | exact Or.inl rfl | exact Or.inr (Or.inr rfl)
      · split
        · first | exact Or.inl rfl | exact Or.inr (Or.inl rfl) | exact Or.inr (Or.inr rfl)
        · first | exact Or.inl rfl | exact Or.inr (Or.inl rfl) | exact Or.inr (Or.inr rfl)
    rcases h with h | h | h <;> rw [h] <;> exact ⟨_, rfl, by decide, by decide⟩
  | false =>
    obtain ⟨c1, c2⟩ := rv_or hc
    rw [← rvL_known c1 h1, ← rvL_known c2 h2]
    exact rvR_K rfl
theorem rvLi_ok {ad : List Nat} {ex : Nat → Nat → Nat} {a : Nat} {x : Int64} (h1 : a = 0 ∨ x = rvLd a) : rvR ad ex (rvLi a) (.int x.toInt32) := by
  unfold rvLi
  cases hc : Nat.beq a 0 with
  | true => exact rvR_top _
  | false =>
    rw [← rvL_known hc h1]
    exact rvR_K rfl
