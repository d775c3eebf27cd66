/-! What a run of a method's body needs of the machine, and calls as the checker sees them. -/
abbrev xRes2 : Type := Option rvV × rvH
/-- a call at pc: of j2, of the arguments as, the stack rest stays -/
def xInv (tab : Nat → Nat → Option rvE) (info : Nat → rvM) (j pc : Nat) (st : List rvV) (aw : rvH) (kc ks j2 : Nat) (as rest : List rvV) : Prop :=
  ∃ (i : Instr) (len a2 a3 wi : Nat) (as0 rest0 : List rvV), tab j pc = some (i, len, j2, a2, a3, wi) ∧ rvPop a2 st [] = some (as0, rest0) ∧ (info j2).2.1 + 1 ≤ (info j).2.1 ∧ 8 + ((info j2).1 + 11) + (info j2).2.2.2.2.1 ≤ (info j).2.2.2.2.1 ∧ kc + (info j2).2.2.1 ≤ (info j).2.2.1 ∧ ks + (info j2).2.2.2.1 ≤ (info j).2.2.2.1 ∧ rvWd rest ≤ 8 ∧
    (((∃ idx, i = .invokestatic idx) ∧ Nat.beq a3 8 = false ∧ as = as0 ∧ rest0 = rest) ∨
      (((∃ idx, i = .invokevirtual idx) ∨ ((∃ idx, i = .invokespecial idx) ∧ Nat.beq a3 9 = false)) ∧ ∃ v, rest0 = v :: rest ∧ as = v :: as0 ∧ ((∃ k fl, v = .inr (2, k) ∧ aw[k]? = some (.inl ((info j2).2.2.2.2.2, fl))) ∨ (∃ k, v = .inr (3, k) ∧ k < 6 ∧ (info j2).2.2.2.2.2 = 100))))
/-- a return at pc with the stack st -/
def xRetP (rets : Nat → Option FieldType) (j : Nat) (i : Instr) (st : List rvV) : Prop :=
  (i = .ireturn ∧ ∃ a ty, st = [.inl a] ∧ rets j = some ty ∧ rvFit ty (.inl a) = true) ∨ (i = .lreturn ∧ ∃ z, st = [.inr (1, z)] ∧ rets j = some .long) ∨ (i = .return_ ∧ st = [] ∧ rets j = none)
/-- Math.max (0), Math.min (1) -/
def xMm (k : Nat) (x y : Int) : Int := match k with
  | 0 => if x < y then y else x
  | _ => if y < x then y else x
def xClo (tab : Nat → Nat → Option rvE) (info : Nat → rvM) (rets : Nat → Option FieldType) (NM : Nat) (mth : Nat → Option Nat) (Gd : Nat → (xRes2 → Prop) → rvS → Prop) (Met : Nat → List rvV → rvH → (xRes2 → Prop) → Prop) : Prop :=
  (∀ (j : Nat) (Post : xRes2 → Prop) (o o' : rvS) (i : Instr) (len a1 a2 a3 wi : Nat), j < NM → tab j o.1 = some (i, len, a1, a2, a3, wi) → rvStep rvTy rvNf rvTxt [] (info j).2.2.1 (info j).2.2.2.1 (info j).1 i a1 a2 a3 o.1 o.2.1 o.2.2.1 o.2.2.2.1 o.2.2.2.2.1 o.2.2.2.2.2 = some o' → Gd j Post o' → Gd j Post o) ∧
  (∀ (j : Nat) (Post : xRes2 → Prop) (pc : Nat) (al st : List rvV) (a : Int × Int) (aw : rvH) (kc ks : Nat), (∀ n, a.1 ≤ n → n ≤ a.2 → xIn32 n → Gd j Post (pc, al, .inl (n, n) :: st, aw, kc, ks)) → Gd j Post (pc, al, .inl a :: st, aw, kc, ks)) ∧
  (∀ (j : Nat) (Post : xRes2 → Prop) (o o' : rvS) (idx len a1 a2 a3 wi : Nat), j < NM → tab j o.1 = some (.invokestatic idx, len, a1, a2, a3, wi) → Nat.beq a3 8 = true → rvCopy (info j).2.1 (info j).2.2.2.2.1 o.1 o.2.1 o.2.2.1 o.2.2.2.1 o.2.2.2.2.1 o.2.2.2.2.2 = some o' → Gd j Post o' → Gd j Post o) ∧
  (∀ (j : Nat) (Post : xRes2 → Prop) (pc : Nat) (al : List rvV) (i : Nat) (rest : List rvV) (aw : rvH) (kc ks idx len a1 a2 a3 wi : Nat), j < NM → tab j pc = some (.invokespecial idx, len, a1, a2, a3, wi) → Nat.beq a3 9 = true → (Nat.ble 1 (info j).2.1 && Nat.ble (rvWd rest + 12) (info j).2.2.2.2.1) = true → Gd j Post (pc + 3, al, rest, aw, kc, ks) → Gd j Post (pc, al, .inr (2, i) :: rest, aw, kc, ks)) ∧
  (∀ (j : Nat) (Post Q : xRes2 → Prop) (pc : Nat) (al st : List rvV) (aw : rvH) (kc ks j2 : Nat) (as rest : List rvV), j < NM → xInv tab info j pc st aw kc ks j2 as rest → Met j2 as aw Q → (∀ res, Q res → Gd j Post (pc + 3, al, res.1.toList ++ rest, res.2, kc + (info j2).2.2.1, ks + (info j2).2.2.2.1)) → Gd j Post (pc, al, st, aw, kc, ks)) ∧
  (∀ (j : Nat) (Post : xRes2 → Prop) (pc : Nat) (al st : List rvV) (aw : rvH) (kc ks : Nat) (i : Instr) (len a1 a2 a3 wi : Nat), j < NM → tab j pc = some (i, len, a1, a2, a3, wi) → xRetP rets j i st → kc ≤ (info j).2.2.1 → ks ≤ (info j).2.2.2.1 → Post (st.head?, aw) → Gd j Post (pc, al, st, aw, kc, ks)) ∧
  (∀ (j : Nat) (Post : xRes2 → Prop) (pc : Nat) (al : List rvV) (k : Nat) (x y : Int) (rest : List rvV) (aw : rvH) (kc ks idx len a1 a2 a3 wi : Nat), j < NM → tab j pc = some (.invokestatic idx, len, a1, a2, a3, wi) → Nat.beq a3 0 = true → mth a1 = some k → k < 2 → xIn32 x → xIn32 y → 1 ≤ (info j).2.1 → rvWd rest + 13 ≤ (info j).2.2.2.2.1 → kc ≤ (info j).2.2.1 → ks ≤ (info j).2.2.2.1 → Gd j Post (pc + 3, al, .inl (xMm k x y, xMm k x y) :: rest, aw, kc, ks) → Gd j Post (pc, al, .inl (y, y) :: .inl (x, x) :: rest, aw, kc, ks)) ∧
  (∀ (j : Nat) (Post : xRes2 → Prop) (pc : Nat) (al : List rvV) (x : Int) (rest : List rvV) (aw : rvH) (kc ks idx len a1 a2 a3 wi : Nat), j < NM → tab j pc = some (.invokestatic idx, len, a1, a2, a3, wi) → Nat.beq a3 0 = true → mth a1 = some 2 → xIn32 x → 1 ≤ (info j).2.1 → rvWd rest + 13 ≤ (info j).2.2.2.2.1 → kc ≤ (info j).2.2.1 → ks ≤ (info j).2.2.2.1 → (∀ n, xIn32 n → (xIn32 (-x) → n = if 0 ≤ x then x else -x) → Gd j Post (pc + 3, al, .inl (n, n) :: rest, aw, kc, ks)) → Gd j Post (pc, al, .inl (x, x) :: rest, aw, kc, ks)) ∧
  (∀ (j : Nat) (Post : xRes2 → Prop) (as : List rvV) (aw : rvH), j < NM → mth j = none → rvLen (rvEnt as) ≤ (info j).1 → Gd j Post (0, rvEnt as ++ List.replicate ((info j).1 - rvLen (rvEnt as)) rvU, [], aw, 0, 0) → Met j as aw Post)
/-- arguments are taken from the stack -/
def xPopA : Nat → List xV → List xV → Option (List xV × List xV)
  | 0, st, acc => some (acc, st)
  | _ + 1, [], _ => none
  | n + 1, v :: t, acc => xPopA n t (v :: acc)
theorem xPopA_ok {r : List Int} {T pl : List Nat} : ∀ (n : Nat) {st acc as rest : List xV} {cs cacc : List rvV}, xPopA n st acc = some (as, rest) → xRs r T pl st cs → xRs r T pl acc cacc → ∃ cas crest, rvPop n cs cacc = some (cas, crest) ∧ xRs r T pl as cas ∧ xRs r T pl rest crest
  | 0, st, acc, as, rest, cs, cacc, h, hs, ha => by
      cases h
      exact ⟨cacc, cs, by simp [rvPop], ha, hs⟩
  | n + 1, [], _, _, _, _, _, h, _, _ => by cases h
  | n + 1, v :: t, acc, as, rest, cs, cacc, h, hs, ha => by
      obtain ⟨c, ds, rfl, h1, h2⟩ := xRs_cons hs
      obtain ⟨cas, crest, k1, k2, k3⟩ := xPopA_ok n (acc := v :: acc) (cacc := c :: cacc) h h2 ⟨h1, ha⟩
      exact ⟨cas, crest, by simpa [rvPop] using k1, k2, k3⟩
/-- the locals of a callee at its start -/
def xEntV : List xV → List xV
  | [] => []
  | .inr (1, k) :: t => .inr (1, k) :: .inr (9, 0) :: xEntV t
  | v :: t => v :: xEntV t
def xNo9 (v : xV) : Bool := match v with
  | .inr (9, _) => false
  | _ => true
theorem xEntV_ok {r : List Int} {T pl : List Nat} : ∀ {as : List xV} {cs : List rvV}, as.all xNo9 = true → xRs r T pl as cs → xRs r T pl (xEntV as) (rvEnt cs)
  | [], [], _, _ => trivial
  | [], _ :: _, _, h => absurd h id
  | _ :: _, [], _, h => absurd h id
  | v :: as, c :: cs, h9, h => by
      obtain ⟨n1, n2⟩ := rv_and h9
      have ih := xEntV_ok n2 h.2
      by_cases hv : ∃ k, v = .inr (1, k)
      · obtain ⟨k, rfl⟩ := hv
        obtain ⟨z, rfl, -⟩ := xR_lc h.1
        show xRs r T pl (.inr (1, k) :: .inr (9, 0) :: xEntV as) (.inr (1, z) :: rvU :: rvEnt cs)
        exact ⟨h.1, trivial, ih⟩
      · have hn : xN1 v = true := by
          rcases v with a | ⟨t, k⟩
          · rfl
          · match t, hv, n1 with
            | 0, _, _ => rfl
            | 1, hv, _ => exact absurd ⟨k, rfl⟩ hv
            | 2, _, _ => rfl
            | 3, _, _ => rfl
            | 4, _, _ => rfl
            | 5, _, _ => rfl
            | 6, _, _ => rfl
            | 7, _, _ => rfl
            | 8, _, _ => rfl
            | 9, _, n1 => cases n1
            | n + 10, _, _ => rfl
        have e1 : xEntV (v :: as) = v :: xEntV as := by
          rcases v with a | ⟨t, k⟩
          · rfl
          · match t, hv with
            | 0, _ => rfl
            | 1, hv => exact absurd ⟨k, rfl⟩ hv
            | n + 2, _ => rfl
        have e2 : rvEnt (c :: cs) = c :: rvEnt cs := by
          show (bif rvIsL c then _ else _) = _
          rw [xN1_ok hn h.1]
          rfl
        rw [e1, e2]
        exact ⟨h.1, ih⟩
theorem xRs_app {r : List Int} {T pl : List Nat} : ∀ {as bs : List xV} {cs ds : List rvV}, xRs r T pl as cs → xRs r T pl bs ds → xRs r T pl (as ++ bs) (cs ++ ds)
  | [], _, [], _, _, h => h
  | [], _, _ :: _, _, h, _ => absurd h id
  | _ :: _, _, [], _, h, _ => absurd h id
  | _ :: _, _, _ :: _, _, h, h2 => ⟨h.1, xRs_app h.2 h2⟩
theorem xRs_cut {r : List Int} {T pl : List Nat} : ∀ {as bs : List xV} {cs ds : List rvV}, as.length = cs.length → xRs r T pl (as ++ bs) (cs ++ ds) → xRs r T pl as cs ∧ xRs r T pl bs ds
  | [], _, [], _, _, h => ⟨trivial, h⟩
  | [], _, _ :: _, _, h, _ => by simp at h
  | _ :: _, _, [], _, h, _ => by simp at h
  | a :: as, bs, c :: cs, ds, hl, h => by
      obtain ⟨h1, h2⟩ := xRs_cut (as := as) (cs := cs) (by simpa using hl) h.2
      exact ⟨⟨h.1, h1⟩, h2⟩
theorem xRs_pad {r : List Int} {T pl : List Nat} : ∀ (n : Nat), xRs r T pl (List.replicate n (.inr (9, 0))) (List.replicate n rvU)
  | 0 => trivial
  | n + 1 => ⟨trivial, xRs_pad n⟩
def xWd : List xV → Nat
  | [] => 0
  | v :: t => (bif xN1 v then 1 else 2) + xWd t
theorem xWd_ok {r : List Int} {T pl : List Nat} : ∀ {vs : List xV} {cs : List rvV}, xRs r T pl vs cs → rvWd cs ≤ xWd vs
  | [], [], _ => Nat.le_refl _
  | [], _ :: _, h => absurd h id
  | _ :: _, [], h => absurd h id
  | v :: vs, c :: cs, h => by
      have ih := xWd_ok h.2
      show (bif rvIsL c then 2 else 1) + rvWd cs ≤ (bif xN1 v then 1 else 2) + xWd vs
      cases hn : xN1 v with
      | true =>
        rw [xN1_ok hn h.1]
        show 1 + rvWd cs ≤ 1 + xWd vs
        omega
      | false =>
        cases rvIsL c with
        | true => show 2 + _ ≤ 2 + _; omega
        | false => show 1 + _ ≤ 2 + _; omega
/-- the receiver is of the class -/
def xRcv (ah : List xC) (cls : Nat) (v : xV) : Bool := match v with
  | .inr (3, k) => Nat.blt k 6 && Nat.beq cls 100
  | v => (match xRef ah v with
    | some g => (match xRgn g with
      | .inl (ci, _) => Nat.beq ci cls
      | .inr _ => false)
    | none => false)
theorem xRcv_ok {r : List Int} {T pl : List Nat} {ah : List xC} {aw : rvH} {cls : Nat} {v : xV} {c : rvV} (hS : xSt r T pl ah aw) (hP : xHp xRgn T pl aw) (hv : xR r T pl v c) (h : xRcv ah cls v = true) : (∃ k fl, c = .inr (2, k) ∧ aw[k]? = some (.inl (cls, fl))) ∨ (∃ k, c = .inr (3, k) ∧ k < 6 ∧ cls = 100) := by
  unfold xRcv at h
  split at h
  · rename_i k
    obtain ⟨h1, h2⟩ := rv_and h
    exact Or.inr ⟨k, hv, rv_blt h1, rv_beq h2⟩
  · split at h
    · rename_i g hg
      obtain ⟨i, b, rfl, p2, p3, hcell⟩ := xRef_ok hS hP hv hg
      split at h
      · rename_i ci fts hr
        rw [hr] at hcell
        obtain ⟨fl, rfl, -, -⟩ := xCell_obj hcell
        have e := rv_beq h
        subst e
        exact Or.inl ⟨i, fl, rfl, p3⟩
      · cases h
    · cases h
