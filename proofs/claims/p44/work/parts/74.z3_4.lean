section XJN
variable {mth : Nat → Option Nat} {d NM X : Nat} {info : Nat → rvM} {con : Nat → xCt}
def xJo (f g h : xS → List Nat → Option (List xS × List Nat)) : Prop := ∀ S t r r', f S t = some r → g S t = some r' → r' = r ∧ h S t = some r
theorem x_bifo {α : Type} {c : Bool} {a : Option α} {r : α} (h : (bif c then a else none) = some r) : c = true ∧ a = some r := by
  cases c with
  | true => exact ⟨rfl, h⟩
  | false => cases h
theorem xAll2_J {f g h : xS → List Nat → Option (List xS × List Nat)} (hJ : xJo f g h) : ∀ Ss : List xS, ∀ (t : List Nat) (r r' : List xS × List Nat), xAll2 f Ss t = some r → xAll2 g Ss t = some r' → r' = r ∧ xAll2 h Ss t = some r
  | [], t, r, r', h1, h2 => by
      have h1 : some (([] : List xS), t) = some r := h1
      have h2 : some (([] : List xS), t) = some r' := h2
      cases h1
      cases h2
      exact ⟨rfl, rfl⟩
  | [S], t, r, r', h1, h2 => hJ S t r r' h1 h2
  | S :: S2 :: Ss, t, r, r', h1, h2 => by
      unfold xAll2 at h1 h2 ⊢
      split at h1
      · rename_i a t1 e1
        split at h1
        · rename_i b t2 e2
          split at h2
          · rename_i a' t1' e1'
            obtain ⟨e, e3⟩ := hJ S t _ _ e1 e1'
            cases e
            split at h2
            · rename_i b' t2' e2'
              obtain ⟨e, e4⟩ := xAll2_J hJ (S2 :: Ss) t1 _ _ e2 e2'
              cases e
              rw [e3]
              dsimp only
              rw [e4]
              dsimp only
              cases h1
              cases h2
              exact ⟨rfl, rfl⟩
            · cases h2
          · cases h2
        · cases h1
      · cases h1
theorem xCall_J {f g h : Nat → Nat → Bool → xS → List Nat → Option (List xS × List Nat)} (hJ : ∀ dp j sk, xJo (f dp j sk) (g dp j sk) (h dp j sk)) {dp j j2 : Nat} {args rest : List xV} {S : xS} {tape : List Nat} {r r' : List xS × List Nat} (h1 : xCall mth d NM X info con f dp j j2 args rest S tape = some r) (h2 : xCall mth d NM X info con g dp j j2 args rest S tape = some r') : r' = r ∧ xCall mth d NM X info con h dp j j2 args rest S tape = some r := by
  unfold xCall at h1 h2 ⊢
  obtain ⟨g1, h1⟩ := x_bifo h1
  obtain ⟨-, h2⟩ := x_bifo h2
  rw [g1, cond_true]
  cases tape with
  | nil => cases h1
  | cons x t =>
    cases x with
    | zero =>
      dsimp only at h1 h2 ⊢
      obtain ⟨g2, h1⟩ := x_bifo h1
      obtain ⟨-, h2⟩ := x_bifo h2
      rw [g2, cond_true]
      split at h1
      · rename_i Rs t1 e1
        split at h2
        · rename_i Rs' t1' e1'
          obtain ⟨e, e3⟩ := hJ _ _ _ _ _ _ _ e1 e1'
          cases e
          rw [e3]
          dsimp only
          split at h1
          · rename_i Ss eS
            rw [eS] at h2
            exact xAll2_J (hJ dp j false) Ss t1 r r' h1 h2
          · cases h1
        · cases h2
      · cases h1
    | succ x =>
      dsimp only at h1 h2 ⊢
      obtain ⟨g2, h1⟩ := x_bifo h1
      obtain ⟨-, h2⟩ := x_bifo h2
      rw [g2, cond_true]
      split at h1
      · rename_i s es
        rw [es] at h2
        dsimp only at h2 ⊢
        obtain ⟨g3, h1⟩ := x_bifo h1
        obtain ⟨-, h2⟩ := x_bifo h2
        rw [g3, cond_true]
        split at h1
        · rename_i Ss eS
          rw [eS] at h2
          exact xAll2_J (hJ dp j false) Ss t r r' h1 h2
        · cases h1
      · cases h1
set_option maxHeartbeats 8000000 in
theorem xIns1_J {tab : Nat → Nat → Option rvE} {rets : Nat → Option FieldType} {hn : Nat → Nat → Nat × Nat} {f g h : Nat → Nat → Bool → xS → List Nat → Option (List xS × List Nat)} (hJ : ∀ dp j sk, xJo (f dp j sk) (g dp j sk) (h dp j sk)) {dp j : Nat} {S : xS} {tape : List Nat} {r r' : List xS × List Nat} (h1 : xIns1 mth d NM X tab info rets con hn f dp j S tape = some r) (h2 : xIns1 mth d NM X tab info rets con hn g dp j S tape = some r') : r' = r ∧ xIns1 mth d NM X tab info rets con hn h dp j S tape = some r := by
  unfold xIns1 at h1 h2 ⊢
  cases ht : tab j S.1 with
  | none => rw [ht] at h1; cases h1
  | some q =>
    obtain ⟨i, len, a1, a2, a3, wi⟩ := q
    rw [ht] at h1 h2
    dsimp only at h1 h2 ⊢
    cases i
    case invokestatic idx =>
      dsimp only at h1 h2 ⊢
      cases hb : Nat.beq a3 8 with
      | true =>
        rw [hb] at h1 h2
        rw [cond_true] at h1 h2 ⊢
        split at h1
        · rename_i Ss e
          rw [e] at h2
          exact xAll2_J (hJ dp j false) Ss tape r r' h1 h2
        · cases h1
      | false =>
        rw [hb] at h1 h2
        rw [cond_false] at h1 h2 ⊢
        cases hm : mth a1 with
        | some k =>
          rw [hm] at h1 h2
          dsimp only at h1 h2 ⊢
          obtain ⟨g1, h1⟩ := x_bifo h1
          obtain ⟨-, h2⟩ := x_bifo h2
          rw [g1, cond_true]
          split at h1
          · rename_i Ss e
            rw [e] at h2
            exact xAll2_J (hJ dp j false) Ss tape r r' h1 h2
          · cases h1
        | none =>
          rw [hm] at h1 h2
          dsimp only at h1 h2 ⊢
          split at h1
          · rename_i as rest e
            rw [e] at h2
            exact xCall_J hJ h1 h2
          · cases h1
    case invokespecial idx =>
      dsimp only at h1 h2 ⊢
      cases hb : Nat.beq a3 9 with
      | true =>
        rw [hb] at h1 h2
        rw [cond_true] at h1 h2 ⊢
        split at h1
        · rename_i Ss e
          rw [e] at h2
          exact xAll2_J (hJ dp j false) Ss tape r r' h1 h2
        · cases h1
      | false =>
        rw [hb] at h1 h2
        rw [cond_false] at h1 h2 ⊢
        split at h1
        · rename_i as v rest e
          rw [e] at h2
          dsimp only at h2 ⊢
          obtain ⟨g1, h1⟩ := x_bifo h1
          obtain ⟨-, h2⟩ := x_bifo h2
          rw [g1, cond_true]
          exact xCall_J hJ h1 h2
        · cases h1
    case invokevirtual idx =>
      dsimp only at h1 h2 ⊢
      split at h1
      · rename_i as v rest e
        rw [e] at h2
        dsimp only at h2 ⊢
        obtain ⟨g1, h1⟩ := x_bifo h1
        obtain ⟨-, h2⟩ := x_bifo h2
        rw [g1, cond_true]
        exact xCall_J hJ h1 h2
      · cases h1
    case ireturn =>
      dsimp only at h1 h2 ⊢
      obtain ⟨g1, h1⟩ := x_bifo h1
      obtain ⟨-, h2⟩ := x_bifo h2
      rw [g1, cond_true]
      cases h1
      cases h2
      exact ⟨rfl, rfl⟩
    case lreturn =>
      dsimp only at h1 h2 ⊢
      obtain ⟨g1, h1⟩ := x_bifo h1
      obtain ⟨-, h2⟩ := x_bifo h2
      rw [g1, cond_true]
      cases h1
      cases h2
      exact ⟨rfl, rfl⟩
    case return_ =>
      dsimp only at h1 h2 ⊢
      obtain ⟨g1, h1⟩ := x_bifo h1
      obtain ⟨-, h2⟩ := x_bifo h2
      rw [g1, cond_true]
      cases h1
      cases h2
      exact ⟨rfl, rfl⟩
    all_goals
      dsimp only at h1 h2 ⊢
      split at h1
      · rename_i Ss e
        rw [e] at h2
        exact xAll2_J (hJ dp j false) Ss tape r r' h1 h2
      · cases h1
end XJN
section XRUE
variable (mth : Nat → Option Nat) (d NM X : Nat) (tab : Nat → Nat → Option rvE) (info : Nat → rvM) (rets : Nat → Option FieldType) (con : Nat → xCt) (opt : Nat → List xOp) (hp : Nat → Nat → Bool) (hn : Nat → Nat → Nat × Nat) (cutp : Nat → Bool) (ck : Nat → xS → Bool)
/-- as xMid, but what is asked at a cut is told from outside -/
noncomputable def xMidE (ih : Nat → Nat → Bool → xS → List Nat → Option (List xS × List Nat)) (dp j : Nat) (sk : Bool) (S : xS) (tape : List Nat) : Option (List xS × List Nat) :=
  bif Nat.beq dp 0 && (!sk && cutp S.1) then (match tape with
    | 0 :: t => xIns1 mth d NM X tab info rets con hn ih dp j S t
    | (ci + 1) :: t => bif ck ci S then some ([], t) else none
    | [] => none)
  else xIns1 mth d NM X tab info rets con hn ih dp j S tape
noncomputable def xF1E (ih : Nat → Nat → Bool → xS → List Nat → Option (List xS × List Nat)) (dp j : Nat) (sk : Bool) (S : xS) (tape : List Nat) : Option (List xS × List Nat) :=
  bif hp j S.1 then (match tape with
    | k :: t => (match xGhs d (opt k) [S] with
      | some Ss => xAll2 (xMidE mth d NM X tab info rets con hn cutp ck ih dp j sk) Ss t
      | none => none)
    | [] => none)
  else xMidE mth d NM X tab info rets con hn cutp ck ih dp j sk S tape
noncomputable def xRunE (n : Nat) : Nat → Nat → Bool → xS → List Nat → Option (List xS × List Nat) :=
  Nat.rec (motive := fun _ => Nat → Nat → Bool → xS → List Nat → Option (List xS × List Nat)) (fun _ _ _ _ _ => none) (fun _ ih => xF1E mth d NM X tab info rets con opt hp hn cutp ck ih) n
end XRUE
section XJM
variable {mth : Nat → Option Nat} {d NM X : Nat} {tab : Nat → Nat → Option rvE} {info : Nat → rvM} {rets : Nat → Option FieldType} {con : Nat → xCt} {opt : Nat → List xOp} {hp : Nat → Nat → Bool} {hn : Nat → Nat → Nat × Nat} {cutp : Nat → Bool} {c1 c2 c3 : Nat → xS → Bool}
theorem xMidE_J (hk : ∀ x S, c1 x S = true → c2 x S = true → c3 x S = true) {f g h : Nat → Nat → Bool → xS → List Nat → Option (List xS × List Nat)} (hJ : ∀ dp j sk, xJo (f dp j sk) (g dp j sk) (h dp j sk)) (dp j : Nat) (sk : Bool) : xJo (xMidE mth d NM X tab info rets con hn cutp c1 f dp j sk) (xMidE mth d NM X tab info rets con hn cutp c2 g dp j sk) (xMidE mth d NM X tab info rets con hn cutp c3 h dp j sk) := by
  intro S tape r r' h1 h2
  unfold xMidE at h1 h2 ⊢
  cases hb : (Nat.beq dp 0 && (!sk && cutp S.1)) with
  | true =>
    rw [hb] at h1 h2
    rw [cond_true] at h1 h2 ⊢
    cases tape with
    | nil => cases h1
    | cons x t =>
      cases x with
      | zero => exact xIns1_J hJ h1 h2
      | succ x =>
        dsimp only at h1 h2 ⊢
        obtain ⟨k1, h1⟩ := x_bifo h1
        obtain ⟨k2, h2⟩ := x_bifo h2
        rw [hk x S k1 k2, cond_true]
        cases h1
        cases h2
        exact ⟨rfl, rfl⟩
  | false =>
    rw [hb] at h1 h2
    rw [cond_false] at h1 h2 ⊢
    exact xIns1_J hJ h1 h2
theorem xF1E_J (hk : ∀ x S, c1 x S = true → c2 x S = true → c3 x S = true) {f g h : Nat → Nat → Bool → xS → List Nat → Option (List xS × List Nat)} (hJ : ∀ dp j sk, xJo (f dp j sk) (g dp j sk) (h dp j sk)) (dp j : Nat) (sk : Bool) : xJo (xF1E mth d NM X tab info rets con opt hp hn cutp c1 f dp j sk) (xF1E mth d NM X tab info rets con opt hp hn cutp c2 g dp j sk) (xF1E mth d NM X tab info rets con opt hp hn cutp c3 h dp j sk) := by
  intro S tape r r' h1 h2
  have hm := xMidE_J (mth := mth) (d := d) (NM := NM) (X := X) (tab := tab) (info := info) (rets := rets) (con := con) (hn := hn) (cutp := cutp) hk hJ dp j sk
  unfold xF1E at h1 h2 ⊢
  cases hb : hp j S.1 with
  | true =>
    rw [hb] at h1 h2
    rw [cond_true] at h1 h2 ⊢
    cases tape with
    | nil => cases h1
    | cons k t =>
      dsimp only at h1 h2 ⊢
      split at h1
      · rename_i Ss e
        rw [e] at h2
        exact xAll2_J hm Ss t r r' h1 h2
      · cases h1
  | false =>
    rw [hb] at h1 h2
    rw [cond_false] at h1 h2 ⊢
    exact hm S tape r r' h1 h2
theorem xRunE_J (hk : ∀ x S, c1 x S = true → c2 x S = true → c3 x S = true) : ∀ (n dp j : Nat) (sk : Bool), xJo (xRunE mth d NM X tab info rets con opt hp hn cutp c1 n dp j sk) (xRunE mth d NM X tab info rets con opt hp hn cutp c2 n dp j sk) (xRunE mth d NM X tab info rets con opt hp hn cutp c3 n dp j sk)
  | 0, dp, j, sk => fun S t r r' h1 _ => by
      have h1 : (none : Option (List xS × List Nat)) = some r := h1
      cases h1
  | n + 1, dp, j, sk => xF1E_J hk (xRunE_J hk n) dp j sk
end XJM
