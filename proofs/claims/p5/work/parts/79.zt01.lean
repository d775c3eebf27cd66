/-! What one step leaves as it was (by hand). -/
def jqB (pc : Nat) (off : Int) (Q : Nat → Bool) : Bool := match rvJ pc off with
  | some t => Q t
  | none => true
/-- all places that may come next are of Q -/
def sqB (i : Instr) (pc : Nat) (Q : Nat → Bool) : Bool := match i with
  | .if_icmp _ off => jqB pc off Q && Q (pc + 3)
  | .ifCond _ off => jqB pc off Q && Q (pc + 3)
  | .ifnonnull off => jqB pc off Q && Q (pc + 3)
  | .ifnull off => jqB pc off Q && Q (pc + 3)
  | .goto off => jqB pc off Q
  | .tableswitch _ _ _ _ => false
  | .lookupswitch _ _ => false
  | .bipush _ => Q (pc + 2)
  | .iload _ => Q (pc + 2)
  | .lload _ => Q (pc + 2)
  | .aload _ => Q (pc + 2)
  | .istore _ => Q (pc + 2)
  | .lstore _ => Q (pc + 2)
  | .astore _ => Q (pc + 2)
  | .ldc _ => Q (pc + 2)
  | .newarray _ => Q (pc + 2)
  | .sipush _ => Q (pc + 3)
  | .ldc2_w _ => Q (pc + 3)
  | .ldc_w _ => Q (pc + 3)
  | .iinc _ _ => Q (pc + 3)
  | .getfield _ => Q (pc + 3)
  | .putfield _ => Q (pc + 3)
  | .getstatic _ => Q (pc + 3)
  | .new _ => Q (pc + 3)
  | .anewarray _ => Q (pc + 3)
  | _ => Q (pc + 1)
/-- the first local isn't set -/
def lcB (i : Instr) : Bool := match i with
  | .istore k => !Nat.beq k 0
  | .istore_n k => !Nat.beq k.val 0
  | .lstore k => !Nat.beq k 0
  | .lstore_n k => !Nat.beq k.val 0
  | .astore k => !Nat.beq k 0
  | .astore_n k => !Nat.beq k.val 0
  | .iinc k _ => !Nat.beq k 0
  | _ => true
/-- no cell is written or made -/
def hpB (i : Instr) : Bool := match i with
  | .putfield _ => false
  | .iastore => false
  | .bastore => false
  | .lastore => false
  | .aastore => false
  | .new _ => false
  | .newarray _ => false
  | .anewarray _ => false
  | _ => true
theorem nb0 {k : Nat} (h : (!Nat.beq k 0) = true) : k ≠ 0 := fun e => by
  subst e
  cases h
theorem set_0 {al : List rvV} {k : Nat} {v w : rvV} (hk : k ≠ 0) (h : al[0]? = some w) : (al.set k v)[0]? = some w := by
  rw [List.getElem?_set_ne (by omega)]
  exact h
theorem rvSet_0 {al : List rvV} {k p : Nat} {v : rvV} (hk : k ≠ 0) (h : al[0]? = some (.inr (2, p))) : (rvSet al k v)[0]? = some (.inr (2, p)) := by
  match k, hk with
  | k + 1, _ =>
    unfold rvSet
    dsimp only
    split
    · rename_i w e
      cases hw : rvIsL w with
      | false => exact set_0 (by omega) h
      | true =>
        refine set_0 (by omega) ?_
        by_cases hk : k = 0
        · subst hk
          rw [h] at e
          have e := Option.some.inj e
          rw [← e] at hw
          cases hw
        · exact set_0 hk h
    · exact h
def tZ (i : Instr) (pc : Nat) (al : List rvV) (aw : rvH) (o : rvS) : Prop := (∀ Q, sqB i pc Q = true → Q o.1 = true) ∧ (lcB i = true → ∀ p, al[0]? = some (.inr (2, p)) → o.2.1[0]? = some (.inr (2, p))) ∧ (hpB i = true → o.2.2.2.1 = aw)
theorem jq_and {a b : Bool} (h : (a && b) = true) : a = true ∧ b = true := rv_and h
theorem jqB_ok {pc t : Nat} {off : Int} {Q : Nat → Bool} (h : jqB pc off Q = true) (e : rvJ pc off = some t) : Q t = true := by
  unfold jqB at h
  rw [e] at h
  exact h
set_option maxHeartbeats 8000000 in
set_option maxRecDepth 100000 in
theorem tStep {sc : List (Int × Int)} {BC BS mL a1 a2 a3 pc kc ks : Nat} {i : Instr} {al st : List rvV} {aw : rvH} {o : rvS} (h : rvStep rvTy rvNf rvTxt sc BC BS mL i a1 a2 a3 pc al st aw kc ks = some o) : tZ i pc al aw o := by
  cases i
  case tableswitch d lo hi offs =>
    refine ⟨(fun Q hQ => by cases hQ), ?_⟩
    simp only [rvStep] at h
    split at h
    · rename_i a st
      cases hb : (decide (a.2 < lo) || decide (hi < a.1)) with
      | true =>
        rw [hb, cond_true] at h
        split at h
        · cases h; exact ⟨fun _ p hp => hp, fun _ => rfl⟩
        · cases h
      | false =>
        rw [hb, cond_false] at h
        obtain ⟨hc, h⟩ := rv_bifo h
        split at h
        · split at h
          · cases h; exact ⟨fun _ p hp => hp, fun _ => rfl⟩
          · cases h
        · cases h
    · cases h
  case lookupswitch dflt ps =>
    refine ⟨(fun Q hQ => by cases hQ), ?_⟩
    simp only [rvStep] at h
    split at h
    · obtain ⟨hc, h⟩ := rv_bifo h
      split at h
      · cases h; exact ⟨fun _ p hp => hp, fun _ => rfl⟩
      · cases h
    · cases h
  case if_icmp c off =>
    simp only [rvStep] at h
    split at h
    · split at h
      · rename_i e; cases h; exact ⟨fun Q hQ => jqB_ok (jq_and hQ).1 e, fun _ p hp => hp, fun _ => rfl⟩
      · cases h; exact ⟨fun Q hQ => (jq_and hQ).2, fun _ p hp => hp, fun _ => rfl⟩
      · cases h
    · cases h
  case ifCond c off =>
    simp only [rvStep] at h
    split at h
    · split at h
      · rename_i e; cases h; exact ⟨fun Q hQ => jqB_ok (jq_and hQ).1 e, fun _ p hp => hp, fun _ => rfl⟩
      · cases h; exact ⟨fun Q hQ => (jq_and hQ).2, fun _ p hp => hp, fun _ => rfl⟩
      · cases h
    · cases h
  case ifnonnull off =>
    simp only [rvStep] at h
    split at h
    · cases h; exact ⟨fun Q hQ => (jq_and hQ).2, fun _ p hp => hp, fun _ => rfl⟩
    · split at h
      · rename_i e; cases h; exact ⟨fun Q hQ => jqB_ok (jq_and hQ).1 e, fun _ p hp => hp, fun _ => rfl⟩
      · cases h
    · cases h
  case ifnull off =>
    simp only [rvStep] at h
    split at h
    · cases h; exact ⟨fun Q hQ => (jq_and hQ).2, fun _ p hp => hp, fun _ => rfl⟩
    · split at h
      · rename_i e; cases h; exact ⟨fun Q hQ => jqB_ok (jq_and hQ).1 e, fun _ p hp => hp, fun _ => rfl⟩
      · cases h
    · cases h
  case goto off =>
    simp only [rvStep] at h
    split at h
    · rename_i e; cases h; exact ⟨fun Q hQ => jqB_ok hQ e, fun _ p hp => hp, fun _ => rfl⟩
    · cases h
  all_goals first
    | (have h : (none : Option rvS) = some o := h; cases h; done)
    | skip
  all_goals simp only [rvStep] at h
  all_goals repeat' split at h
  case ldc n =>
    cases hb : Nat.beq a1 50 with
    | true =>
      rw [hb, cond_true] at h
      obtain ⟨hc, rfl⟩ := rv_bif h
      exact ⟨fun Q hQ => hQ, fun _ p hp => hp, fun _ => rfl⟩
    | false =>
      rw [hb, cond_false] at h
      cases h
      exact ⟨fun Q hQ => hQ, fun _ p hp => hp, fun _ => rfl⟩
  all_goals first
    | (cases h; done)
    | (obtain ⟨hc, rfl⟩ := rv_bif h)
    | (obtain ⟨hc, h⟩ := rv_bifo h; cases h; done)
    | (obtain ⟨hc, rfl⟩ := rv_nbif h)
    | (cases h)
    | skip
  all_goals first
    | exact ⟨fun Q hQ => hQ, fun _ p hp => hp, fun _ => rfl⟩
    | exact ⟨fun Q hQ => hQ, fun hl p hp => rvSet_0 (nb0 hl) hp, fun _ => rfl⟩
    | exact ⟨fun Q hQ => hQ, fun hl p hp => set_0 (Nat.succ_ne_zero _) (rvSet_0 (nb0 hl) hp), fun _ => rfl⟩
    | exact ⟨fun Q hQ => hQ, fun _ p hp => hp, fun hb => by cases hb⟩
    | skip
