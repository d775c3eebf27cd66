/-! Both sides read a text alike (by hand), 1. -/
set_option maxRecDepth 100000
def pd_tDg (b : Int) : Bool := decide (48 ≤ b) && decide (b ≤ 57)
def pd_tLt (b : Int) : Bool := decide (97 ≤ b) && decide (b ≤ 122)
def pd_tSg (b : Int) : Bool := decide (b = 59) || decide (b = 60) || decide (b = 61) || decide (b = 62) || decide (b = 40) || decide (b = 41)
def pd_tAn (b : Int) : Bool := pd_tDg b || pd_tLt b
def pd_tBl (b : Int) : Bool := decide (b = 32) || decide (b = 10)
def pd_c8 (w : Int64) (b : Int) : Int64 := (w <<< ((Int32.ofInt 8).toInt64 &&& 63)) ||| ((Int32.ofInt b).toInt64)
def pd_tF5 (r : List Int) : Int64 := r.foldl f_X9_withLetter 0
def pd_tF8 (r : List Int) : Int64 := r.foldl pd_c8 0
def pd_vR (r : List Int) : Prop := r.length ≤ 7 ∧ ∀ b ∈ r, pd_tLt b = true
theorem pd_tLt_iff {b : Int} : pd_tLt b = true ↔ 97 ≤ b ∧ b ≤ 122 := by simp [pd_tLt]
theorem pd_tDg_iff {b : Int} : pd_tDg b = true ↔ 48 ≤ b ∧ b ≤ 57 := by simp [pd_tDg]
theorem pd_fd_ok (B : Nat) (hB : 2 ≤ B) (f : Int64 → Int → Int64) (d : Int → Nat) (M : Nat) (hd : ∀ b, pd_tLt b = true → d b < B) (hf : ∀ X b, X < M → pd_tLt b = true → f (Int64.ofNat X) b = Int64.ofNat (B * X + d b)) : ∀ (r : List Int) (X j : Nat), X < B ^ j → (∀ b ∈ r, pd_tLt b = true) → B ^ (j + r.length) ≤ M → r.foldl f (Int64.ofNat X) = Int64.ofNat (r.foldl (fun n b => B * n + d b) X) ∧ r.foldl (fun n b => B * n + d b) X < B ^ (j + r.length)
  | [], X, j, h, _, _ => ⟨rfl, h⟩
  | b :: r, X, j, h, hv, hm => by
    have hb := hv b (List.mem_cons_self ..)
    have hp : B ^ (j + 1) ≤ B ^ (j + (b :: r).length) := Nat.pow_le_pow_right (by omega) (by simp)
    have hj : B ^ j ≤ B ^ (j + 1) := Nat.pow_le_pow_right (by omega) (by omega)
    have h2 : B * X + d b < B ^ (j + 1) := by
      have := hd b hb
      have h3 : B * (X + 1) ≤ B * B ^ j := Nat.mul_le_mul_left _ h
      rw [Nat.pow_succ, Nat.mul_comm]
      rw [Nat.mul_add] at h3
      have : B ^ j * B = B * B ^ j := Nat.mul_comm _ _
      rw [Nat.mul_comm X B]
      omega
    have e : (b :: r).length = r.length + 1 := rfl
    rw [e] at hm ⊢
    rw [show j + (r.length + 1) = j + 1 + r.length from by omega] at hm ⊢
    have ih := pd_fd_ok B hB f d M hd hf r (B * X + d b) (j + 1) h2 (fun b hb => hv b (List.mem_cons_of_mem _ hb)) hm
    show r.foldl f (f (Int64.ofNat X) b) = _ ∧ _
    rw [hf X b (by rw [e] at hp; have : B ^ (j + 1) ≤ M := Nat.le_trans (Nat.pow_le_pow_right (by omega) (by omega)) hm; omega) hb]
    exact ih
theorem pd_fd_inj (B : Nat) (d : Int → Nat) (P : Int → Prop) (h1 : ∀ b, P b → 1 ≤ d b ∧ d b < B) (h2 : ∀ b b', P b → P b' → d b = d b' → b = b') : ∀ (n : Nat) (r r' : List Int), r.length ≤ n → (∀ b ∈ r, P b) → (∀ b ∈ r', P b) → r.foldl (fun n b => B * n + d b) 0 = r'.foldl (fun n b => B * n + d b) 0 → r = r' := by
  intro n
  induction n with
  | zero =>
    intro r r' hn hv hv' he
    have : r = [] := List.eq_nil_of_length_eq_zero (by omega)
    subst this
    rcases List.eq_nil_or_concat r' with rfl | ⟨l, b, rfl⟩
    · rfl
    · simp only [List.concat_eq_append, List.foldl_append, List.foldl_cons, List.foldl_nil] at he
      have := (h1 b (hv' b (by simp))).1
      omega
  | succ n ih =>
    intro r r' hn hv hv' he
    rcases List.eq_nil_or_concat r with rfl | ⟨l, b, rfl⟩
    · rcases List.eq_nil_or_concat r' with rfl | ⟨l, b, rfl⟩
      · rfl
      · simp only [List.concat_eq_append, List.foldl_append, List.foldl_cons, List.foldl_nil] at he
        have := (h1 b (hv' b (by simp))).1
        omega
    · rcases List.eq_nil_or_concat r' with rfl | ⟨l', b', rfl⟩
      · simp only [List.concat_eq_append, List.foldl_append, List.foldl_cons, List.foldl_nil] at he
        have := (h1 b (hv b (by simp))).1
        omega
      · simp only [List.concat_eq_append, List.foldl_append, List.foldl_cons, List.foldl_nil] at he hv hv' hn ⊢
        have a1 := h1 b (hv b (by simp))
        have a2 := h1 b' (hv' b' (by simp))
        have e1 : d b = d b' := by
          have := congrArg (· % B) he
          simp only [Nat.mul_add_mod] at this
          rwa [Nat.mod_eq_of_lt a1.2, Nat.mod_eq_of_lt a2.2] at this
        have e2 : b = b' := h2 b b' (hv b (by simp)) (hv' b' (by simp)) e1
        subst e2
        have e3 : l.foldl (fun n b => B * n + d b) 0 = l'.foldl (fun n b => B * n + d b) 0 := by
          have hB : 0 < B := by omega
          exact Nat.eq_of_mul_eq_mul_left hB (by omega)
        rw [ih l l' (by simp at hn; omega) (fun b hb => hv b (by simp [hb])) (fun b hb => hv' b (by simp [hb])) e3]
theorem pd_ofNat_inj {a b : Nat} (ha : a < 2 ^ 60) (hb : b < 2 ^ 60) (h : Int64.ofNat a = Int64.ofNat b) : a = b := by
  have e : BitVec.ofNat 64 a = BitVec.ofNat 64 b := congrArg Int64.toBitVec h
  have := congrArg BitVec.toNat e
  rw [BitVec.toNat_ofNat, BitVec.toNat_ofNat, Nat.mod_eq_of_lt (by omega), Nat.mod_eq_of_lt (by omega)] at this
  exact this
theorem pd_pw_le (B k n m : Nat) (hB : 0 < B) (h : k ≤ n) (h2 : B ^ n ≤ m) : B ^ (0 + k) ≤ m := by
  rw [Nat.zero_add]; exact Nat.le_trans (Nat.pow_le_pow_right hB h) h2
theorem pd_tF5_ok {r : List Int} (h : pd_vR r) : pd_tF5 r = Int64.ofNat (r.foldl (fun n b => 32 * n + (b.toNat - 96)) 0) ∧ r.foldl (fun n b => 32 * n + (b.toNat - 96)) 0 < 2 ^ 60 := by
  have e := pd_fd_ok 32 (by omega) f_X9_withLetter (fun b => b.toNat - 96) (2 ^ 50) (fun b hb => by have := pd_tLt_iff.mp hb; show b.toNat - 96 < 32; omega) (fun X b hX hb => pd_tz_c5 X hX b (pd_tLt_iff.mp hb).1 (pd_tLt_iff.mp hb).2) r 0 0 (by decide) h.2 (pd_pw_le 32 _ 7 _ (by decide) h.1 (by decide))
  exact ⟨e.1, Nat.lt_of_lt_of_le e.2 (pd_pw_le 32 _ 7 _ (by decide) h.1 (by decide))⟩
theorem pd_tF8_ok {r : List Int} (h : pd_vR r) : pd_tF8 r = Int64.ofNat (r.foldl (fun n b => 256 * n + b.toNat) 0) ∧ r.foldl (fun n b => 256 * n + b.toNat) 0 < 2 ^ 60 := by
  have hf : ∀ X b, X < 2 ^ 50 → pd_tLt b = true → pd_c8 (Int64.ofNat X) b = Int64.ofNat (256 * X + b.toNat) := fun X b hX hb => pd_tz_c8 X hX b (pd_tLt_iff.mp hb).1 (pd_tLt_iff.mp hb).2
  rcases List.eq_nil_or_concat r with rfl | ⟨l, b, rfl⟩
  · exact ⟨rfl, by decide⟩
  · rw [List.concat_eq_append] at h ⊢
    have hl : ∀ b ∈ l, pd_tLt b = true := fun b hb => h.2 b (by simp [hb])
    have hn : l.length ≤ 6 := by have := h.1; simp at this; omega
    have e := pd_fd_ok 256 (by omega) pd_c8 (fun b => b.toNat) (2 ^ 50) (fun b hb => by have := pd_tLt_iff.mp hb; show b.toNat < 256; omega) hf l 0 0 (by decide) hl (pd_pw_le 256 _ 6 _ (by decide) hn (by decide))
    have e2 := Nat.lt_of_lt_of_le e.2 (pd_pw_le 256 _ 6 (2 ^ 48) (by decide) hn (by decide))
    have hb := h.2 b (by simp)
    unfold pd_tF8
    simp only [List.foldl_append, List.foldl_cons, List.foldl_nil]
    have e1 : List.foldl pd_c8 0 l = _ := e.1
    rw [e1, hf _ b (by omega) hb]
    refine ⟨rfl, ?_⟩
    have := pd_tLt_iff.mp hb
    omega
theorem pd_tF5_inj {r r' : List Int} (h : pd_vR r) (h' : pd_vR r') : pd_tF5 r = pd_tF5 r' ↔ r = r' := by
  constructor
  · intro e
    obtain ⟨a1, a2⟩ := pd_tF5_ok h
    obtain ⟨b1, b2⟩ := pd_tF5_ok h'
    rw [a1, b1] at e
    exact pd_fd_inj 32 (fun b => b.toNat - 96) (fun b => pd_tLt b = true) (fun b hb => by have := pd_tLt_iff.mp hb; show 1 ≤ b.toNat - 96 ∧ b.toNat - 96 < 32; omega) (fun b b' hb hb' e => by have := pd_tLt_iff.mp hb; have := pd_tLt_iff.mp hb'; have e : b.toNat - 96 = b'.toNat - 96 := e; omega) 7 r r' h.1 h.2 h'.2 (pd_ofNat_inj a2 b2 e)
  · rintro rfl; rfl
theorem pd_tF8_inj {r r' : List Int} (h : pd_vR r) (h' : pd_vR r') : pd_tF8 r = pd_tF8 r' ↔ r = r' := by
  constructor
  · intro e
    obtain ⟨a1, a2⟩ := pd_tF8_ok h
    obtain ⟨b1, b2⟩ := pd_tF8_ok h'
    rw [a1, b1] at e
    exact pd_fd_inj 256 (fun b => b.toNat) (fun b => pd_tLt b = true) (fun b hb => by have := pd_tLt_iff.mp hb; show 1 ≤ b.toNat ∧ b.toNat < 256; omega) (fun b b' hb hb' e => by have := pd_tLt_iff.mp hb; have := pd_tLt_iff.mp hb'; have e : b.toNat = b'.toNat := e; omega) 7 r r' h.1 h.2 h'.2 (pd_ofNat_inj a2 b2 e)
  · rintro rfl; rfl
