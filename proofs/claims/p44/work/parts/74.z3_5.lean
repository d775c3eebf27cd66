section XSNF
variable {ck : Nat → xS → Bool} {mth : Nat → Option Nat} {d NM X na : Nat} {tab : Nat → Nat → Option rvE} {info : Nat → rvM} {rets : Nat → Option FieldType} {con : Nat → xCt} {opt : Nat → List xOp} {hp : Nat → Nat → Bool} {hn : Nat → Nat → Nat × Nat} {cutp : Nat → Bool} {cuts : Nat → Option xCu} {ms0 : List Nat} {rk0 : Option (List xL)} {Gd : Nat → (xRes2 → Prop) → rvS → Prop} {Met : Nat → List rvV → rvH → (xRes2 → Prop) → Prop}
theorem xMidE_ok (hck : ∀ x S, ck x S = true → ∃ d2 ci, xCutC d2 na cuts ms0 rk0 S ci = true) (hc : xClo tab info rets NM mth Gd Met) (hcon : ∀ x, x < X → xCon Met (con x)) {ih : Nat → Nat → Bool → xS → List Nat → Option (List xS × List Nat)} (hih : xSound NM na cuts rk0 Gd ih) {dp j : Nat} {sk : Bool} {P : xP} {Post : xRes2 → Prop} (hj : j < NM) (hP9 : P.2.2.2.2.length = dp) (hcut : dp = 0 → xCutH na cuts rk0 P (Gd j Post)) (hrk : ∀ a, rk0 = some a → ∀ l ∈ a, xWf P.1.length l.1) (hna : na ≤ P.1.length) : xSnd1 P Post (Gd j Post) (xMidE mth d NM X tab info rets con hn cutp ck ih dp j sk) := by
  intro S tape Rs t' hs hR o hS
  unfold xMidE at hs
  cases hb : (Nat.beq dp 0 && (!sk && cutp S.1)) with
  | true =>
    rw [hb] at hs
    simp only [cond_true] at hs
    obtain ⟨b1, -⟩ := rv_and hb
    have b1 := rv_beq b1
    split at hs
    · rename_i t
      exact xIns1_ok (d := d) (hn := hn) hc hcon hih hj hP9 hcut hrk hna S t Rs t' hs hR o hS
    · rename_i ci t
      obtain ⟨hk, -⟩ := rv_bif hs
      obtain ⟨d2, ci2, hk⟩ := hck _ _ hk
      exact xCutC_ok (hcut b1) hrk hna hk hS
    · cases hs
  | false =>
    rw [hb] at hs
    simp only [cond_false] at hs
    exact xIns1_ok (d := d) (hn := hn) hc hcon hih hj hP9 hcut hrk hna S tape Rs t' hs hR o hS
theorem xF1E_ok (hck : ∀ x S, ck x S = true → ∃ d2 ci, xCutC d2 na cuts ms0 rk0 S ci = true) (hc : xClo tab info rets NM mth Gd Met) (hcon : ∀ x, x < X → xCon Met (con x)) {ih : Nat → Nat → Bool → xS → List Nat → Option (List xS × List Nat)} (hih : xSound NM na cuts rk0 Gd ih) : xSound NM na cuts rk0 Gd (xF1E mth d NM X tab info rets con opt hp hn cutp ck ih) := by
  intro dp j sk P Post hj hP9 hcut hrk hna S tape Rs t' hs hR o hS
  have hmid := xMidE_ok (d := d) (hn := hn) (cutp := cutp) (ms0 := ms0) (sk := sk) hck hc hcon hih hj hP9 hcut hrk hna
  unfold xF1E at hs
  cases hh : hp j S.1 with
  | true =>
    rw [hh] at hs
    simp only [cond_true] at hs
    split at hs
    · rename_i k t
      split at hs
      · rename_i Ss hg
        exact xAll2_ok hmid Ss hs hR o (xGhs_ok (opt k) hg ⟨S, List.mem_singleton.mpr rfl, hS⟩)
      · cases hs
    · cases hs
  | false =>
    rw [hh] at hs
    simp only [cond_false] at hs
    exact hmid S tape Rs t' hs hR o hS
theorem xRunE_ok (hck : ∀ x S, ck x S = true → ∃ d2 ci, xCutC d2 na cuts ms0 rk0 S ci = true) (hc : xClo tab info rets NM mth Gd Met) (hcon : ∀ x, x < X → xCon Met (con x)) : ∀ n : Nat, xSound NM na cuts rk0 Gd (xRunE mth d NM X tab info rets con opt hp hn cutp ck n)
  | 0 => fun dp j sk P Post hj hP9 hcut hrk hna S tape Rs t' hs => by
      have hs : (none : Option (List xS × List Nat)) = some (Rs, t') := hs
      cases hs
  | n + 1 => xF1E_ok hck hc hcon (xRunE_ok hck hc hcon n)
end XSNF
/-- two depths: one for the fit, one for the rank -/
noncomputable def xCutE (d : Nat) (na : Nat) (cuts : Nat → Option xCu) (ms0 : List Nat) (rk : List xL) (S : xS) (ci : Nat) : Bool := xCutC d na cuts ms0 (some rk) S ci || xCutC 2 na cuts ms0 (some rk) S ci
noncomputable def xCkG (na : Nat) (cuts : Nat → Option xCu) (ms0 : List Nat) (rk : List xL) (g x : Nat) (S : xS) : Bool := !Nat.beq (x / 64) g || xCutE 1 na cuts ms0 rk S (x % 64)
noncomputable def xCkL (na : Nat) (cuts : Nat → Option xCu) (ms0 : List Nat) (rk : List xL) (g x : Nat) (S : xS) : Bool := Nat.blt (x / 64) g || xCutE 1 na cuts ms0 rk S (x % 64)
