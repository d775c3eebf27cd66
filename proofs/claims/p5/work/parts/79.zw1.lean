/-! The names below 20 stay while the reference reads lines (written by wip/p42/gen_qn0.py). -/
set_option maxRecDepth 100000
theorem n32_f_X12_blanks {ub : Nat}  : ∀ (k : Nat) (H : hH), (f_X12_blanks  k H).1 32 ub = H.1 32 ub := by
  intro k
  induction k with
  | zero => intros; rfl
  | succ k ih =>
    intros
    unfold f_X12_blanks
    repeat' split
    all_goals try dsimp only
    all_goals repeat' (first | rfl | rw [pd_upI_ne (by omega)] | rw [um_L] | rw [um_R] | rw [ih])
theorem n32_f_X12_run {ub : Nat} (c : Int) (s : Int) : ∀ (k : Nat) (x1 : Int) (H : hH), (f_X12_run c s k x1 H).2.1 32 ub = H.1 32 ub := by
  intro k
  induction k with
  | zero => intros; rfl
  | succ k ih =>
    intros
    unfold f_X12_run
    repeat' split
    all_goals try dsimp only
    all_goals repeat' (first | rfl | rw [pd_upI_ne (by omega)] | rw [um_L] | rw [um_R] | rw [n32_f_X12_blanks] | rw [ih])
theorem n32_f_X12_nxEnd {ub : Nat} (c : Int) (s : Int) (a : Int) (H : hH) : (f_X12_nxEnd c s a H).1 32 ub = H.1 32 ub := by
  unfold f_X12_nxEnd
  repeat' split
  all_goals try dsimp only
  all_goals repeat' (first | rfl | rw [pd_upI_ne (by omega)] | rw [um_L] | rw [um_R] | rw [n32_f_X12_blanks] | rw [n32_f_X12_run])
theorem n32_f_X12_nx2 {ub : Nat} (H : hH) : (f_X12_nx2 H).1 32 ub = H.1 32 ub := by
  unfold f_X12_nx2
  repeat' split
  all_goals try dsimp only
  all_goals repeat' (first | rfl | rw [pd_upI_ne (by omega)] | rw [um_L] | rw [um_R] | rw [n32_f_X12_blanks] | rw [n32_f_X12_run] | rw [n32_f_X12_nxEnd])
theorem n32_f_X12_next {ub : Nat} (H : hH) : (f_X12_next H).1 32 ub = H.1 32 ub := by
  unfold f_X12_next
  repeat' split
  all_goals try dsimp only
  all_goals repeat' (first | rfl | rw [pd_upI_ne (by omega)] | rw [um_L] | rw [um_R] | rw [n32_f_X12_blanks] | rw [n32_f_X12_run] | rw [n32_f_X12_nxEnd] | rw [n32_f_X12_nx2])
theorem ul_I (H : hH) (p j : Nat) (v : Int) : (upI H p j v).2.1 = H.2.1 := rfl
theorem ul_ne {H : hH} {p j a b : Nat} {v : Int64} (h : ¬ (a = p ∧ b = j)) : (upL H p j v).2.1 a b = H.2.1 a b := by simp only [upL]; rw [if_neg h]
theorem gl_f_X12_bad {ub : Nat} (hb : ub < 20) (a1 : Int) (H : hH)  : (f_X12_bad a1 H).2.2.1 34 ub = H.2.1 34 ub := by
  unfold f_X12_bad
  repeat' split
  all_goals try dsimp only
  all_goals repeat' (first | rfl | rw [ul_I] | rw [ul_ne (by omega)])
theorem gl_f_X12_blanks {ub : Nat} (hb : ub < 20)  : ∀ (k : Nat) (H : hH), (f_X12_blanks  k H).2.1 34 ub = H.2.1 34 ub := by
  intro k
  induction k with
  | zero => intros; rfl
  | succ k ih =>
    intros
    unfold f_X12_blanks
    repeat' split
    all_goals try dsimp only
    all_goals repeat' (first | rfl | rw [ul_I] | rw [ul_ne (by omega)] | rw [gl_f_X12_bad hb] | rw [ih])
theorem gl_f_X12_run {ub : Nat} (hb : ub < 20) (c : Int) (s : Int) : ∀ (k : Nat) (x1 : Int) (H : hH), (f_X12_run c s k x1 H).2.2.1 34 ub = H.2.1 34 ub := by
  intro k
  induction k with
  | zero => intros; rfl
  | succ k ih =>
    intros
    unfold f_X12_run
    repeat' split
    all_goals try dsimp only
    all_goals repeat' (first | rfl | rw [ul_I] | rw [ul_ne (by omega)] | rw [gl_f_X12_bad hb] | rw [gl_f_X12_blanks hb] | rw [ih])
theorem gl_f_X12_nxEnd {ub : Nat} (hb : ub < 20) (c : Int) (s : Int) (a : Int) (H : hH)  : (f_X12_nxEnd c s a H).2.1 34 ub = H.2.1 34 ub := by
  unfold f_X12_nxEnd
  repeat' split
  all_goals try dsimp only
  all_goals repeat' (first | rfl | rw [ul_I] | rw [ul_ne (by omega)] | rw [gl_f_X12_bad hb] | rw [gl_f_X12_blanks hb] | rw [gl_f_X12_run hb])
theorem gl_f_X12_nx2 {ub : Nat} (hb : ub < 20) (H : hH)  : (f_X12_nx2 H).2.1 34 ub = H.2.1 34 ub := by
  unfold f_X12_nx2
  repeat' split
  all_goals try dsimp only
  all_goals repeat' (first | rfl | rw [ul_I] | rw [ul_ne (by omega)] | rw [gl_f_X12_bad hb] | rw [gl_f_X12_blanks hb] | rw [gl_f_X12_run hb] | rw [gl_f_X12_nxEnd hb])
theorem gl_f_X12_next {ub : Nat} (hb : ub < 20) (H : hH)  : (f_X12_next H).2.1 34 ub = H.2.1 34 ub := by
  unfold f_X12_next
  repeat' split
  all_goals try dsimp only
  all_goals repeat' (first | rfl | rw [ul_I] | rw [ul_ne (by omega)] | rw [gl_f_X12_bad hb] | rw [gl_f_X12_blanks hb] | rw [gl_f_X12_run hb] | rw [gl_f_X12_nxEnd hb] | rw [gl_f_X12_nx2 hb])
theorem gl_f_X12_sign {ub : Nat} (hb : ub < 20) (a1 : Int) (H : hH)  : (f_X12_sign a1 H).2.2.1 34 ub = H.2.1 34 ub := by
  unfold f_X12_sign
  repeat' split
  all_goals try dsimp only
  all_goals repeat' (first | rfl | rw [ul_I] | rw [ul_ne (by omega)] | rw [gl_f_X12_bad hb] | rw [gl_f_X12_blanks hb] | rw [gl_f_X12_run hb] | rw [gl_f_X12_nxEnd hb] | rw [gl_f_X12_nx2 hb] | rw [gl_f_X12_next hb])
theorem gl_f_X12_takes {ub : Nat} (hb : ub < 20) (a1 : Int) (a2 : Int) (H : hH)  : (f_X12_takes a1 a2 H).2.2.1 34 ub = H.2.1 34 ub := by
  unfold f_X12_takes
  repeat' split
  all_goals try dsimp only
  all_goals repeat' (first | rfl | rw [ul_I] | rw [ul_ne (by omega)] | rw [gl_f_X12_bad hb] | rw [gl_f_X12_blanks hb] | rw [gl_f_X12_run hb] | rw [gl_f_X12_nxEnd hb] | rw [gl_f_X12_nx2 hb] | rw [gl_f_X12_next hb] | rw [gl_f_X12_sign hb])
theorem gl_f_X12_puts {ub : Nat} (hb : ub < 20) (a1 : Int) (a2 : Int) (a3 : Int) (H : hH)  : (f_X12_puts a1 a2 a3 H).2.2.1 34 ub = H.2.1 34 ub := by
  unfold f_X12_puts
  repeat' split
  all_goals try dsimp only
  all_goals repeat' (first | rfl | rw [ul_I] | rw [ul_ne (by omega)] | rw [gl_f_X12_bad hb] | rw [gl_f_X12_blanks hb] | rw [gl_f_X12_run hb] | rw [gl_f_X12_nxEnd hb] | rw [gl_f_X12_nx2 hb] | rw [gl_f_X12_next hb] | rw [gl_f_X12_sign hb] | rw [gl_f_X12_takes hb])
theorem gl_f_X12_fresh {ub : Nat} (hb : ub < 20) {a1 : Int} {H : hH} (ha : 20 ≤ a1.toNat) : (f_X12_fresh a1 H).2.2.1 34 ub = H.2.1 34 ub := by
  unfold f_X12_fresh
  repeat' split
  all_goals try dsimp only
  all_goals repeat' (first | rfl | rw [ul_I] | rw [ul_ne (by omega)] | rw [gl_f_X12_bad hb] | rw [gl_f_X12_blanks hb] | rw [gl_f_X12_run hb] | rw [gl_f_X12_nxEnd hb] | rw [gl_f_X12_nx2 hb] | rw [gl_f_X12_next hb] | rw [gl_f_X12_sign hb] | rw [gl_f_X12_takes hb] | rw [gl_f_X12_puts hb])
theorem gl_f_X12_looksAt {ub : Nat} (hb : ub < 20) (a1 : Int) (a2 : Int) (H : hH)  : (f_X12_looksAt a1 a2 H).2.2.1 34 ub = H.2.1 34 ub := by
  unfold f_X12_looksAt
  repeat' split
  all_goals try dsimp only
  all_goals repeat' (first | rfl | rw [ul_I] | rw [ul_ne (by omega)] | rw [gl_f_X12_bad hb] | rw [gl_f_X12_blanks hb] | rw [gl_f_X12_run hb] | rw [gl_f_X12_nxEnd hb] | rw [gl_f_X12_nx2 hb] | rw [gl_f_X12_next hb] | rw [gl_f_X12_sign hb] | rw [gl_f_X12_takes hb] | rw [gl_f_X12_puts hb] | rw [gl_f_X12_fresh hb (by first | assumption | exact ha0 | exact ha1 | exact ha2 | exact ha3 | (rw [n32_f_X12_next]; assumption))])
theorem gl_f_X12_takesName {ub : Nat} (hb : ub < 20) (a1 : Int) (a2 : Int) (H : hH)  : (f_X12_takesName a1 a2 H).2.2.1 34 ub = H.2.1 34 ub := by
  unfold f_X12_takesName
  repeat' split
  all_goals try dsimp only
  all_goals repeat' (first | rfl | rw [ul_I] | rw [ul_ne (by omega)] | rw [gl_f_X12_bad hb] | rw [gl_f_X12_blanks hb] | rw [gl_f_X12_run hb] | rw [gl_f_X12_nxEnd hb] | rw [gl_f_X12_nx2 hb] | rw [gl_f_X12_next hb] | rw [gl_f_X12_sign hb] | rw [gl_f_X12_takes hb] | rw [gl_f_X12_puts hb] | rw [gl_f_X12_fresh hb (by first | assumption | exact ha0 | exact ha1 | exact ha2 | exact ha3 | (rw [n32_f_X12_next]; assumption))] | rw [gl_f_X12_looksAt hb])
theorem gl_f_X12_readName {ub : Nat} (hb : ub < 20) {a1 : Int} {a2 : Int} {a3 : Int} {H : hH} (ha : 20 ≤ (iAdd a3 (H.1 32 a1.toNat)).toNat) : (f_X12_readName a1 a2 a3 H).2.2.1 34 ub = H.2.1 34 ub := by
  unfold f_X12_readName
  repeat' split
  all_goals try dsimp only
  all_goals repeat' (first | rfl | rw [ul_I] | rw [ul_ne (by omega)] | rw [gl_f_X12_bad hb] | rw [gl_f_X12_blanks hb] | rw [gl_f_X12_run hb] | rw [gl_f_X12_nxEnd hb] | rw [gl_f_X12_nx2 hb] | rw [gl_f_X12_next hb] | rw [gl_f_X12_sign hb] | rw [gl_f_X12_takes hb] | rw [gl_f_X12_puts hb] | rw [gl_f_X12_fresh hb (by first | assumption | exact ha0 | exact ha1 | exact ha2 | exact ha3 | (rw [n32_f_X12_next]; assumption))] | rw [gl_f_X12_looksAt hb] | rw [gl_f_X12_takesName hb])
theorem gl_f_X12_readPerson {ub : Nat} (hb : ub < 20) {H : hH} (ha : 20 ≤ (iAdd 27 (H.1 32 2)).toNat) : (f_X12_readPerson H).2.2.1 34 ub = H.2.1 34 ub := by
  unfold f_X12_readPerson
  repeat' split
  all_goals try dsimp only
  all_goals repeat' (first | rfl | rw [ul_I] | rw [ul_ne (by omega)] | rw [gl_f_X12_bad hb] | rw [gl_f_X12_blanks hb] | rw [gl_f_X12_run hb] | rw [gl_f_X12_nxEnd hb] | rw [gl_f_X12_nx2 hb] | rw [gl_f_X12_next hb] | rw [gl_f_X12_sign hb] | rw [gl_f_X12_takes hb] | rw [gl_f_X12_puts hb] | rw [gl_f_X12_fresh hb (by first | assumption | exact ha0 | exact ha1 | exact ha2 | exact ha3 | (rw [n32_f_X12_next]; assumption))] | rw [gl_f_X12_looksAt hb] | rw [gl_f_X12_takesName hb] | rw [gl_f_X12_readName hb (by first | assumption | exact ha0 | exact ha1 | exact ha2 | exact ha3 | (rw [n32_f_X12_next]; assumption))])
theorem gl_f_X12_pair {ub : Nat} (hb : ub < 20) (a1 : Int) (a2 : Int) (a3 : Int) (H : hH)  : (f_X12_pair a1 a2 a3 H).2.2.1 34 ub = H.2.1 34 ub := by
  unfold f_X12_pair
  repeat' split
  all_goals try dsimp only
  all_goals repeat' (first | rfl | rw [ul_I] | rw [ul_ne (by omega)] | rw [gl_f_X12_bad hb] | rw [gl_f_X12_blanks hb] | rw [gl_f_X12_run hb] | rw [gl_f_X12_nxEnd hb] | rw [gl_f_X12_nx2 hb] | rw [gl_f_X12_next hb] | rw [gl_f_X12_sign hb] | rw [gl_f_X12_takes hb] | rw [gl_f_X12_puts hb] | rw [gl_f_X12_fresh hb (by first | assumption | exact ha0 | exact ha1 | exact ha2 | exact ha3 | (rw [n32_f_X12_next]; assumption))] | rw [gl_f_X12_looksAt hb] | rw [gl_f_X12_takesName hb] | rw [gl_f_X12_readName hb (by first | assumption | exact ha0 | exact ha1 | exact ha2 | exact ha3 | (rw [n32_f_X12_next]; assumption))] | rw [gl_f_X12_readPerson hb (by first | assumption | exact ha0 | exact ha1 | exact ha2 | exact ha3 | (rw [n32_f_X12_next]; assumption))])
theorem gl_f_X12_readHate {ub : Nat} (hb : ub < 20) (H : hH)  : (f_X12_readHate H).2.2.1 34 ub = H.2.1 34 ub := by
  unfold f_X12_readHate
  repeat' split
  all_goals try dsimp only
  all_goals repeat' (first | rfl | rw [ul_I] | rw [ul_ne (by omega)] | rw [gl_f_X12_bad hb] | rw [gl_f_X12_blanks hb] | rw [gl_f_X12_run hb] | rw [gl_f_X12_nxEnd hb] | rw [gl_f_X12_nx2 hb] | rw [gl_f_X12_next hb] | rw [gl_f_X12_sign hb] | rw [gl_f_X12_takes hb] | rw [gl_f_X12_puts hb] | rw [gl_f_X12_fresh hb (by first | assumption | exact ha0 | exact ha1 | exact ha2 | exact ha3 | (rw [n32_f_X12_next]; assumption))] | rw [gl_f_X12_looksAt hb] | rw [gl_f_X12_takesName hb] | rw [gl_f_X12_readName hb (by first | assumption | exact ha0 | exact ha1 | exact ha2 | exact ha3 | (rw [n32_f_X12_next]; assumption))] | rw [gl_f_X12_readPerson hb (by first | assumption | exact ha0 | exact ha1 | exact ha2 | exact ha3 | (rw [n32_f_X12_next]; assumption))] | rw [gl_f_X12_pair hb])
theorem gl_f_X12_line {ub : Nat} (hb : ub < 20) {H : hH} (ha0 : 20 ≤ (iAdd 20 (H.1 32 0)).toNat) (ha1 : 20 ≤ (iAdd 24 (H.1 32 1)).toNat) (ha2 : 20 ≤ (iAdd 27 (H.1 32 2)).toNat) (ha3 : 20 ≤ (iAdd 37 (H.1 32 3)).toNat) : (f_X12_line H).2.2.1 34 ub = H.2.1 34 ub := by
  unfold f_X12_line
  repeat' split
  all_goals try dsimp only
  all_goals repeat' (first | rfl | rw [ul_I] | rw [ul_ne (by omega)] | rw [gl_f_X12_bad hb] | rw [gl_f_X12_blanks hb] | rw [gl_f_X12_run hb] | rw [gl_f_X12_nxEnd hb] | rw [gl_f_X12_nx2 hb] | rw [gl_f_X12_next hb] | rw [gl_f_X12_sign hb] | rw [gl_f_X12_takes hb] | rw [gl_f_X12_puts hb] | rw [gl_f_X12_fresh hb (by first | assumption | exact ha0 | exact ha1 | exact ha2 | exact ha3 | (rw [n32_f_X12_next]; assumption))] | rw [gl_f_X12_looksAt hb] | rw [gl_f_X12_takesName hb] | rw [gl_f_X12_readName hb (by first | assumption | exact ha0 | exact ha1 | exact ha2 | exact ha3 | (rw [n32_f_X12_next]; assumption))] | rw [gl_f_X12_readPerson hb (by first | assumption | exact ha0 | exact ha1 | exact ha2 | exact ha3 | (rw [n32_f_X12_next]; assumption))] | rw [gl_f_X12_pair hb] | rw [gl_f_X12_readHate hb])
