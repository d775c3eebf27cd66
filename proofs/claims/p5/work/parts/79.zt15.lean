/-! Cells that neither reader touches (written by wip/town/mkfq.py). -/
set_option maxRecDepth 100000
theorem um_L (H : hH) (p j : Nat) (v : Int64) : (upL H p j v).1 = H.1 := rfl
theorem um_R (H : hH) (p j : Nat) (v : Option Nat) : (upR H p j v).1 = H.1 := rfl
theorem fm_f_X12_bad {ua ub : Nat} (h1 : ua ≠ 29) (h2 : ua ≠ 32) (a1 : Int) (H : hH) : (f_X12_bad a1 H).2.1 ua ub = H.1 ua ub := by
  unfold f_X12_bad
  repeat' split
  all_goals try dsimp only
  all_goals repeat' (first | rfl | rw [pd_upI_ne (by omega)] | rw [pd_upRow_ne (by omega)] | rw [um_L] | rw [um_R])
theorem fm_f_X12_blanks {ua ub : Nat} (h1 : ua ≠ 29) (h2 : ua ≠ 32)  : ∀ (k : Nat) (H : hH), (f_X12_blanks  k H).1 ua ub = H.1 ua ub := by
  intro k
  induction k with
  | zero => intros; rfl
  | succ k ih =>
    intros
    unfold f_X12_blanks
    repeat' split
    all_goals try dsimp only
    all_goals repeat' (first | rfl | rw [pd_upI_ne (by omega)] | rw [pd_upRow_ne (by omega)] | rw [um_L] | rw [um_R] | rw [fm_f_X12_bad h1 h2] | rw [ih])
theorem fm_f_X12_run {ua ub : Nat} (h1 : ua ≠ 29) (h2 : ua ≠ 32) (c : Int) (s : Int) : ∀ (k : Nat) (x1 : Int) (H : hH), (f_X12_run c s k x1 H).2.1 ua ub = H.1 ua ub := by
  intro k
  induction k with
  | zero => intros; rfl
  | succ k ih =>
    intros
    unfold f_X12_run
    repeat' split
    all_goals try dsimp only
    all_goals repeat' (first | rfl | rw [pd_upI_ne (by omega)] | rw [pd_upRow_ne (by omega)] | rw [um_L] | rw [um_R] | rw [fm_f_X12_bad h1 h2] | rw [fm_f_X12_blanks h1 h2] | rw [ih])
theorem fm_f_X12_nxEnd {ua ub : Nat} (h1 : ua ≠ 29) (h2 : ua ≠ 32) (c : Int) (s : Int) (a : Int) (H : hH) : (f_X12_nxEnd c s a H).1 ua ub = H.1 ua ub := by
  unfold f_X12_nxEnd
  repeat' split
  all_goals try dsimp only
  all_goals repeat' (first | rfl | rw [pd_upI_ne (by omega)] | rw [pd_upRow_ne (by omega)] | rw [um_L] | rw [um_R] | rw [fm_f_X12_bad h1 h2] | rw [fm_f_X12_blanks h1 h2] | rw [fm_f_X12_run h1 h2])
theorem fm_f_X12_nx2 {ua ub : Nat} (h1 : ua ≠ 29) (h2 : ua ≠ 32) (H : hH) : (f_X12_nx2 H).1 ua ub = H.1 ua ub := by
  unfold f_X12_nx2
  repeat' split
  all_goals try dsimp only
  all_goals repeat' (first | rfl | rw [pd_upI_ne (by omega)] | rw [pd_upRow_ne (by omega)] | rw [um_L] | rw [um_R] | rw [fm_f_X12_bad h1 h2] | rw [fm_f_X12_blanks h1 h2] | rw [fm_f_X12_run h1 h2] | rw [fm_f_X12_nxEnd h1 h2])
theorem fm_f_X12_next {ua ub : Nat} (h1 : ua ≠ 29) (h2 : ua ≠ 32) (H : hH) : (f_X12_next H).1 ua ub = H.1 ua ub := by
  unfold f_X12_next
  repeat' split
  all_goals try dsimp only
  all_goals repeat' (first | rfl | rw [pd_upI_ne (by omega)] | rw [pd_upRow_ne (by omega)] | rw [um_L] | rw [um_R] | rw [fm_f_X12_bad h1 h2] | rw [fm_f_X12_blanks h1 h2] | rw [fm_f_X12_run h1 h2] | rw [fm_f_X12_nxEnd h1 h2] | rw [fm_f_X12_nx2 h1 h2])
theorem fm_f_X12_sign {ua ub : Nat} (h1 : ua ≠ 29) (h2 : ua ≠ 32) (a1 : Int) (H : hH) : (f_X12_sign a1 H).2.1 ua ub = H.1 ua ub := by
  unfold f_X12_sign
  repeat' split
  all_goals try dsimp only
  all_goals repeat' (first | rfl | rw [pd_upI_ne (by omega)] | rw [pd_upRow_ne (by omega)] | rw [um_L] | rw [um_R] | rw [fm_f_X12_bad h1 h2] | rw [fm_f_X12_blanks h1 h2] | rw [fm_f_X12_run h1 h2] | rw [fm_f_X12_nxEnd h1 h2] | rw [fm_f_X12_nx2 h1 h2] | rw [fm_f_X12_next h1 h2])
theorem fm_f_X12_takes {ua ub : Nat} (h1 : ua ≠ 29) (h2 : ua ≠ 32) (a1 : Int) (a2 : Int) (H : hH) : (f_X12_takes a1 a2 H).2.1 ua ub = H.1 ua ub := by
  unfold f_X12_takes
  repeat' split
  all_goals try dsimp only
  all_goals repeat' (first | rfl | rw [pd_upI_ne (by omega)] | rw [pd_upRow_ne (by omega)] | rw [um_L] | rw [um_R] | rw [fm_f_X12_bad h1 h2] | rw [fm_f_X12_blanks h1 h2] | rw [fm_f_X12_run h1 h2] | rw [fm_f_X12_nxEnd h1 h2] | rw [fm_f_X12_nx2 h1 h2] | rw [fm_f_X12_next h1 h2] | rw [fm_f_X12_sign h1 h2])
theorem fm_f_X12_puts {ua ub : Nat} (h1 : ua ≠ 29) (h2 : ua ≠ 32) (a1 : Int) (a2 : Int) (a3 : Int) (H : hH) : (f_X12_puts a1 a2 a3 H).2.1 ua ub = H.1 ua ub := by
  unfold f_X12_puts
  repeat' split
  all_goals try dsimp only
  all_goals repeat' (first | rfl | rw [pd_upI_ne (by omega)] | rw [pd_upRow_ne (by omega)] | rw [um_L] | rw [um_R] | rw [fm_f_X12_bad h1 h2] | rw [fm_f_X12_blanks h1 h2] | rw [fm_f_X12_run h1 h2] | rw [fm_f_X12_nxEnd h1 h2] | rw [fm_f_X12_nx2 h1 h2] | rw [fm_f_X12_next h1 h2] | rw [fm_f_X12_sign h1 h2] | rw [fm_f_X12_takes h1 h2])
theorem fm_f_X12_fresh {ua ub : Nat} (h1 : ua ≠ 29) (h2 : ua ≠ 32) (a1 : Int) (H : hH) : (f_X12_fresh a1 H).2.1 ua ub = H.1 ua ub := by
  unfold f_X12_fresh
  repeat' split
  all_goals try dsimp only
  all_goals repeat' (first | rfl | rw [pd_upI_ne (by omega)] | rw [pd_upRow_ne (by omega)] | rw [um_L] | rw [um_R] | rw [fm_f_X12_bad h1 h2] | rw [fm_f_X12_blanks h1 h2] | rw [fm_f_X12_run h1 h2] | rw [fm_f_X12_nxEnd h1 h2] | rw [fm_f_X12_nx2 h1 h2] | rw [fm_f_X12_next h1 h2] | rw [fm_f_X12_sign h1 h2] | rw [fm_f_X12_takes h1 h2] | rw [fm_f_X12_puts h1 h2])
theorem fm_f_X12_looksAt {ua ub : Nat} (h1 : ua ≠ 29) (h2 : ua ≠ 32) (a1 : Int) (a2 : Int) (H : hH) : (f_X12_looksAt a1 a2 H).2.1 ua ub = H.1 ua ub := by
  unfold f_X12_looksAt
  repeat' split
  all_goals try dsimp only
  all_goals repeat' (first | rfl | rw [pd_upI_ne (by omega)] | rw [pd_upRow_ne (by omega)] | rw [um_L] | rw [um_R] | rw [fm_f_X12_bad h1 h2] | rw [fm_f_X12_blanks h1 h2] | rw [fm_f_X12_run h1 h2] | rw [fm_f_X12_nxEnd h1 h2] | rw [fm_f_X12_nx2 h1 h2] | rw [fm_f_X12_next h1 h2] | rw [fm_f_X12_sign h1 h2] | rw [fm_f_X12_takes h1 h2] | rw [fm_f_X12_puts h1 h2] | rw [fm_f_X12_fresh h1 h2])
theorem fm_f_X12_takesName {ua ub : Nat} (h1 : ua ≠ 29) (h2 : ua ≠ 32) (a1 : Int) (a2 : Int) (H : hH) : (f_X12_takesName a1 a2 H).2.1 ua ub = H.1 ua ub := by
  unfold f_X12_takesName
  repeat' split
  all_goals try dsimp only
  all_goals repeat' (first | rfl | rw [pd_upI_ne (by omega)] | rw [pd_upRow_ne (by omega)] | rw [um_L] | rw [um_R] | rw [fm_f_X12_bad h1 h2] | rw [fm_f_X12_blanks h1 h2] | rw [fm_f_X12_run h1 h2] | rw [fm_f_X12_nxEnd h1 h2] | rw [fm_f_X12_nx2 h1 h2] | rw [fm_f_X12_next h1 h2] | rw [fm_f_X12_sign h1 h2] | rw [fm_f_X12_takes h1 h2] | rw [fm_f_X12_puts h1 h2] | rw [fm_f_X12_fresh h1 h2] | rw [fm_f_X12_looksAt h1 h2])
theorem fm_f_X12_readName {ua ub : Nat} (h1 : ua ≠ 29) (h2 : ua ≠ 32) (a1 : Int) (a2 : Int) (a3 : Int) (H : hH) : (f_X12_readName a1 a2 a3 H).2.1 ua ub = H.1 ua ub := by
  unfold f_X12_readName
  repeat' split
  all_goals try dsimp only
  all_goals repeat' (first | rfl | rw [pd_upI_ne (by omega)] | rw [pd_upRow_ne (by omega)] | rw [um_L] | rw [um_R] | rw [fm_f_X12_bad h1 h2] | rw [fm_f_X12_blanks h1 h2] | rw [fm_f_X12_run h1 h2] | rw [fm_f_X12_nxEnd h1 h2] | rw [fm_f_X12_nx2 h1 h2] | rw [fm_f_X12_next h1 h2] | rw [fm_f_X12_sign h1 h2] | rw [fm_f_X12_takes h1 h2] | rw [fm_f_X12_puts h1 h2] | rw [fm_f_X12_fresh h1 h2] | rw [fm_f_X12_looksAt h1 h2] | rw [fm_f_X12_takesName h1 h2])
theorem fm_f_X12_readPerson {ua ub : Nat} (h1 : ua ≠ 29) (h2 : ua ≠ 32) (H : hH) : (f_X12_readPerson H).2.1 ua ub = H.1 ua ub := by
  unfold f_X12_readPerson
  repeat' split
  all_goals try dsimp only
  all_goals repeat' (first | rfl | rw [pd_upI_ne (by omega)] | rw [pd_upRow_ne (by omega)] | rw [um_L] | rw [um_R] | rw [fm_f_X12_bad h1 h2] | rw [fm_f_X12_blanks h1 h2] | rw [fm_f_X12_run h1 h2] | rw [fm_f_X12_nxEnd h1 h2] | rw [fm_f_X12_nx2 h1 h2] | rw [fm_f_X12_next h1 h2] | rw [fm_f_X12_sign h1 h2] | rw [fm_f_X12_takes h1 h2] | rw [fm_f_X12_puts h1 h2] | rw [fm_f_X12_fresh h1 h2] | rw [fm_f_X12_looksAt h1 h2] | rw [fm_f_X12_takesName h1 h2] | rw [fm_f_X12_readName h1 h2])
theorem fm_f_X12_pair {ua ub : Nat} (h1 : ua ≠ 29) (h2 : ua ≠ 32) (a1 : Int) (a2 : Int) (a3 : Int) (H : hH) : (f_X12_pair a1 a2 a3 H).2.1 ua ub = H.1 ua ub := by
  unfold f_X12_pair
  repeat' split
  all_goals try dsimp only
  all_goals repeat' (first | rfl | rw [pd_upI_ne (by omega)] | rw [pd_upRow_ne (by omega)] | rw [um_L] | rw [um_R] | rw [fm_f_X12_bad h1 h2] | rw [fm_f_X12_blanks h1 h2] | rw [fm_f_X12_run h1 h2] | rw [fm_f_X12_nxEnd h1 h2] | rw [fm_f_X12_nx2 h1 h2] | rw [fm_f_X12_next h1 h2] | rw [fm_f_X12_sign h1 h2] | rw [fm_f_X12_takes h1 h2] | rw [fm_f_X12_puts h1 h2] | rw [fm_f_X12_fresh h1 h2] | rw [fm_f_X12_looksAt h1 h2] | rw [fm_f_X12_takesName h1 h2] | rw [fm_f_X12_readName h1 h2] | rw [fm_f_X12_readPerson h1 h2])
theorem fm_f_X12_readHate {ua ub : Nat} (h1 : ua ≠ 29) (h2 : ua ≠ 32) (H : hH) : (f_X12_readHate H).2.1 ua ub = H.1 ua ub := by
  unfold f_X12_readHate
  repeat' split
  all_goals try dsimp only
  all_goals repeat' (first | rfl | rw [pd_upI_ne (by omega)] | rw [pd_upRow_ne (by omega)] | rw [um_L] | rw [um_R] | rw [fm_f_X12_bad h1 h2] | rw [fm_f_X12_blanks h1 h2] | rw [fm_f_X12_run h1 h2] | rw [fm_f_X12_nxEnd h1 h2] | rw [fm_f_X12_nx2 h1 h2] | rw [fm_f_X12_next h1 h2] | rw [fm_f_X12_sign h1 h2] | rw [fm_f_X12_takes h1 h2] | rw [fm_f_X12_puts h1 h2] | rw [fm_f_X12_fresh h1 h2] | rw [fm_f_X12_looksAt h1 h2] | rw [fm_f_X12_takesName h1 h2] | rw [fm_f_X12_readName h1 h2] | rw [fm_f_X12_readPerson h1 h2] | rw [fm_f_X12_pair h1 h2])
theorem fm_f_X12_line {ua ub : Nat} (h1 : ua ≠ 29) (h2 : ua ≠ 32) (H : hH) : (f_X12_line H).2.1 ua ub = H.1 ua ub := by
  unfold f_X12_line
  repeat' split
  all_goals try dsimp only
  all_goals repeat' (first | rfl | rw [pd_upI_ne (by omega)] | rw [pd_upRow_ne (by omega)] | rw [um_L] | rw [um_R] | rw [fm_f_X12_bad h1 h2] | rw [fm_f_X12_blanks h1 h2] | rw [fm_f_X12_run h1 h2] | rw [fm_f_X12_nxEnd h1 h2] | rw [fm_f_X12_nx2 h1 h2] | rw [fm_f_X12_next h1 h2] | rw [fm_f_X12_sign h1 h2] | rw [fm_f_X12_takes h1 h2] | rw [fm_f_X12_puts h1 h2] | rw [fm_f_X12_fresh h1 h2] | rw [fm_f_X12_looksAt h1 h2] | rw [fm_f_X12_takesName h1 h2] | rw [fm_f_X12_readName h1 h2] | rw [fm_f_X12_readPerson h1 h2] | rw [fm_f_X12_pair h1 h2] | rw [fm_f_X12_readHate h1 h2])
