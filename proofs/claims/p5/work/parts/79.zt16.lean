/-! Cells that the class's reader doesn't touch (written by wip/town/mkfq.py). -/
set_option maxRecDepth 100000
theorem fx_f_X9_advance {ua ub : Nat} (h1 : ua < 4) (H : hH) : (f_X9_advance H).1 ua ub = H.1 ua ub := by
  unfold f_X9_advance
  repeat' split
  all_goals try dsimp only
  all_goals repeat' (first | rfl | rw [pd_upI_ne (by omega)] | rw [pd_upRow_ne (by omega)] | rw [um_L] | rw [um_R])
theorem fx_f_X9_fail {ua ub : Nat} (h1 : ua < 4) (a1 : Int) (H : hH) : (f_X9_fail a1 H).2.1 ua ub = H.1 ua ub := by
  unfold f_X9_fail
  repeat' split
  all_goals try dsimp only
  all_goals repeat' (first | rfl | rw [pd_upI_ne (by omega)] | rw [pd_upRow_ne (by omega)] | rw [um_L] | rw [um_R] | rw [fx_f_X9_advance h1])
theorem fx_f_X9_passSign {ua ub : Nat} (h1 : ua < 4) (a1 : Int) (H : hH) : (f_X9_passSign a1 H).2.1 ua ub = H.1 ua ub := by
  unfold f_X9_passSign
  repeat' split
  all_goals try dsimp only
  all_goals repeat' (first | rfl | rw [pd_upI_ne (by omega)] | rw [pd_upRow_ne (by omega)] | rw [um_L] | rw [um_R] | rw [fx_f_X9_advance h1] | rw [fx_f_X9_fail h1])
theorem fx_f_X9_passNumber {ua ub : Nat} (h1 : ua < 4) (a1 : Int) (a2 : Int) (H : hH) : (f_X9_passNumber a1 a2 H).2.1 ua ub = H.1 ua ub := by
  unfold f_X9_passNumber
  repeat' split
  all_goals try dsimp only
  all_goals repeat' (first | rfl | rw [pd_upI_ne (by omega)] | rw [pd_upRow_ne (by omega)] | rw [um_L] | rw [um_R] | rw [fx_f_X9_advance h1] | rw [fx_f_X9_fail h1] | rw [fx_f_X9_passSign h1])
theorem fx_f_X10_addName {ua ub : Nat} (h1 : ua < 4) (a1 : Int64) (a2 : Int) (H : hH) : (f_X10_addName a1 a2 H).2.1 ua ub = H.1 ua ub := by
  unfold f_X10_addName
  repeat' split
  all_goals try dsimp only
  all_goals repeat' (first | rfl | rw [pd_upI_ne (by omega)] | rw [pd_upRow_ne (by omega)] | rw [um_L] | rw [um_R] | rw [fx_f_X9_advance h1] | rw [fx_f_X9_fail h1] | rw [fx_f_X9_passSign h1] | rw [fx_f_X9_passNumber h1])
theorem fx_f_X9_blanks {ua ub : Nat} (h1 : ua < 4) (a1 : Int) : ∀ (k : Nat) (H : hH), (f_X9_blanks a1 k H).1 ua ub = H.1 ua ub := by
  intro k
  induction k with
  | zero => intros; rfl
  | succ k ih =>
    intros
    unfold f_X9_blanks
    repeat' split
    all_goals try dsimp only
    all_goals repeat' (first | rfl | rw [pd_upI_ne (by omega)] | rw [pd_upRow_ne (by omega)] | rw [um_L] | rw [um_R] | rw [fx_f_X9_advance h1] | rw [fx_f_X9_fail h1] | rw [fx_f_X9_passSign h1] | rw [fx_f_X9_passNumber h1] | rw [fx_f_X10_addName h1] | rw [ih])
theorem fx_f_X9_run {ua ub : Nat} (h1 : ua < 4)  : ∀ (k : Nat) (x1 : Int) (x2 : Int) (x3 : Int) (x4 : Int64) (H : hH), (f_X9_run  k x1 x2 x3 x4 H).2.2.2.2.1 ua ub = H.1 ua ub := by
  intro k
  induction k with
  | zero => intros; rfl
  | succ k ih =>
    intros
    unfold f_X9_run
    repeat' split
    all_goals try dsimp only
    all_goals repeat' (first | rfl | rw [pd_upI_ne (by omega)] | rw [pd_upRow_ne (by omega)] | rw [um_L] | rw [um_R] | rw [fx_f_X9_advance h1] | rw [fx_f_X9_fail h1] | rw [fx_f_X9_passSign h1] | rw [fx_f_X9_passNumber h1] | rw [fx_f_X10_addName h1] | rw [fx_f_X9_blanks h1] | rw [ih])
theorem fx_f_X9_runEnd {ua ub : Nat} (h1 : ua < 4) (l : Int) (d : Int) (n : Int) (m : Int64) (H : hH) : (f_X9_runEnd l d n m H).2.1 ua ub = H.1 ua ub := by
  unfold f_X9_runEnd
  repeat' split
  all_goals try dsimp only
  all_goals repeat' (first | rfl | rw [pd_upI_ne (by omega)] | rw [pd_upRow_ne (by omega)] | rw [um_L] | rw [um_R] | rw [fx_f_X9_advance h1] | rw [fx_f_X9_fail h1] | rw [fx_f_X9_passSign h1] | rw [fx_f_X9_passNumber h1] | rw [fx_f_X10_addName h1] | rw [fx_f_X9_blanks h1] | rw [fx_f_X9_run h1])
theorem fx_f_X9_scanRun {ua ub : Nat} (h1 : ua < 4) (H : hH) : (f_X9_scanRun H).2.1 ua ub = H.1 ua ub := by
  unfold f_X9_scanRun
  repeat' split
  all_goals try dsimp only
  all_goals repeat' (first | rfl | rw [pd_upI_ne (by omega)] | rw [pd_upRow_ne (by omega)] | rw [um_L] | rw [um_R] | rw [fx_f_X9_advance h1] | rw [fx_f_X9_fail h1] | rw [fx_f_X9_passSign h1] | rw [fx_f_X9_passNumber h1] | rw [fx_f_X10_addName h1] | rw [fx_f_X9_blanks h1] | rw [fx_f_X9_run h1] | rw [fx_f_X9_runEnd h1])
theorem fx_f_X9_tok {ua ub : Nat} (h1 : ua < 4) (a1 : Int) (H : hH) : (f_X9_tok a1 H).2.1 ua ub = H.1 ua ub := by
  unfold f_X9_tok
  repeat' split
  all_goals try dsimp only
  all_goals repeat' (first | rfl | rw [pd_upI_ne (by omega)] | rw [pd_upRow_ne (by omega)] | rw [um_L] | rw [um_R] | rw [fx_f_X9_advance h1] | rw [fx_f_X9_fail h1] | rw [fx_f_X9_passSign h1] | rw [fx_f_X9_passNumber h1] | rw [fx_f_X10_addName h1] | rw [fx_f_X9_blanks h1] | rw [fx_f_X9_run h1] | rw [fx_f_X9_runEnd h1] | rw [fx_f_X9_scanRun h1])
theorem fx_f_X9_scanToken {ua ub : Nat} (h1 : ua < 4) (a1 : Int) (H : hH) : (f_X9_scanToken a1 H).2.1 ua ub = H.1 ua ub := by
  unfold f_X9_scanToken
  repeat' split
  all_goals try dsimp only
  all_goals repeat' (first | rfl | rw [pd_upI_ne (by omega)] | rw [pd_upRow_ne (by omega)] | rw [um_L] | rw [um_R] | rw [fx_f_X9_advance h1] | rw [fx_f_X9_fail h1] | rw [fx_f_X9_passSign h1] | rw [fx_f_X9_passNumber h1] | rw [fx_f_X10_addName h1] | rw [fx_f_X9_blanks h1] | rw [fx_f_X9_run h1] | rw [fx_f_X9_runEnd h1] | rw [fx_f_X9_scanRun h1] | rw [fx_f_X9_tok h1])
theorem fx_f_X9_all {ua ub : Nat} (h1 : ua < 4) (a1 : Int) : ∀ (k : Nat) (x1 : Int) (H : hH), (f_X9_all a1 k x1 H).2.1 ua ub = H.1 ua ub := by
  intro k
  induction k with
  | zero => intros; rfl
  | succ k ih =>
    intros
    unfold f_X9_all
    repeat' split
    all_goals try dsimp only
    all_goals repeat' (first | rfl | rw [pd_upI_ne (by omega)] | rw [pd_upRow_ne (by omega)] | rw [um_L] | rw [um_R] | rw [fx_f_X9_advance h1] | rw [fx_f_X9_fail h1] | rw [fx_f_X9_passSign h1] | rw [fx_f_X9_passNumber h1] | rw [fx_f_X10_addName h1] | rw [fx_f_X9_blanks h1] | rw [fx_f_X9_run h1] | rw [fx_f_X9_runEnd h1] | rw [fx_f_X9_scanRun h1] | rw [fx_f_X9_tok h1] | rw [fx_f_X9_scanToken h1] | rw [ih])
theorem fx_f_X9_named {ua ub : Nat} (h1 : ua < 4) (a2 : Int) (H : hH) : (f_X9_named a2 H).2.1 ua ub = H.1 ua ub := by
  unfold f_X9_named
  repeat' split
  all_goals try dsimp only
  all_goals repeat' (first | rfl | rw [pd_upI_ne (by omega)] | rw [pd_upRow_ne (by omega)] | rw [um_L] | rw [um_R] | rw [fx_f_X9_advance h1] | rw [fx_f_X9_fail h1] | rw [fx_f_X9_passSign h1] | rw [fx_f_X9_passNumber h1] | rw [fx_f_X10_addName h1] | rw [fx_f_X9_blanks h1] | rw [fx_f_X9_run h1] | rw [fx_f_X9_runEnd h1] | rw [fx_f_X9_scanRun h1] | rw [fx_f_X9_tok h1] | rw [fx_f_X9_scanToken h1] | rw [fx_f_X9_all h1])
theorem fx_f_X1_readPerson {ua ub : Nat} (h1 : ua < 4) (a1 : Int) (H : hH) : (f_X1_readPerson a1 H).2.1 ua ub = H.1 ua ub := by
  unfold f_X1_readPerson
  repeat' split
  all_goals try dsimp only
  all_goals repeat' (first | rfl | rw [pd_upI_ne (by omega)] | rw [pd_upRow_ne (by omega)] | rw [um_L] | rw [um_R] | rw [fx_f_X9_advance h1] | rw [fx_f_X9_fail h1] | rw [fx_f_X9_passSign h1] | rw [fx_f_X9_passNumber h1] | rw [fx_f_X10_addName h1] | rw [fx_f_X9_blanks h1] | rw [fx_f_X9_run h1] | rw [fx_f_X9_runEnd h1] | rw [fx_f_X9_scanRun h1] | rw [fx_f_X9_tok h1] | rw [fx_f_X9_scanToken h1] | rw [fx_f_X9_all h1] | rw [fx_f_X9_named h1])
theorem fx_f_X1_readShare {ua ub : Nat} (h1 : ua < 4) (a1 : Int) (H : hH) : (f_X1_readShare a1 H).2.1 ua ub = H.1 ua ub := by
  unfold f_X1_readShare
  repeat' split
  all_goals try dsimp only
  all_goals repeat' (first | rfl | rw [pd_upI_ne (by omega)] | rw [pd_upRow_ne (by omega)] | rw [um_L] | rw [um_R] | rw [fx_f_X9_advance h1] | rw [fx_f_X9_fail h1] | rw [fx_f_X9_passSign h1] | rw [fx_f_X9_passNumber h1] | rw [fx_f_X10_addName h1] | rw [fx_f_X9_blanks h1] | rw [fx_f_X9_run h1] | rw [fx_f_X9_runEnd h1] | rw [fx_f_X9_scanRun h1] | rw [fx_f_X9_tok h1] | rw [fx_f_X9_scanToken h1] | rw [fx_f_X9_all h1] | rw [fx_f_X9_named h1] | rw [fx_f_X1_readPerson h1])
theorem fx_f_X1_tie {ua ub : Nat} (h1 : ua < 4) (a1 : Int) (a2 : Int) (a3 : Int) (H : hH) : (f_X1_tie a1 a2 a3 H).2.1 ua ub = H.1 ua ub := by
  unfold f_X1_tie
  repeat' split
  all_goals try dsimp only
  all_goals repeat' (first | rfl | rw [pd_upI_ne (by omega)] | rw [pd_upRow_ne (by omega)] | rw [um_L] | rw [um_R] | rw [fx_f_X9_advance h1] | rw [fx_f_X9_fail h1] | rw [fx_f_X9_passSign h1] | rw [fx_f_X9_passNumber h1] | rw [fx_f_X10_addName h1] | rw [fx_f_X9_blanks h1] | rw [fx_f_X9_run h1] | rw [fx_f_X9_runEnd h1] | rw [fx_f_X9_scanRun h1] | rw [fx_f_X9_tok h1] | rw [fx_f_X9_scanToken h1] | rw [fx_f_X9_all h1] | rw [fx_f_X9_named h1] | rw [fx_f_X1_readPerson h1] | rw [fx_f_X1_readShare h1])
theorem fx_f_X1_readTie {ua ub : Nat} (h1 : ua < 4) (a1 : Int) (H : hH) : (f_X1_readTie a1 H).2.1 ua ub = H.1 ua ub := by
  unfold f_X1_readTie
  repeat' split
  all_goals try dsimp only
  all_goals repeat' (first | rfl | rw [pd_upI_ne (by omega)] | rw [pd_upRow_ne (by omega)] | rw [um_L] | rw [um_R] | rw [fx_f_X9_advance h1] | rw [fx_f_X9_fail h1] | rw [fx_f_X9_passSign h1] | rw [fx_f_X9_passNumber h1] | rw [fx_f_X10_addName h1] | rw [fx_f_X9_blanks h1] | rw [fx_f_X9_run h1] | rw [fx_f_X9_runEnd h1] | rw [fx_f_X9_scanRun h1] | rw [fx_f_X9_tok h1] | rw [fx_f_X9_scanToken h1] | rw [fx_f_X9_all h1] | rw [fx_f_X9_named h1] | rw [fx_f_X1_readPerson h1] | rw [fx_f_X1_readShare h1] | rw [fx_f_X1_tie h1])
theorem fx_f_X1_readNew {ua ub : Nat} (h1 : ua < 4) (a1 : Int) (H : hH) : (f_X1_readNew a1 H).2.1 ua ub = H.1 ua ub := by
  unfold f_X1_readNew
  repeat' split
  all_goals try dsimp only
  all_goals repeat' (first | rfl | rw [pd_upI_ne (by omega)] | rw [pd_upRow_ne (by omega)] | rw [um_L] | rw [um_R] | rw [fx_f_X9_advance h1] | rw [fx_f_X9_fail h1] | rw [fx_f_X9_passSign h1] | rw [fx_f_X9_passNumber h1] | rw [fx_f_X10_addName h1] | rw [fx_f_X9_blanks h1] | rw [fx_f_X9_run h1] | rw [fx_f_X9_runEnd h1] | rw [fx_f_X9_scanRun h1] | rw [fx_f_X9_tok h1] | rw [fx_f_X9_scanToken h1] | rw [fx_f_X9_all h1] | rw [fx_f_X9_named h1] | rw [fx_f_X1_readPerson h1] | rw [fx_f_X1_readShare h1] | rw [fx_f_X1_tie h1] | rw [fx_f_X1_readTie h1])
theorem fx_f_X1_readLine {ua ub : Nat} (h1 : ua < 4) (H : hH) : (f_X1_readLine H).2.1 ua ub = H.1 ua ub := by
  unfold f_X1_readLine
  repeat' split
  all_goals try dsimp only
  all_goals repeat' (first | rfl | rw [pd_upI_ne (by omega)] | rw [pd_upRow_ne (by omega)] | rw [um_L] | rw [um_R] | rw [fx_f_X9_advance h1] | rw [fx_f_X9_fail h1] | rw [fx_f_X9_passSign h1] | rw [fx_f_X9_passNumber h1] | rw [fx_f_X10_addName h1] | rw [fx_f_X9_blanks h1] | rw [fx_f_X9_run h1] | rw [fx_f_X9_runEnd h1] | rw [fx_f_X9_scanRun h1] | rw [fx_f_X9_tok h1] | rw [fx_f_X9_scanToken h1] | rw [fx_f_X9_all h1] | rw [fx_f_X9_named h1] | rw [fx_f_X1_readPerson h1] | rw [fx_f_X1_readShare h1] | rw [fx_f_X1_tie h1] | rw [fx_f_X1_readTie h1] | rw [fx_f_X1_readNew h1])
theorem fx_f_X9_bgEnd {ua ub : Nat} (h1 : ua < 4) (a1 : Int) (b : Int) (H : hH) : (f_X9_bgEnd a1 b H).1 ua ub = H.1 ua ub := by
  unfold f_X9_bgEnd
  repeat' split
  all_goals try dsimp only
  all_goals repeat' (first | rfl | rw [pd_upI_ne (by omega)] | rw [pd_upRow_ne (by omega)] | rw [um_L] | rw [um_R] | rw [fx_f_X9_advance h1] | rw [fx_f_X9_fail h1] | rw [fx_f_X9_passSign h1] | rw [fx_f_X9_passNumber h1] | rw [fx_f_X10_addName h1] | rw [fx_f_X9_blanks h1] | rw [fx_f_X9_run h1] | rw [fx_f_X9_runEnd h1] | rw [fx_f_X9_scanRun h1] | rw [fx_f_X9_tok h1] | rw [fx_f_X9_scanToken h1] | rw [fx_f_X9_all h1] | rw [fx_f_X9_named h1] | rw [fx_f_X1_readPerson h1] | rw [fx_f_X1_readShare h1] | rw [fx_f_X1_tie h1] | rw [fx_f_X1_readTie h1] | rw [fx_f_X1_readNew h1] | rw [fx_f_X1_readLine h1])
theorem fx_f_X9_begin {ua ub : Nat} (h1 : ua < 4) (a1 : Int) (H : hH) : (f_X9_begin a1 H).1 ua ub = H.1 ua ub := by
  unfold f_X9_begin
  repeat' split
  all_goals try dsimp only
  all_goals repeat' (first | rfl | rw [pd_upI_ne (by omega)] | rw [pd_upRow_ne (by omega)] | rw [um_L] | rw [um_R] | rw [fx_f_X9_advance h1] | rw [fx_f_X9_fail h1] | rw [fx_f_X9_passSign h1] | rw [fx_f_X9_passNumber h1] | rw [fx_f_X10_addName h1] | rw [fx_f_X9_blanks h1] | rw [fx_f_X9_run h1] | rw [fx_f_X9_runEnd h1] | rw [fx_f_X9_scanRun h1] | rw [fx_f_X9_tok h1] | rw [fx_f_X9_scanToken h1] | rw [fx_f_X9_all h1] | rw [fx_f_X9_named h1] | rw [fx_f_X1_readPerson h1] | rw [fx_f_X1_readShare h1] | rw [fx_f_X1_tie h1] | rw [fx_f_X1_readTie h1] | rw [fx_f_X1_readNew h1] | rw [fx_f_X1_readLine h1] | rw [fx_f_X9_bgEnd h1])
