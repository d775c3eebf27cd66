/-! The reference's readers leave the fault where they answer yes (written by wip/p5/mkzf.py). -/
set_option maxRecDepth 100000
theorem zf_f_X12_blanks  : ∀ (k : Nat) (H : hH), (f_X12_blanks  k H).1 29 15 = H.1 29 15 := by
  intro k
  induction k with
  | zero => intros; rfl
  | succ k ih =>
    intros
    unfold f_X12_blanks
    repeat' split
    all_goals try dsimp only
    all_goals repeat' (first | rfl | rw [pd_upI_ne (by omega)] | rw [um_L] | rw [um_R] | rw [ih])
theorem zf_f_X12_run (c : Int) (s : Int) : ∀ (k : Nat) (x1 : Int) (H : hH), (f_X12_run c s k x1 H).2.1 29 15 = H.1 29 15 := by
  intro k
  induction k with
  | zero => intros; rfl
  | succ k ih =>
    intros
    unfold f_X12_run
    repeat' split
    all_goals try dsimp only
    all_goals repeat' (first | rfl | rw [pd_upI_ne (by omega)] | rw [um_L] | rw [um_R] | rw [zf_f_X12_blanks] | rw [ih])
theorem zf_f_X12_nxEnd (c : Int) (s : Int) (a : Int) (H : hH) : (f_X12_nxEnd c s a H).1 29 15 = H.1 29 15 := by
  unfold f_X12_nxEnd
  repeat' split
  all_goals try dsimp only
  all_goals repeat' (first | rfl | rw [pd_upI_ne (by omega)] | rw [um_L] | rw [um_R] | rw [zf_f_X12_blanks] | rw [zf_f_X12_run])
theorem zf_f_X12_nx2 (H : hH) : (f_X12_nx2 H).1 29 15 = H.1 29 15 := by
  unfold f_X12_nx2
  repeat' split
  all_goals try dsimp only
  all_goals repeat' (first | rfl | rw [pd_upI_ne (by omega)] | rw [um_L] | rw [um_R] | rw [zf_f_X12_blanks] | rw [zf_f_X12_run] | rw [zf_f_X12_nxEnd])
theorem zf_f_X12_next (H : hH) : (f_X12_next H).1 29 15 = H.1 29 15 := by
  unfold f_X12_next
  repeat' split
  all_goals try dsimp only
  all_goals repeat' (first | rfl | rw [pd_upI_ne (by omega)] | rw [um_L] | rw [um_R] | rw [zf_f_X12_blanks] | rw [zf_f_X12_run] | rw [zf_f_X12_nxEnd] | rw [zf_f_X12_nx2])
theorem zf_f_X12_taken (a1 : Int) (H : hH) : (f_X12_taken a1 H).1 29 15 = H.1 29 15 := by
  unfold f_X12_taken
  repeat' split
  all_goals try dsimp only
  all_goals repeat' (first | rfl | rw [pd_upI_ne (by omega)] | rw [um_L] | rw [um_R] | rw [zf_f_X12_blanks] | rw [zf_f_X12_run] | rw [zf_f_X12_nxEnd] | rw [zf_f_X12_nx2] | rw [zf_f_X12_next])
theorem zf_f_X12_code (a1 : Int) (a2 : Int) (a3 : Int) (H : hH) : (f_X12_code a1 a2 a3 H).1 29 15 = H.1 29 15 := by
  unfold f_X12_code
  repeat' split
  all_goals try dsimp only
  all_goals repeat' (first | rfl | rw [pd_upI_ne (by omega)] | rw [um_L] | rw [um_R] | rw [zf_f_X12_blanks] | rw [zf_f_X12_run] | rw [zf_f_X12_nxEnd] | rw [zf_f_X12_nx2] | rw [zf_f_X12_next] | rw [zf_f_X12_taken])
theorem zf_f_X12_ntl  : ∀ (k : Nat) (H : hH), (f_X12_ntl  k H).1 29 15 = H.1 29 15 := by
  intro k
  induction k with
  | zero => intros; rfl
  | succ k ih =>
    intros
    unfold f_X12_ntl
    repeat' split
    all_goals try dsimp only
    all_goals repeat' (first | rfl | rw [pd_upI_ne (by omega)] | rw [um_L] | rw [um_R] | rw [zf_f_X12_blanks] | rw [zf_f_X12_run] | rw [zf_f_X12_nxEnd] | rw [zf_f_X12_nx2] | rw [zf_f_X12_next] | rw [zf_f_X12_taken] | rw [zf_f_X12_code] | rw [ih])
theorem zf_f_X12_nots (H : hH) : (f_X12_nots H).1 29 15 = H.1 29 15 := by
  unfold f_X12_nots
  repeat' split
  all_goals try dsimp only
  all_goals repeat' (first | rfl | rw [pd_upI_ne (by omega)] | rw [um_L] | rw [um_R] | rw [zf_f_X12_blanks] | rw [zf_f_X12_run] | rw [zf_f_X12_nxEnd] | rw [zf_f_X12_nx2] | rw [zf_f_X12_next] | rw [zf_f_X12_taken] | rw [zf_f_X12_code] | rw [zf_f_X12_ntl])
theorem zf_f_X12_jnl (a1 : Int) : ∀ (k : Nat) (H : hH), (f_X12_jnl a1 k H).1 29 15 = H.1 29 15 := by
  intro k
  induction k with
  | zero => intros; rfl
  | succ k ih =>
    intros
    unfold f_X12_jnl
    repeat' split
    all_goals try dsimp only
    all_goals repeat' (first | rfl | rw [pd_upI_ne (by omega)] | rw [um_L] | rw [um_R] | rw [zf_f_X12_blanks] | rw [zf_f_X12_run] | rw [zf_f_X12_nxEnd] | rw [zf_f_X12_nx2] | rw [zf_f_X12_next] | rw [zf_f_X12_taken] | rw [zf_f_X12_code] | rw [zf_f_X12_ntl] | rw [zf_f_X12_nots] | rw [ih])
theorem zf_f_X12_joins (a1 : Int) (H : hH) : (f_X12_joins a1 H).1 29 15 = H.1 29 15 := by
  unfold f_X12_joins
  repeat' split
  all_goals try dsimp only
  all_goals repeat' (first | rfl | rw [pd_upI_ne (by omega)] | rw [um_L] | rw [um_R] | rw [zf_f_X12_blanks] | rw [zf_f_X12_run] | rw [zf_f_X12_nxEnd] | rw [zf_f_X12_nx2] | rw [zf_f_X12_next] | rw [zf_f_X12_taken] | rw [zf_f_X12_code] | rw [zf_f_X12_ntl] | rw [zf_f_X12_nots] | rw [zf_f_X12_jnl])
theorem zf_f_X12_dz  : ∀ (k : Nat) (x1 : Int) (H : hH), (f_X12_dz  k x1 H).2.1 29 15 = H.1 29 15 := by
  intro k
  induction k with
  | zero => intros; rfl
  | succ k ih =>
    intros
    unfold f_X12_dz
    repeat' split
    all_goals try dsimp only
    all_goals repeat' (first | rfl | rw [pd_upI_ne (by omega)] | rw [um_L] | rw [um_R] | rw [zf_f_X12_blanks] | rw [zf_f_X12_run] | rw [zf_f_X12_nxEnd] | rw [zf_f_X12_nx2] | rw [zf_f_X12_next] | rw [zf_f_X12_taken] | rw [zf_f_X12_code] | rw [zf_f_X12_ntl] | rw [zf_f_X12_nots] | rw [zf_f_X12_jnl] | rw [zf_f_X12_joins] | rw [ih])
theorem zf_f_X12_dc  : ∀ (k : Nat) (x1 : Int) (H : hH), (f_X12_dc  k x1 H).2.1 29 15 = H.1 29 15 := by
  intro k
  induction k with
  | zero => intros; rfl
  | succ k ih =>
    intros
    unfold f_X12_dc
    repeat' split
    all_goals try dsimp only
    all_goals repeat' (first | rfl | rw [pd_upI_ne (by omega)] | rw [um_L] | rw [um_R] | rw [zf_f_X12_blanks] | rw [zf_f_X12_run] | rw [zf_f_X12_nxEnd] | rw [zf_f_X12_nx2] | rw [zf_f_X12_next] | rw [zf_f_X12_taken] | rw [zf_f_X12_code] | rw [zf_f_X12_ntl] | rw [zf_f_X12_nots] | rw [zf_f_X12_jnl] | rw [zf_f_X12_joins] | rw [zf_f_X12_dz] | rw [ih])
theorem zf_f_X12_dn  : ∀ (k : Nat) (x1 : Int) (H : hH), (f_X12_dn  k x1 H).2.1 29 15 = H.1 29 15 := by
  intro k
  induction k with
  | zero => intros; rfl
  | succ k ih =>
    intros
    unfold f_X12_dn
    repeat' split
    all_goals try dsimp only
    all_goals repeat' (first | rfl | rw [pd_upI_ne (by omega)] | rw [um_L] | rw [um_R] | rw [zf_f_X12_blanks] | rw [zf_f_X12_run] | rw [zf_f_X12_nxEnd] | rw [zf_f_X12_nx2] | rw [zf_f_X12_next] | rw [zf_f_X12_taken] | rw [zf_f_X12_code] | rw [zf_f_X12_ntl] | rw [zf_f_X12_nots] | rw [zf_f_X12_jnl] | rw [zf_f_X12_joins] | rw [zf_f_X12_dz] | rw [zf_f_X12_dc] | rw [ih])
theorem zf_f_X12_dl  : ∀ (k : Nat) (x1 : Int) (H : hH), (f_X12_dl  k x1 H).2.1 29 15 = H.1 29 15 := by
  intro k
  induction k with
  | zero => intros; rfl
  | succ k ih =>
    intros
    unfold f_X12_dl
    repeat' split
    all_goals try dsimp only
    all_goals repeat' (first | rfl | rw [pd_upI_ne (by omega)] | rw [um_L] | rw [um_R] | rw [zf_f_X12_blanks] | rw [zf_f_X12_run] | rw [zf_f_X12_nxEnd] | rw [zf_f_X12_nx2] | rw [zf_f_X12_next] | rw [zf_f_X12_taken] | rw [zf_f_X12_code] | rw [zf_f_X12_ntl] | rw [zf_f_X12_nots] | rw [zf_f_X12_jnl] | rw [zf_f_X12_joins] | rw [zf_f_X12_dz] | rw [zf_f_X12_dc] | rw [zf_f_X12_dn] | rw [ih])
theorem zf_f_X12_dtail (H : hH) : (f_X12_dtail H).2.1 29 15 = H.1 29 15 := by
  unfold f_X12_dtail
  repeat' split
  all_goals try dsimp only
  all_goals repeat' (first | rfl | rw [pd_upI_ne (by omega)] | rw [um_L] | rw [um_R] | rw [zf_f_X12_blanks] | rw [zf_f_X12_run] | rw [zf_f_X12_nxEnd] | rw [zf_f_X12_nx2] | rw [zf_f_X12_next] | rw [zf_f_X12_taken] | rw [zf_f_X12_code] | rw [zf_f_X12_ntl] | rw [zf_f_X12_nots] | rw [zf_f_X12_jnl] | rw [zf_f_X12_joins] | rw [zf_f_X12_dz] | rw [zf_f_X12_dc] | rw [zf_f_X12_dn] | rw [zf_f_X12_dl])
theorem zf_f_X12_scp (w1 : Int) : ∀ (k : Nat) (x1 : Int) (H : hH), (f_X12_scp w1 k x1 H).2.1 29 15 = H.1 29 15 := by
  intro k
  induction k with
  | zero => intros; rfl
  | succ k ih =>
    intros
    unfold f_X12_scp
    repeat' split
    all_goals try dsimp only
    all_goals repeat' (first | rfl | rw [pd_upI_ne (by omega)] | rw [um_L] | rw [um_R] | rw [zf_f_X12_blanks] | rw [zf_f_X12_run] | rw [zf_f_X12_nxEnd] | rw [zf_f_X12_nx2] | rw [zf_f_X12_next] | rw [zf_f_X12_taken] | rw [zf_f_X12_code] | rw [zf_f_X12_ntl] | rw [zf_f_X12_nots] | rw [zf_f_X12_jnl] | rw [zf_f_X12_joins] | rw [zf_f_X12_dz] | rw [zf_f_X12_dc] | rw [zf_f_X12_dn] | rw [zf_f_X12_dl] | rw [zf_f_X12_dtail] | rw [ih])
theorem zf_f_X12_stail (w1 : Int) (H : hH) : (f_X12_stail w1 H).2.1 29 15 = H.1 29 15 := by
  unfold f_X12_stail
  repeat' split
  all_goals try dsimp only
  all_goals repeat' (first | rfl | rw [pd_upI_ne (by omega)] | rw [um_L] | rw [um_R] | rw [zf_f_X12_blanks] | rw [zf_f_X12_run] | rw [zf_f_X12_nxEnd] | rw [zf_f_X12_nx2] | rw [zf_f_X12_next] | rw [zf_f_X12_taken] | rw [zf_f_X12_code] | rw [zf_f_X12_ntl] | rw [zf_f_X12_nots] | rw [zf_f_X12_jnl] | rw [zf_f_X12_joins] | rw [zf_f_X12_dz] | rw [zf_f_X12_dc] | rw [zf_f_X12_dn] | rw [zf_f_X12_dl] | rw [zf_f_X12_dtail] | rw [zf_f_X12_scp])
set_option maxHeartbeats 8000000 in
theorem zf_f_X12_sign (a1 : Int) (H : hH) : (f_X12_sign a1 H).1 = 0 ∨ (f_X12_sign a1 H).2.1 29 15 = H.1 29 15 := by
  unfold f_X12_sign
  repeat' split
  all_goals first
    | exact Or.inl rfl
    | exact absurd rfl ‹¬ (f_X12_bad _ _).1 = 0›
    | (right
       try dsimp only
       repeat' (first | rfl | rw [pd_upI_ne (by omega)] | rw [um_L] | rw [um_R] | rw [zf_f_X12_blanks] | rw [zf_f_X12_run] | rw [zf_f_X12_nxEnd] | rw [zf_f_X12_nx2] | rw [zf_f_X12_next] | rw [zf_f_X12_taken] | rw [zf_f_X12_code] | rw [zf_f_X12_ntl] | rw [zf_f_X12_nots] | rw [zf_f_X12_jnl] | rw [zf_f_X12_joins] | rw [zf_f_X12_dz] | rw [zf_f_X12_dc] | rw [zf_f_X12_dn] | rw [zf_f_X12_dl] | rw [zf_f_X12_dtail] | rw [zf_f_X12_scp] | rw [zf_f_X12_stail])
       done)
set_option maxHeartbeats 8000000 in
theorem zf_f_X12_takes (a1 : Int) (a2 : Int) (H : hH) : (f_X12_takes a1 a2 H).1 = 0 ∨ (f_X12_takes a1 a2 H).2.1 29 15 = H.1 29 15 := by
  unfold f_X12_takes
  repeat' split
  all_goals first
    | exact Or.inl rfl
    | exact absurd rfl ‹¬ (f_X12_bad _ _).1 = 0›
    | (right
       try dsimp only
       repeat' (first | rfl | rw [pd_upI_ne (by omega)] | rw [um_L] | rw [um_R] | rw [zf_f_X12_blanks] | rw [zf_f_X12_run] | rw [zf_f_X12_nxEnd] | rw [zf_f_X12_nx2] | rw [zf_f_X12_next] | rw [zf_f_X12_taken] | rw [zf_f_X12_code] | rw [zf_f_X12_ntl] | rw [zf_f_X12_nots] | rw [zf_f_X12_jnl] | rw [zf_f_X12_joins] | rw [zf_f_X12_dz] | rw [zf_f_X12_dc] | rw [zf_f_X12_dn] | rw [zf_f_X12_dl] | rw [zf_f_X12_dtail] | rw [zf_f_X12_scp] | rw [zf_f_X12_stail] | rw [(zf_f_X12_sign _ _).resolve_left (by assumption)])
       done)
set_option maxHeartbeats 8000000 in
theorem zf_f_X12_puts (a1 : Int) (a2 : Int) (a3 : Int) (H : hH) : (f_X12_puts a1 a2 a3 H).1 = 0 ∨ (f_X12_puts a1 a2 a3 H).2.1 29 15 = H.1 29 15 := by
  unfold f_X12_puts
  repeat' split
  all_goals first
    | exact Or.inl rfl
    | exact absurd rfl ‹¬ (f_X12_bad _ _).1 = 0›
    | (refine Or.imp id (fun e => e.trans ?_) (zf_f_X12_takes _ _ _)
       repeat' (first | rfl | rw [pd_upI_ne (by omega)] | rw [um_L] | rw [um_R] | rw [zf_f_X12_blanks] | rw [zf_f_X12_run] | rw [zf_f_X12_nxEnd] | rw [zf_f_X12_nx2] | rw [zf_f_X12_next] | rw [zf_f_X12_taken] | rw [zf_f_X12_code] | rw [zf_f_X12_ntl] | rw [zf_f_X12_nots] | rw [zf_f_X12_jnl] | rw [zf_f_X12_joins] | rw [zf_f_X12_dz] | rw [zf_f_X12_dc] | rw [zf_f_X12_dn] | rw [zf_f_X12_dl] | rw [zf_f_X12_dtail] | rw [zf_f_X12_scp] | rw [zf_f_X12_stail] | rw [(zf_f_X12_sign _ _).resolve_left (by assumption)] | rw [(zf_f_X12_takes _ _ _).resolve_left (by assumption)])
       done)
    | (right
       try dsimp only
       repeat' (first | rfl | rw [pd_upI_ne (by omega)] | rw [um_L] | rw [um_R] | rw [zf_f_X12_blanks] | rw [zf_f_X12_run] | rw [zf_f_X12_nxEnd] | rw [zf_f_X12_nx2] | rw [zf_f_X12_next] | rw [zf_f_X12_taken] | rw [zf_f_X12_code] | rw [zf_f_X12_ntl] | rw [zf_f_X12_nots] | rw [zf_f_X12_jnl] | rw [zf_f_X12_joins] | rw [zf_f_X12_dz] | rw [zf_f_X12_dc] | rw [zf_f_X12_dn] | rw [zf_f_X12_dl] | rw [zf_f_X12_dtail] | rw [zf_f_X12_scp] | rw [zf_f_X12_stail] | rw [(zf_f_X12_sign _ _).resolve_left (by assumption)] | rw [(zf_f_X12_takes _ _ _).resolve_left (by assumption)])
       done)
set_option maxHeartbeats 8000000 in
theorem zf_f_X12_fresh (a1 : Int) (H : hH) : (f_X12_fresh a1 H).1 = 0 ∨ (f_X12_fresh a1 H).2.1 29 15 = H.1 29 15 := by
  unfold f_X12_fresh
  repeat' split
  all_goals first
    | exact Or.inl rfl
    | exact absurd rfl ‹¬ (f_X12_bad _ _).1 = 0›
    | (right
       try dsimp only
       repeat' (first | rfl | rw [pd_upI_ne (by omega)] | rw [um_L] | rw [um_R] | rw [zf_f_X12_blanks] | rw [zf_f_X12_run] | rw [zf_f_X12_nxEnd] | rw [zf_f_X12_nx2] | rw [zf_f_X12_next] | rw [zf_f_X12_taken] | rw [zf_f_X12_code] | rw [zf_f_X12_ntl] | rw [zf_f_X12_nots] | rw [zf_f_X12_jnl] | rw [zf_f_X12_joins] | rw [zf_f_X12_dz] | rw [zf_f_X12_dc] | rw [zf_f_X12_dn] | rw [zf_f_X12_dl] | rw [zf_f_X12_dtail] | rw [zf_f_X12_scp] | rw [zf_f_X12_stail] | rw [(zf_f_X12_sign _ _).resolve_left (by assumption)] | rw [(zf_f_X12_takes _ _ _).resolve_left (by assumption)] | rw [(zf_f_X12_puts _ _ _ _).resolve_left (by assumption)])
       done)
set_option maxHeartbeats 8000000 in
theorem zf_f_X12_looksAt (a1 : Int) (a2 : Int) (H : hH) : (f_X12_looksAt a1 a2 H).1 = 0 ∨ (f_X12_looksAt a1 a2 H).2.1 29 15 = H.1 29 15 := by
  unfold f_X12_looksAt
  repeat' split
  all_goals first
    | exact Or.inl rfl
    | exact absurd rfl ‹¬ (f_X12_bad _ _).1 = 0›
    | (right
       try dsimp only
       repeat' (first | rfl | rw [pd_upI_ne (by omega)] | rw [um_L] | rw [um_R] | rw [zf_f_X12_blanks] | rw [zf_f_X12_run] | rw [zf_f_X12_nxEnd] | rw [zf_f_X12_nx2] | rw [zf_f_X12_next] | rw [zf_f_X12_taken] | rw [zf_f_X12_code] | rw [zf_f_X12_ntl] | rw [zf_f_X12_nots] | rw [zf_f_X12_jnl] | rw [zf_f_X12_joins] | rw [zf_f_X12_dz] | rw [zf_f_X12_dc] | rw [zf_f_X12_dn] | rw [zf_f_X12_dl] | rw [zf_f_X12_dtail] | rw [zf_f_X12_scp] | rw [zf_f_X12_stail] | rw [(zf_f_X12_sign _ _).resolve_left (by assumption)] | rw [(zf_f_X12_takes _ _ _).resolve_left (by assumption)] | rw [(zf_f_X12_puts _ _ _ _).resolve_left (by assumption)] | rw [(zf_f_X12_fresh _ _).resolve_left (by assumption)])
       done)
set_option maxHeartbeats 8000000 in
theorem zf_f_X12_takesName (a1 : Int) (a2 : Int) (H : hH) : (f_X12_takesName a1 a2 H).1 = 0 ∨ (f_X12_takesName a1 a2 H).2.1 29 15 = H.1 29 15 := by
  unfold f_X12_takesName
  repeat' split
  all_goals first
    | exact Or.inl rfl
    | exact absurd rfl ‹¬ (f_X12_bad _ _).1 = 0›
    | (refine Or.imp id (fun e => e.trans ?_) (zf_f_X12_looksAt _ _ _)
       repeat' (first | rfl | rw [pd_upI_ne (by omega)] | rw [um_L] | rw [um_R] | rw [zf_f_X12_blanks] | rw [zf_f_X12_run] | rw [zf_f_X12_nxEnd] | rw [zf_f_X12_nx2] | rw [zf_f_X12_next] | rw [zf_f_X12_taken] | rw [zf_f_X12_code] | rw [zf_f_X12_ntl] | rw [zf_f_X12_nots] | rw [zf_f_X12_jnl] | rw [zf_f_X12_joins] | rw [zf_f_X12_dz] | rw [zf_f_X12_dc] | rw [zf_f_X12_dn] | rw [zf_f_X12_dl] | rw [zf_f_X12_dtail] | rw [zf_f_X12_scp] | rw [zf_f_X12_stail] | rw [(zf_f_X12_sign _ _).resolve_left (by assumption)] | rw [(zf_f_X12_takes _ _ _).resolve_left (by assumption)] | rw [(zf_f_X12_puts _ _ _ _).resolve_left (by assumption)] | rw [(zf_f_X12_fresh _ _).resolve_left (by assumption)] | rw [(zf_f_X12_looksAt _ _ _).resolve_left (by assumption)])
       done)
    | (right
       try dsimp only
       repeat' (first | rfl | rw [pd_upI_ne (by omega)] | rw [um_L] | rw [um_R] | rw [zf_f_X12_blanks] | rw [zf_f_X12_run] | rw [zf_f_X12_nxEnd] | rw [zf_f_X12_nx2] | rw [zf_f_X12_next] | rw [zf_f_X12_taken] | rw [zf_f_X12_code] | rw [zf_f_X12_ntl] | rw [zf_f_X12_nots] | rw [zf_f_X12_jnl] | rw [zf_f_X12_joins] | rw [zf_f_X12_dz] | rw [zf_f_X12_dc] | rw [zf_f_X12_dn] | rw [zf_f_X12_dl] | rw [zf_f_X12_dtail] | rw [zf_f_X12_scp] | rw [zf_f_X12_stail] | rw [(zf_f_X12_sign _ _).resolve_left (by assumption)] | rw [(zf_f_X12_takes _ _ _).resolve_left (by assumption)] | rw [(zf_f_X12_puts _ _ _ _).resolve_left (by assumption)] | rw [(zf_f_X12_fresh _ _).resolve_left (by assumption)] | rw [(zf_f_X12_looksAt _ _ _).resolve_left (by assumption)])
       done)
set_option maxHeartbeats 8000000 in
theorem zf_f_X12_readName (a1 : Int) (a2 : Int) (a3 : Int) (H : hH) : (f_X12_readName a1 a2 a3 H).1 = 0 ∨ (f_X12_readName a1 a2 a3 H).2.1 29 15 = H.1 29 15 := by
  unfold f_X12_readName
  repeat' split
  all_goals first
    | exact Or.inl rfl
    | exact absurd rfl ‹¬ (f_X12_bad _ _).1 = 0›
    | (refine Or.imp id (fun e => e.trans ?_) (zf_f_X12_fresh _ _)
       repeat' (first | rfl | rw [pd_upI_ne (by omega)] | rw [um_L] | rw [um_R] | rw [zf_f_X12_blanks] | rw [zf_f_X12_run] | rw [zf_f_X12_nxEnd] | rw [zf_f_X12_nx2] | rw [zf_f_X12_next] | rw [zf_f_X12_taken] | rw [zf_f_X12_code] | rw [zf_f_X12_ntl] | rw [zf_f_X12_nots] | rw [zf_f_X12_jnl] | rw [zf_f_X12_joins] | rw [zf_f_X12_dz] | rw [zf_f_X12_dc] | rw [zf_f_X12_dn] | rw [zf_f_X12_dl] | rw [zf_f_X12_dtail] | rw [zf_f_X12_scp] | rw [zf_f_X12_stail] | rw [(zf_f_X12_sign _ _).resolve_left (by assumption)] | rw [(zf_f_X12_takes _ _ _).resolve_left (by assumption)] | rw [(zf_f_X12_puts _ _ _ _).resolve_left (by assumption)] | rw [(zf_f_X12_fresh _ _).resolve_left (by assumption)] | rw [(zf_f_X12_looksAt _ _ _).resolve_left (by assumption)] | rw [(zf_f_X12_takesName _ _ _).resolve_left (by assumption)])
       done)
    | (right
       try dsimp only
       repeat' (first | rfl | rw [pd_upI_ne (by omega)] | rw [um_L] | rw [um_R] | rw [zf_f_X12_blanks] | rw [zf_f_X12_run] | rw [zf_f_X12_nxEnd] | rw [zf_f_X12_nx2] | rw [zf_f_X12_next] | rw [zf_f_X12_taken] | rw [zf_f_X12_code] | rw [zf_f_X12_ntl] | rw [zf_f_X12_nots] | rw [zf_f_X12_jnl] | rw [zf_f_X12_joins] | rw [zf_f_X12_dz] | rw [zf_f_X12_dc] | rw [zf_f_X12_dn] | rw [zf_f_X12_dl] | rw [zf_f_X12_dtail] | rw [zf_f_X12_scp] | rw [zf_f_X12_stail] | rw [(zf_f_X12_sign _ _).resolve_left (by assumption)] | rw [(zf_f_X12_takes _ _ _).resolve_left (by assumption)] | rw [(zf_f_X12_puts _ _ _ _).resolve_left (by assumption)] | rw [(zf_f_X12_fresh _ _).resolve_left (by assumption)] | rw [(zf_f_X12_looksAt _ _ _).resolve_left (by assumption)] | rw [(zf_f_X12_takesName _ _ _).resolve_left (by assumption)])
       done)
set_option maxHeartbeats 8000000 in
theorem zf_f_X12_readPerson (H : hH) : (f_X12_readPerson H).1 = 0 ∨ (f_X12_readPerson H).2.1 29 15 = H.1 29 15 := by
  unfold f_X12_readPerson
  repeat' split
  all_goals first
    | exact Or.inl rfl
    | exact absurd rfl ‹¬ (f_X12_bad _ _).1 = 0›
    | (refine Or.imp id (fun e => e.trans ?_) (zf_f_X12_takes _ _ _)
       repeat' (first | rfl | rw [pd_upI_ne (by omega)] | rw [um_L] | rw [um_R] | rw [zf_f_X12_blanks] | rw [zf_f_X12_run] | rw [zf_f_X12_nxEnd] | rw [zf_f_X12_nx2] | rw [zf_f_X12_next] | rw [zf_f_X12_taken] | rw [zf_f_X12_code] | rw [zf_f_X12_ntl] | rw [zf_f_X12_nots] | rw [zf_f_X12_jnl] | rw [zf_f_X12_joins] | rw [zf_f_X12_dz] | rw [zf_f_X12_dc] | rw [zf_f_X12_dn] | rw [zf_f_X12_dl] | rw [zf_f_X12_dtail] | rw [zf_f_X12_scp] | rw [zf_f_X12_stail] | rw [(zf_f_X12_sign _ _).resolve_left (by assumption)] | rw [(zf_f_X12_takes _ _ _).resolve_left (by assumption)] | rw [(zf_f_X12_puts _ _ _ _).resolve_left (by assumption)] | rw [(zf_f_X12_fresh _ _).resolve_left (by assumption)] | rw [(zf_f_X12_looksAt _ _ _).resolve_left (by assumption)] | rw [(zf_f_X12_takesName _ _ _).resolve_left (by assumption)] | rw [(zf_f_X12_readName _ _ _ _).resolve_left (by assumption)])
       done)
    | (refine Or.imp id (fun e => e.trans ?_) (zf_f_X12_puts _ _ _ _)
       repeat' (first | rfl | rw [pd_upI_ne (by omega)] | rw [um_L] | rw [um_R] | rw [zf_f_X12_blanks] | rw [zf_f_X12_run] | rw [zf_f_X12_nxEnd] | rw [zf_f_X12_nx2] | rw [zf_f_X12_next] | rw [zf_f_X12_taken] | rw [zf_f_X12_code] | rw [zf_f_X12_ntl] | rw [zf_f_X12_nots] | rw [zf_f_X12_jnl] | rw [zf_f_X12_joins] | rw [zf_f_X12_dz] | rw [zf_f_X12_dc] | rw [zf_f_X12_dn] | rw [zf_f_X12_dl] | rw [zf_f_X12_dtail] | rw [zf_f_X12_scp] | rw [zf_f_X12_stail] | rw [(zf_f_X12_sign _ _).resolve_left (by assumption)] | rw [(zf_f_X12_takes _ _ _).resolve_left (by assumption)] | rw [(zf_f_X12_puts _ _ _ _).resolve_left (by assumption)] | rw [(zf_f_X12_fresh _ _).resolve_left (by assumption)] | rw [(zf_f_X12_looksAt _ _ _).resolve_left (by assumption)] | rw [(zf_f_X12_takesName _ _ _).resolve_left (by assumption)] | rw [(zf_f_X12_readName _ _ _ _).resolve_left (by assumption)])
       done)
    | (refine Or.imp id (fun e => e.trans ?_) (zf_f_X12_fresh _ _)
       repeat' (first | rfl | rw [pd_upI_ne (by omega)] | rw [um_L] | rw [um_R] | rw [zf_f_X12_blanks] | rw [zf_f_X12_run] | rw [zf_f_X12_nxEnd] | rw [zf_f_X12_nx2] | rw [zf_f_X12_next] | rw [zf_f_X12_taken] | rw [zf_f_X12_code] | rw [zf_f_X12_ntl] | rw [zf_f_X12_nots] | rw [zf_f_X12_jnl] | rw [zf_f_X12_joins] | rw [zf_f_X12_dz] | rw [zf_f_X12_dc] | rw [zf_f_X12_dn] | rw [zf_f_X12_dl] | rw [zf_f_X12_dtail] | rw [zf_f_X12_scp] | rw [zf_f_X12_stail] | rw [(zf_f_X12_sign _ _).resolve_left (by assumption)] | rw [(zf_f_X12_takes _ _ _).resolve_left (by assumption)] | rw [(zf_f_X12_puts _ _ _ _).resolve_left (by assumption)] | rw [(zf_f_X12_fresh _ _).resolve_left (by assumption)] | rw [(zf_f_X12_looksAt _ _ _).resolve_left (by assumption)] | rw [(zf_f_X12_takesName _ _ _).resolve_left (by assumption)] | rw [(zf_f_X12_readName _ _ _ _).resolve_left (by assumption)])
       done)
    | (refine Or.imp id (fun e => e.trans ?_) (zf_f_X12_takesName _ _ _)
       repeat' (first | rfl | rw [pd_upI_ne (by omega)] | rw [um_L] | rw [um_R] | rw [zf_f_X12_blanks] | rw [zf_f_X12_run] | rw [zf_f_X12_nxEnd] | rw [zf_f_X12_nx2] | rw [zf_f_X12_next] | rw [zf_f_X12_taken] | rw [zf_f_X12_code] | rw [zf_f_X12_ntl] | rw [zf_f_X12_nots] | rw [zf_f_X12_jnl] | rw [zf_f_X12_joins] | rw [zf_f_X12_dz] | rw [zf_f_X12_dc] | rw [zf_f_X12_dn] | rw [zf_f_X12_dl] | rw [zf_f_X12_dtail] | rw [zf_f_X12_scp] | rw [zf_f_X12_stail] | rw [(zf_f_X12_sign _ _).resolve_left (by assumption)] | rw [(zf_f_X12_takes _ _ _).resolve_left (by assumption)] | rw [(zf_f_X12_puts _ _ _ _).resolve_left (by assumption)] | rw [(zf_f_X12_fresh _ _).resolve_left (by assumption)] | rw [(zf_f_X12_looksAt _ _ _).resolve_left (by assumption)] | rw [(zf_f_X12_takesName _ _ _).resolve_left (by assumption)] | rw [(zf_f_X12_readName _ _ _ _).resolve_left (by assumption)])
       done)
    | (right
       try dsimp only
       repeat' (first | rfl | rw [pd_upI_ne (by omega)] | rw [um_L] | rw [um_R] | rw [zf_f_X12_blanks] | rw [zf_f_X12_run] | rw [zf_f_X12_nxEnd] | rw [zf_f_X12_nx2] | rw [zf_f_X12_next] | rw [zf_f_X12_taken] | rw [zf_f_X12_code] | rw [zf_f_X12_ntl] | rw [zf_f_X12_nots] | rw [zf_f_X12_jnl] | rw [zf_f_X12_joins] | rw [zf_f_X12_dz] | rw [zf_f_X12_dc] | rw [zf_f_X12_dn] | rw [zf_f_X12_dl] | rw [zf_f_X12_dtail] | rw [zf_f_X12_scp] | rw [zf_f_X12_stail] | rw [(zf_f_X12_sign _ _).resolve_left (by assumption)] | rw [(zf_f_X12_takes _ _ _).resolve_left (by assumption)] | rw [(zf_f_X12_puts _ _ _ _).resolve_left (by assumption)] | rw [(zf_f_X12_fresh _ _).resolve_left (by assumption)] | rw [(zf_f_X12_looksAt _ _ _).resolve_left (by assumption)] | rw [(zf_f_X12_takesName _ _ _).resolve_left (by assumption)] | rw [(zf_f_X12_readName _ _ _ _).resolve_left (by assumption)])
       done)
set_option maxHeartbeats 8000000 in
theorem zf_f_X12_pair (a1 : Int) (a2 : Int) (a3 : Int) (H : hH) : (f_X12_pair a1 a2 a3 H).1 = 0 ∨ (f_X12_pair a1 a2 a3 H).2.1 29 15 = H.1 29 15 := by
  unfold f_X12_pair
  repeat' split
  all_goals first
    | exact Or.inl rfl
    | exact absurd rfl ‹¬ (f_X12_bad _ _).1 = 0›
    | (refine Or.imp id (fun e => e.trans ?_) (zf_f_X12_takes _ _ _)
       repeat' (first | rfl | rw [pd_upI_ne (by omega)] | rw [um_L] | rw [um_R] | rw [zf_f_X12_blanks] | rw [zf_f_X12_run] | rw [zf_f_X12_nxEnd] | rw [zf_f_X12_nx2] | rw [zf_f_X12_next] | rw [zf_f_X12_taken] | rw [zf_f_X12_code] | rw [zf_f_X12_ntl] | rw [zf_f_X12_nots] | rw [zf_f_X12_jnl] | rw [zf_f_X12_joins] | rw [zf_f_X12_dz] | rw [zf_f_X12_dc] | rw [zf_f_X12_dn] | rw [zf_f_X12_dl] | rw [zf_f_X12_dtail] | rw [zf_f_X12_scp] | rw [zf_f_X12_stail] | rw [(zf_f_X12_sign _ _).resolve_left (by assumption)] | rw [(zf_f_X12_takes _ _ _).resolve_left (by assumption)] | rw [(zf_f_X12_puts _ _ _ _).resolve_left (by assumption)] | rw [(zf_f_X12_fresh _ _).resolve_left (by assumption)] | rw [(zf_f_X12_looksAt _ _ _).resolve_left (by assumption)] | rw [(zf_f_X12_takesName _ _ _).resolve_left (by assumption)] | rw [(zf_f_X12_readName _ _ _ _).resolve_left (by assumption)] | rw [(zf_f_X12_readPerson _).resolve_left (by assumption)])
       done)
    | (refine Or.imp id (fun e => e.trans ?_) (zf_f_X12_looksAt _ _ _)
       repeat' (first | rfl | rw [pd_upI_ne (by omega)] | rw [um_L] | rw [um_R] | rw [zf_f_X12_blanks] | rw [zf_f_X12_run] | rw [zf_f_X12_nxEnd] | rw [zf_f_X12_nx2] | rw [zf_f_X12_next] | rw [zf_f_X12_taken] | rw [zf_f_X12_code] | rw [zf_f_X12_ntl] | rw [zf_f_X12_nots] | rw [zf_f_X12_jnl] | rw [zf_f_X12_joins] | rw [zf_f_X12_dz] | rw [zf_f_X12_dc] | rw [zf_f_X12_dn] | rw [zf_f_X12_dl] | rw [zf_f_X12_dtail] | rw [zf_f_X12_scp] | rw [zf_f_X12_stail] | rw [(zf_f_X12_sign _ _).resolve_left (by assumption)] | rw [(zf_f_X12_takes _ _ _).resolve_left (by assumption)] | rw [(zf_f_X12_puts _ _ _ _).resolve_left (by assumption)] | rw [(zf_f_X12_fresh _ _).resolve_left (by assumption)] | rw [(zf_f_X12_looksAt _ _ _).resolve_left (by assumption)] | rw [(zf_f_X12_takesName _ _ _).resolve_left (by assumption)] | rw [(zf_f_X12_readName _ _ _ _).resolve_left (by assumption)] | rw [(zf_f_X12_readPerson _).resolve_left (by assumption)])
       done)
    | (refine Or.imp id (fun e => e.trans ?_) (zf_f_X12_takesName _ _ _)
       repeat' (first | rfl | rw [pd_upI_ne (by omega)] | rw [um_L] | rw [um_R] | rw [zf_f_X12_blanks] | rw [zf_f_X12_run] | rw [zf_f_X12_nxEnd] | rw [zf_f_X12_nx2] | rw [zf_f_X12_next] | rw [zf_f_X12_taken] | rw [zf_f_X12_code] | rw [zf_f_X12_ntl] | rw [zf_f_X12_nots] | rw [zf_f_X12_jnl] | rw [zf_f_X12_joins] | rw [zf_f_X12_dz] | rw [zf_f_X12_dc] | rw [zf_f_X12_dn] | rw [zf_f_X12_dl] | rw [zf_f_X12_dtail] | rw [zf_f_X12_scp] | rw [zf_f_X12_stail] | rw [(zf_f_X12_sign _ _).resolve_left (by assumption)] | rw [(zf_f_X12_takes _ _ _).resolve_left (by assumption)] | rw [(zf_f_X12_puts _ _ _ _).resolve_left (by assumption)] | rw [(zf_f_X12_fresh _ _).resolve_left (by assumption)] | rw [(zf_f_X12_looksAt _ _ _).resolve_left (by assumption)] | rw [(zf_f_X12_takesName _ _ _).resolve_left (by assumption)] | rw [(zf_f_X12_readName _ _ _ _).resolve_left (by assumption)] | rw [(zf_f_X12_readPerson _).resolve_left (by assumption)])
       done)
    | (right
       try dsimp only
       repeat' (first | rfl | rw [pd_upI_ne (by omega)] | rw [um_L] | rw [um_R] | rw [zf_f_X12_blanks] | rw [zf_f_X12_run] | rw [zf_f_X12_nxEnd] | rw [zf_f_X12_nx2] | rw [zf_f_X12_next] | rw [zf_f_X12_taken] | rw [zf_f_X12_code] | rw [zf_f_X12_ntl] | rw [zf_f_X12_nots] | rw [zf_f_X12_jnl] | rw [zf_f_X12_joins] | rw [zf_f_X12_dz] | rw [zf_f_X12_dc] | rw [zf_f_X12_dn] | rw [zf_f_X12_dl] | rw [zf_f_X12_dtail] | rw [zf_f_X12_scp] | rw [zf_f_X12_stail] | rw [(zf_f_X12_sign _ _).resolve_left (by assumption)] | rw [(zf_f_X12_takes _ _ _).resolve_left (by assumption)] | rw [(zf_f_X12_puts _ _ _ _).resolve_left (by assumption)] | rw [(zf_f_X12_fresh _ _).resolve_left (by assumption)] | rw [(zf_f_X12_looksAt _ _ _).resolve_left (by assumption)] | rw [(zf_f_X12_takesName _ _ _).resolve_left (by assumption)] | rw [(zf_f_X12_readName _ _ _ _).resolve_left (by assumption)] | rw [(zf_f_X12_readPerson _).resolve_left (by assumption)])
       done)
set_option maxHeartbeats 8000000 in
theorem zf_f_X12_readHate (H : hH) : (f_X12_readHate H).1 = 0 ∨ (f_X12_readHate H).2.1 29 15 = H.1 29 15 := by
  unfold f_X12_readHate
  repeat' split
  all_goals first
    | exact Or.inl rfl
    | exact absurd rfl ‹¬ (f_X12_bad _ _).1 = 0›
    | (refine Or.imp id (fun e => e.trans ?_) (zf_f_X12_takes _ _ _)
       repeat' (first | rfl | rw [pd_upI_ne (by omega)] | rw [um_L] | rw [um_R] | rw [zf_f_X12_blanks] | rw [zf_f_X12_run] | rw [zf_f_X12_nxEnd] | rw [zf_f_X12_nx2] | rw [zf_f_X12_next] | rw [zf_f_X12_taken] | rw [zf_f_X12_code] | rw [zf_f_X12_ntl] | rw [zf_f_X12_nots] | rw [zf_f_X12_jnl] | rw [zf_f_X12_joins] | rw [zf_f_X12_dz] | rw [zf_f_X12_dc] | rw [zf_f_X12_dn] | rw [zf_f_X12_dl] | rw [zf_f_X12_dtail] | rw [zf_f_X12_scp] | rw [zf_f_X12_stail] | rw [(zf_f_X12_sign _ _).resolve_left (by assumption)] | rw [(zf_f_X12_takes _ _ _).resolve_left (by assumption)] | rw [(zf_f_X12_puts _ _ _ _).resolve_left (by assumption)] | rw [(zf_f_X12_fresh _ _).resolve_left (by assumption)] | rw [(zf_f_X12_looksAt _ _ _).resolve_left (by assumption)] | rw [(zf_f_X12_takesName _ _ _).resolve_left (by assumption)] | rw [(zf_f_X12_readName _ _ _ _).resolve_left (by assumption)] | rw [(zf_f_X12_readPerson _).resolve_left (by assumption)] | rw [(zf_f_X12_pair _ _ _ _).resolve_left (by assumption)])
       done)
    | (refine Or.imp id (fun e => e.trans ?_) (zf_f_X12_puts _ _ _ _)
       repeat' (first | rfl | rw [pd_upI_ne (by omega)] | rw [um_L] | rw [um_R] | rw [zf_f_X12_blanks] | rw [zf_f_X12_run] | rw [zf_f_X12_nxEnd] | rw [zf_f_X12_nx2] | rw [zf_f_X12_next] | rw [zf_f_X12_taken] | rw [zf_f_X12_code] | rw [zf_f_X12_ntl] | rw [zf_f_X12_nots] | rw [zf_f_X12_jnl] | rw [zf_f_X12_joins] | rw [zf_f_X12_dz] | rw [zf_f_X12_dc] | rw [zf_f_X12_dn] | rw [zf_f_X12_dl] | rw [zf_f_X12_dtail] | rw [zf_f_X12_scp] | rw [zf_f_X12_stail] | rw [(zf_f_X12_sign _ _).resolve_left (by assumption)] | rw [(zf_f_X12_takes _ _ _).resolve_left (by assumption)] | rw [(zf_f_X12_puts _ _ _ _).resolve_left (by assumption)] | rw [(zf_f_X12_fresh _ _).resolve_left (by assumption)] | rw [(zf_f_X12_looksAt _ _ _).resolve_left (by assumption)] | rw [(zf_f_X12_takesName _ _ _).resolve_left (by assumption)] | rw [(zf_f_X12_readName _ _ _ _).resolve_left (by assumption)] | rw [(zf_f_X12_readPerson _).resolve_left (by assumption)] | rw [(zf_f_X12_pair _ _ _ _).resolve_left (by assumption)])
       done)
    | (refine Or.imp id (fun e => e.trans ?_) (zf_f_X12_looksAt _ _ _)
       repeat' (first | rfl | rw [pd_upI_ne (by omega)] | rw [um_L] | rw [um_R] | rw [zf_f_X12_blanks] | rw [zf_f_X12_run] | rw [zf_f_X12_nxEnd] | rw [zf_f_X12_nx2] | rw [zf_f_X12_next] | rw [zf_f_X12_taken] | rw [zf_f_X12_code] | rw [zf_f_X12_ntl] | rw [zf_f_X12_nots] | rw [zf_f_X12_jnl] | rw [zf_f_X12_joins] | rw [zf_f_X12_dz] | rw [zf_f_X12_dc] | rw [zf_f_X12_dn] | rw [zf_f_X12_dl] | rw [zf_f_X12_dtail] | rw [zf_f_X12_scp] | rw [zf_f_X12_stail] | rw [(zf_f_X12_sign _ _).resolve_left (by assumption)] | rw [(zf_f_X12_takes _ _ _).resolve_left (by assumption)] | rw [(zf_f_X12_puts _ _ _ _).resolve_left (by assumption)] | rw [(zf_f_X12_fresh _ _).resolve_left (by assumption)] | rw [(zf_f_X12_looksAt _ _ _).resolve_left (by assumption)] | rw [(zf_f_X12_takesName _ _ _).resolve_left (by assumption)] | rw [(zf_f_X12_readName _ _ _ _).resolve_left (by assumption)] | rw [(zf_f_X12_readPerson _).resolve_left (by assumption)] | rw [(zf_f_X12_pair _ _ _ _).resolve_left (by assumption)])
       done)
    | (refine Or.imp id (fun e => e.trans ?_) (zf_f_X12_takesName _ _ _)
       repeat' (first | rfl | rw [pd_upI_ne (by omega)] | rw [um_L] | rw [um_R] | rw [zf_f_X12_blanks] | rw [zf_f_X12_run] | rw [zf_f_X12_nxEnd] | rw [zf_f_X12_nx2] | rw [zf_f_X12_next] | rw [zf_f_X12_taken] | rw [zf_f_X12_code] | rw [zf_f_X12_ntl] | rw [zf_f_X12_nots] | rw [zf_f_X12_jnl] | rw [zf_f_X12_joins] | rw [zf_f_X12_dz] | rw [zf_f_X12_dc] | rw [zf_f_X12_dn] | rw [zf_f_X12_dl] | rw [zf_f_X12_dtail] | rw [zf_f_X12_scp] | rw [zf_f_X12_stail] | rw [(zf_f_X12_sign _ _).resolve_left (by assumption)] | rw [(zf_f_X12_takes _ _ _).resolve_left (by assumption)] | rw [(zf_f_X12_puts _ _ _ _).resolve_left (by assumption)] | rw [(zf_f_X12_fresh _ _).resolve_left (by assumption)] | rw [(zf_f_X12_looksAt _ _ _).resolve_left (by assumption)] | rw [(zf_f_X12_takesName _ _ _).resolve_left (by assumption)] | rw [(zf_f_X12_readName _ _ _ _).resolve_left (by assumption)] | rw [(zf_f_X12_readPerson _).resolve_left (by assumption)] | rw [(zf_f_X12_pair _ _ _ _).resolve_left (by assumption)])
       done)
    | (right
       try dsimp only
       repeat' (first | rfl | rw [pd_upI_ne (by omega)] | rw [um_L] | rw [um_R] | rw [zf_f_X12_blanks] | rw [zf_f_X12_run] | rw [zf_f_X12_nxEnd] | rw [zf_f_X12_nx2] | rw [zf_f_X12_next] | rw [zf_f_X12_taken] | rw [zf_f_X12_code] | rw [zf_f_X12_ntl] | rw [zf_f_X12_nots] | rw [zf_f_X12_jnl] | rw [zf_f_X12_joins] | rw [zf_f_X12_dz] | rw [zf_f_X12_dc] | rw [zf_f_X12_dn] | rw [zf_f_X12_dl] | rw [zf_f_X12_dtail] | rw [zf_f_X12_scp] | rw [zf_f_X12_stail] | rw [(zf_f_X12_sign _ _).resolve_left (by assumption)] | rw [(zf_f_X12_takes _ _ _).resolve_left (by assumption)] | rw [(zf_f_X12_puts _ _ _ _).resolve_left (by assumption)] | rw [(zf_f_X12_fresh _ _).resolve_left (by assumption)] | rw [(zf_f_X12_looksAt _ _ _).resolve_left (by assumption)] | rw [(zf_f_X12_takesName _ _ _).resolve_left (by assumption)] | rw [(zf_f_X12_readName _ _ _ _).resolve_left (by assumption)] | rw [(zf_f_X12_readPerson _).resolve_left (by assumption)] | rw [(zf_f_X12_pair _ _ _ _).resolve_left (by assumption)])
       done)
set_option maxHeartbeats 8000000 in
theorem zf_f_X12_line (H : hH) : (f_X12_line H).1 = 0 ∨ (f_X12_line H).2.1 29 15 = H.1 29 15 := by
  unfold f_X12_line
  repeat' split
  all_goals first
    | exact Or.inl rfl
    | exact absurd rfl ‹¬ (f_X12_bad _ _).1 = 0›
    | (refine Or.imp id (fun e => e.trans ?_) (zf_f_X12_puts _ _ _ _)
       repeat' (first | rfl | rw [pd_upI_ne (by omega)] | rw [um_L] | rw [um_R] | rw [zf_f_X12_blanks] | rw [zf_f_X12_run] | rw [zf_f_X12_nxEnd] | rw [zf_f_X12_nx2] | rw [zf_f_X12_next] | rw [zf_f_X12_taken] | rw [zf_f_X12_code] | rw [zf_f_X12_ntl] | rw [zf_f_X12_nots] | rw [zf_f_X12_jnl] | rw [zf_f_X12_joins] | rw [zf_f_X12_dz] | rw [zf_f_X12_dc] | rw [zf_f_X12_dn] | rw [zf_f_X12_dl] | rw [zf_f_X12_dtail] | rw [zf_f_X12_scp] | rw [zf_f_X12_stail] | rw [(zf_f_X12_sign _ _).resolve_left (by assumption)] | rw [(zf_f_X12_takes _ _ _).resolve_left (by assumption)] | rw [(zf_f_X12_puts _ _ _ _).resolve_left (by assumption)] | rw [(zf_f_X12_fresh _ _).resolve_left (by assumption)] | rw [(zf_f_X12_looksAt _ _ _).resolve_left (by assumption)] | rw [(zf_f_X12_takesName _ _ _).resolve_left (by assumption)] | rw [(zf_f_X12_readName _ _ _ _).resolve_left (by assumption)] | rw [(zf_f_X12_readPerson _).resolve_left (by assumption)] | rw [(zf_f_X12_pair _ _ _ _).resolve_left (by assumption)] | rw [(zf_f_X12_readHate _).resolve_left (by assumption)])
       done)
    | (refine Or.imp id (fun e => e.trans ?_) (zf_f_X12_fresh _ _)
       repeat' (first | rfl | rw [pd_upI_ne (by omega)] | rw [um_L] | rw [um_R] | rw [zf_f_X12_blanks] | rw [zf_f_X12_run] | rw [zf_f_X12_nxEnd] | rw [zf_f_X12_nx2] | rw [zf_f_X12_next] | rw [zf_f_X12_taken] | rw [zf_f_X12_code] | rw [zf_f_X12_ntl] | rw [zf_f_X12_nots] | rw [zf_f_X12_jnl] | rw [zf_f_X12_joins] | rw [zf_f_X12_dz] | rw [zf_f_X12_dc] | rw [zf_f_X12_dn] | rw [zf_f_X12_dl] | rw [zf_f_X12_dtail] | rw [zf_f_X12_scp] | rw [zf_f_X12_stail] | rw [(zf_f_X12_sign _ _).resolve_left (by assumption)] | rw [(zf_f_X12_takes _ _ _).resolve_left (by assumption)] | rw [(zf_f_X12_puts _ _ _ _).resolve_left (by assumption)] | rw [(zf_f_X12_fresh _ _).resolve_left (by assumption)] | rw [(zf_f_X12_looksAt _ _ _).resolve_left (by assumption)] | rw [(zf_f_X12_takesName _ _ _).resolve_left (by assumption)] | rw [(zf_f_X12_readName _ _ _ _).resolve_left (by assumption)] | rw [(zf_f_X12_readPerson _).resolve_left (by assumption)] | rw [(zf_f_X12_pair _ _ _ _).resolve_left (by assumption)] | rw [(zf_f_X12_readHate _).resolve_left (by assumption)])
       done)
    | (refine Or.imp id (fun e => e.trans ?_) (zf_f_X12_readName _ _ _ _)
       repeat' (first | rfl | rw [pd_upI_ne (by omega)] | rw [um_L] | rw [um_R] | rw [zf_f_X12_blanks] | rw [zf_f_X12_run] | rw [zf_f_X12_nxEnd] | rw [zf_f_X12_nx2] | rw [zf_f_X12_next] | rw [zf_f_X12_taken] | rw [zf_f_X12_code] | rw [zf_f_X12_ntl] | rw [zf_f_X12_nots] | rw [zf_f_X12_jnl] | rw [zf_f_X12_joins] | rw [zf_f_X12_dz] | rw [zf_f_X12_dc] | rw [zf_f_X12_dn] | rw [zf_f_X12_dl] | rw [zf_f_X12_dtail] | rw [zf_f_X12_scp] | rw [zf_f_X12_stail] | rw [(zf_f_X12_sign _ _).resolve_left (by assumption)] | rw [(zf_f_X12_takes _ _ _).resolve_left (by assumption)] | rw [(zf_f_X12_puts _ _ _ _).resolve_left (by assumption)] | rw [(zf_f_X12_fresh _ _).resolve_left (by assumption)] | rw [(zf_f_X12_looksAt _ _ _).resolve_left (by assumption)] | rw [(zf_f_X12_takesName _ _ _).resolve_left (by assumption)] | rw [(zf_f_X12_readName _ _ _ _).resolve_left (by assumption)] | rw [(zf_f_X12_readPerson _).resolve_left (by assumption)] | rw [(zf_f_X12_pair _ _ _ _).resolve_left (by assumption)] | rw [(zf_f_X12_readHate _).resolve_left (by assumption)])
       done)
    | (refine Or.imp id (fun e => e.trans ?_) (zf_f_X12_readPerson _)
       repeat' (first | rfl | rw [pd_upI_ne (by omega)] | rw [um_L] | rw [um_R] | rw [zf_f_X12_blanks] | rw [zf_f_X12_run] | rw [zf_f_X12_nxEnd] | rw [zf_f_X12_nx2] | rw [zf_f_X12_next] | rw [zf_f_X12_taken] | rw [zf_f_X12_code] | rw [zf_f_X12_ntl] | rw [zf_f_X12_nots] | rw [zf_f_X12_jnl] | rw [zf_f_X12_joins] | rw [zf_f_X12_dz] | rw [zf_f_X12_dc] | rw [zf_f_X12_dn] | rw [zf_f_X12_dl] | rw [zf_f_X12_dtail] | rw [zf_f_X12_scp] | rw [zf_f_X12_stail] | rw [(zf_f_X12_sign _ _).resolve_left (by assumption)] | rw [(zf_f_X12_takes _ _ _).resolve_left (by assumption)] | rw [(zf_f_X12_puts _ _ _ _).resolve_left (by assumption)] | rw [(zf_f_X12_fresh _ _).resolve_left (by assumption)] | rw [(zf_f_X12_looksAt _ _ _).resolve_left (by assumption)] | rw [(zf_f_X12_takesName _ _ _).resolve_left (by assumption)] | rw [(zf_f_X12_readName _ _ _ _).resolve_left (by assumption)] | rw [(zf_f_X12_readPerson _).resolve_left (by assumption)] | rw [(zf_f_X12_pair _ _ _ _).resolve_left (by assumption)] | rw [(zf_f_X12_readHate _).resolve_left (by assumption)])
       done)
    | (refine Or.imp id (fun e => e.trans ?_) (zf_f_X12_pair _ _ _ _)
       repeat' (first | rfl | rw [pd_upI_ne (by omega)] | rw [um_L] | rw [um_R] | rw [zf_f_X12_blanks] | rw [zf_f_X12_run] | rw [zf_f_X12_nxEnd] | rw [zf_f_X12_nx2] | rw [zf_f_X12_next] | rw [zf_f_X12_taken] | rw [zf_f_X12_code] | rw [zf_f_X12_ntl] | rw [zf_f_X12_nots] | rw [zf_f_X12_jnl] | rw [zf_f_X12_joins] | rw [zf_f_X12_dz] | rw [zf_f_X12_dc] | rw [zf_f_X12_dn] | rw [zf_f_X12_dl] | rw [zf_f_X12_dtail] | rw [zf_f_X12_scp] | rw [zf_f_X12_stail] | rw [(zf_f_X12_sign _ _).resolve_left (by assumption)] | rw [(zf_f_X12_takes _ _ _).resolve_left (by assumption)] | rw [(zf_f_X12_puts _ _ _ _).resolve_left (by assumption)] | rw [(zf_f_X12_fresh _ _).resolve_left (by assumption)] | rw [(zf_f_X12_looksAt _ _ _).resolve_left (by assumption)] | rw [(zf_f_X12_takesName _ _ _).resolve_left (by assumption)] | rw [(zf_f_X12_readName _ _ _ _).resolve_left (by assumption)] | rw [(zf_f_X12_readPerson _).resolve_left (by assumption)] | rw [(zf_f_X12_pair _ _ _ _).resolve_left (by assumption)] | rw [(zf_f_X12_readHate _).resolve_left (by assumption)])
       done)
    | (refine Or.imp id (fun e => e.trans ?_) (zf_f_X12_readHate _)
       repeat' (first | rfl | rw [pd_upI_ne (by omega)] | rw [um_L] | rw [um_R] | rw [zf_f_X12_blanks] | rw [zf_f_X12_run] | rw [zf_f_X12_nxEnd] | rw [zf_f_X12_nx2] | rw [zf_f_X12_next] | rw [zf_f_X12_taken] | rw [zf_f_X12_code] | rw [zf_f_X12_ntl] | rw [zf_f_X12_nots] | rw [zf_f_X12_jnl] | rw [zf_f_X12_joins] | rw [zf_f_X12_dz] | rw [zf_f_X12_dc] | rw [zf_f_X12_dn] | rw [zf_f_X12_dl] | rw [zf_f_X12_dtail] | rw [zf_f_X12_scp] | rw [zf_f_X12_stail] | rw [(zf_f_X12_sign _ _).resolve_left (by assumption)] | rw [(zf_f_X12_takes _ _ _).resolve_left (by assumption)] | rw [(zf_f_X12_puts _ _ _ _).resolve_left (by assumption)] | rw [(zf_f_X12_fresh _ _).resolve_left (by assumption)] | rw [(zf_f_X12_looksAt _ _ _).resolve_left (by assumption)] | rw [(zf_f_X12_takesName _ _ _).resolve_left (by assumption)] | rw [(zf_f_X12_readName _ _ _ _).resolve_left (by assumption)] | rw [(zf_f_X12_readPerson _).resolve_left (by assumption)] | rw [(zf_f_X12_pair _ _ _ _).resolve_left (by assumption)] | rw [(zf_f_X12_readHate _).resolve_left (by assumption)])
       done)
    | (right
       try dsimp only
       repeat' (first | rfl | rw [pd_upI_ne (by omega)] | rw [um_L] | rw [um_R] | rw [zf_f_X12_blanks] | rw [zf_f_X12_run] | rw [zf_f_X12_nxEnd] | rw [zf_f_X12_nx2] | rw [zf_f_X12_next] | rw [zf_f_X12_taken] | rw [zf_f_X12_code] | rw [zf_f_X12_ntl] | rw [zf_f_X12_nots] | rw [zf_f_X12_jnl] | rw [zf_f_X12_joins] | rw [zf_f_X12_dz] | rw [zf_f_X12_dc] | rw [zf_f_X12_dn] | rw [zf_f_X12_dl] | rw [zf_f_X12_dtail] | rw [zf_f_X12_scp] | rw [zf_f_X12_stail] | rw [(zf_f_X12_sign _ _).resolve_left (by assumption)] | rw [(zf_f_X12_takes _ _ _).resolve_left (by assumption)] | rw [(zf_f_X12_puts _ _ _ _).resolve_left (by assumption)] | rw [(zf_f_X12_fresh _ _).resolve_left (by assumption)] | rw [(zf_f_X12_looksAt _ _ _).resolve_left (by assumption)] | rw [(zf_f_X12_takesName _ _ _).resolve_left (by assumption)] | rw [(zf_f_X12_readName _ _ _ _).resolve_left (by assumption)] | rw [(zf_f_X12_readPerson _).resolve_left (by assumption)] | rw [(zf_f_X12_pair _ _ _ _).resolve_left (by assumption)] | rw [(zf_f_X12_readHate _).resolve_left (by assumption)])
       done)
set_option maxHeartbeats 8000000 in
theorem zf_f_X12_operand (H : hH) : (f_X12_operand H).1 = 0 ∨ (f_X12_operand H).2.1 29 15 = H.1 29 15 := by
  unfold f_X12_operand
  by_cases q1 : f_X12_isWord 7237492 H = 0
  · rw [if_pos q1]
    by_cases q2 : f_X12_isSign 40 H = 0
    · rw [if_pos q2]
      by_cases q3 : f_X12_leafOf H < 0
      · rw [if_pos q3]
        first
          | exact Or.inl rfl
          | (right
             dsimp only
             repeat' (first | rfl | rw [pd_upI_ne (by omega)] | rw [um_L] | rw [um_R] | rw [zf_f_X12_blanks] | rw [zf_f_X12_run] | rw [zf_f_X12_nxEnd] | rw [zf_f_X12_nx2] | rw [zf_f_X12_next] | rw [zf_f_X12_taken] | rw [zf_f_X12_code] | rw [zf_f_X12_ntl] | rw [zf_f_X12_nots] | rw [zf_f_X12_jnl] | rw [zf_f_X12_joins] | rw [zf_f_X12_dz] | rw [zf_f_X12_dc] | rw [zf_f_X12_dn] | rw [zf_f_X12_dl] | rw [zf_f_X12_dtail] | rw [zf_f_X12_scp] | rw [zf_f_X12_stail] | rw [(zf_f_X12_sign _ _).resolve_left (by assumption)] | rw [(zf_f_X12_takes _ _ _).resolve_left (by assumption)] | rw [(zf_f_X12_puts _ _ _ _).resolve_left (by assumption)] | rw [(zf_f_X12_fresh _ _).resolve_left (by assumption)] | rw [(zf_f_X12_looksAt _ _ _).resolve_left (by assumption)] | rw [(zf_f_X12_takesName _ _ _).resolve_left (by assumption)] | rw [(zf_f_X12_readName _ _ _ _).resolve_left (by assumption)] | rw [(zf_f_X12_readPerson _).resolve_left (by assumption)] | rw [(zf_f_X12_pair _ _ _ _).resolve_left (by assumption)] | rw [(zf_f_X12_readHate _).resolve_left (by assumption)] | rw [(zf_f_X12_line _).resolve_left (by assumption)])
             done)
      · rw [if_neg q3]
        by_cases q4 : H.1 29 47 = 20
        · rw [if_pos q4]
          first
            | exact Or.inl rfl
            | (right
               dsimp only
               repeat' (first | rfl | rw [pd_upI_ne (by omega)] | rw [um_L] | rw [um_R] | rw [zf_f_X12_blanks] | rw [zf_f_X12_run] | rw [zf_f_X12_nxEnd] | rw [zf_f_X12_nx2] | rw [zf_f_X12_next] | rw [zf_f_X12_taken] | rw [zf_f_X12_code] | rw [zf_f_X12_ntl] | rw [zf_f_X12_nots] | rw [zf_f_X12_jnl] | rw [zf_f_X12_joins] | rw [zf_f_X12_dz] | rw [zf_f_X12_dc] | rw [zf_f_X12_dn] | rw [zf_f_X12_dl] | rw [zf_f_X12_dtail] | rw [zf_f_X12_scp] | rw [zf_f_X12_stail] | rw [(zf_f_X12_sign _ _).resolve_left (by assumption)] | rw [(zf_f_X12_takes _ _ _).resolve_left (by assumption)] | rw [(zf_f_X12_puts _ _ _ _).resolve_left (by assumption)] | rw [(zf_f_X12_fresh _ _).resolve_left (by assumption)] | rw [(zf_f_X12_looksAt _ _ _).resolve_left (by assumption)] | rw [(zf_f_X12_takesName _ _ _).resolve_left (by assumption)] | rw [(zf_f_X12_readName _ _ _ _).resolve_left (by assumption)] | rw [(zf_f_X12_readPerson _).resolve_left (by assumption)] | rw [(zf_f_X12_pair _ _ _ _).resolve_left (by assumption)] | rw [(zf_f_X12_readHate _).resolve_left (by assumption)] | rw [(zf_f_X12_line _).resolve_left (by assumption)])
               done)
        · rw [if_neg q4]
          by_cases q5 : 8 < H.1 29 49
          · rw [if_pos q5]
            first
              | exact Or.inl rfl
              | (right
                 dsimp only
                 repeat' (first | rfl | rw [pd_upI_ne (by omega)] | rw [um_L] | rw [um_R] | rw [zf_f_X12_blanks] | rw [zf_f_X12_run] | rw [zf_f_X12_nxEnd] | rw [zf_f_X12_nx2] | rw [zf_f_X12_next] | rw [zf_f_X12_taken] | rw [zf_f_X12_code] | rw [zf_f_X12_ntl] | rw [zf_f_X12_nots] | rw [zf_f_X12_jnl] | rw [zf_f_X12_joins] | rw [zf_f_X12_dz] | rw [zf_f_X12_dc] | rw [zf_f_X12_dn] | rw [zf_f_X12_dl] | rw [zf_f_X12_dtail] | rw [zf_f_X12_scp] | rw [zf_f_X12_stail] | rw [(zf_f_X12_sign _ _).resolve_left (by assumption)] | rw [(zf_f_X12_takes _ _ _).resolve_left (by assumption)] | rw [(zf_f_X12_puts _ _ _ _).resolve_left (by assumption)] | rw [(zf_f_X12_fresh _ _).resolve_left (by assumption)] | rw [(zf_f_X12_looksAt _ _ _).resolve_left (by assumption)] | rw [(zf_f_X12_takesName _ _ _).resolve_left (by assumption)] | rw [(zf_f_X12_readName _ _ _ _).resolve_left (by assumption)] | rw [(zf_f_X12_readPerson _).resolve_left (by assumption)] | rw [(zf_f_X12_pair _ _ _ _).resolve_left (by assumption)] | rw [(zf_f_X12_readHate _).resolve_left (by assumption)] | rw [(zf_f_X12_line _).resolve_left (by assumption)])
                 done)
          · rw [if_neg q5]
            by_cases q6 : f_X12_isWord 7237492 H = 0
            · rw [if_pos q6]
              by_cases q7 : f_X12_isSign 40 H = 0
              · rw [if_pos q7]
                by_cases q8 : f_X12_leafOf H < 3
                · rw [if_pos q8]
                  first
                    | exact Or.inl rfl
                    | (right
                       dsimp only
                       repeat' (first | rfl | rw [pd_upI_ne (by omega)] | rw [um_L] | rw [um_R] | rw [zf_f_X12_blanks] | rw [zf_f_X12_run] | rw [zf_f_X12_nxEnd] | rw [zf_f_X12_nx2] | rw [zf_f_X12_next] | rw [zf_f_X12_taken] | rw [zf_f_X12_code] | rw [zf_f_X12_ntl] | rw [zf_f_X12_nots] | rw [zf_f_X12_jnl] | rw [zf_f_X12_joins] | rw [zf_f_X12_dz] | rw [zf_f_X12_dc] | rw [zf_f_X12_dn] | rw [zf_f_X12_dl] | rw [zf_f_X12_dtail] | rw [zf_f_X12_scp] | rw [zf_f_X12_stail] | rw [(zf_f_X12_sign _ _).resolve_left (by assumption)] | rw [(zf_f_X12_takes _ _ _).resolve_left (by assumption)] | rw [(zf_f_X12_puts _ _ _ _).resolve_left (by assumption)] | rw [(zf_f_X12_fresh _ _).resolve_left (by assumption)] | rw [(zf_f_X12_looksAt _ _ _).resolve_left (by assumption)] | rw [(zf_f_X12_takesName _ _ _).resolve_left (by assumption)] | rw [(zf_f_X12_readName _ _ _ _).resolve_left (by assumption)] | rw [(zf_f_X12_readPerson _).resolve_left (by assumption)] | rw [(zf_f_X12_pair _ _ _ _).resolve_left (by assumption)] | rw [(zf_f_X12_readHate _).resolve_left (by assumption)] | rw [(zf_f_X12_line _).resolve_left (by assumption)])
                       done)
                · rw [if_neg q8]
                  by_cases q9 : f_X12_leafOf H < 6
                  · rw [if_pos q9]
                    by_cases q10 : f_X12_leafOf H = 3
                    · rw [if_pos q10]
                      by_cases q11 : ((f_X12_looksAt 17 ((f_X12_next (upI H 29 47 (iAdd (H.1 29 47) 1))).1 31 3) (upI (f_X12_next (upI H 29 47 (iAdd (H.1 29 47) 1))) 29 50 1)).1) = 0
                      · rw [if_pos q11]
                        first
                          | exact Or.inl rfl
                          | (right
                             dsimp only
                             repeat' (first | rfl | rw [pd_upI_ne (by omega)] | rw [um_L] | rw [um_R] | rw [zf_f_X12_blanks] | rw [zf_f_X12_run] | rw [zf_f_X12_nxEnd] | rw [zf_f_X12_nx2] | rw [zf_f_X12_next] | rw [zf_f_X12_taken] | rw [zf_f_X12_code] | rw [zf_f_X12_ntl] | rw [zf_f_X12_nots] | rw [zf_f_X12_jnl] | rw [zf_f_X12_joins] | rw [zf_f_X12_dz] | rw [zf_f_X12_dc] | rw [zf_f_X12_dn] | rw [zf_f_X12_dl] | rw [zf_f_X12_dtail] | rw [zf_f_X12_scp] | rw [zf_f_X12_stail] | rw [(zf_f_X12_sign _ _).resolve_left (by assumption)] | rw [(zf_f_X12_takes _ _ _).resolve_left (by assumption)] | rw [(zf_f_X12_puts _ _ _ _).resolve_left (by assumption)] | rw [(zf_f_X12_fresh _ _).resolve_left (by assumption)] | rw [(zf_f_X12_looksAt _ _ _).resolve_left (by assumption)] | rw [(zf_f_X12_takesName _ _ _).resolve_left (by assumption)] | rw [(zf_f_X12_readName _ _ _ _).resolve_left (by assumption)] | rw [(zf_f_X12_readPerson _).resolve_left (by assumption)] | rw [(zf_f_X12_pair _ _ _ _).resolve_left (by assumption)] | rw [(zf_f_X12_readHate _).resolve_left (by assumption)] | rw [(zf_f_X12_line _).resolve_left (by assumption)])
                             done)
                      · rw [if_neg q11]
                        first
                          | exact Or.inl rfl
                          | (right
                             dsimp only
                             repeat' (first | rfl | rw [pd_upI_ne (by omega)] | rw [um_L] | rw [um_R] | rw [zf_f_X12_blanks] | rw [zf_f_X12_run] | rw [zf_f_X12_nxEnd] | rw [zf_f_X12_nx2] | rw [zf_f_X12_next] | rw [zf_f_X12_taken] | rw [zf_f_X12_code] | rw [zf_f_X12_ntl] | rw [zf_f_X12_nots] | rw [zf_f_X12_jnl] | rw [zf_f_X12_joins] | rw [zf_f_X12_dz] | rw [zf_f_X12_dc] | rw [zf_f_X12_dn] | rw [zf_f_X12_dl] | rw [zf_f_X12_dtail] | rw [zf_f_X12_scp] | rw [zf_f_X12_stail] | rw [(zf_f_X12_sign _ _).resolve_left (by assumption)] | rw [(zf_f_X12_takes _ _ _).resolve_left (by assumption)] | rw [(zf_f_X12_puts _ _ _ _).resolve_left (by assumption)] | rw [(zf_f_X12_fresh _ _).resolve_left (by assumption)] | rw [(zf_f_X12_looksAt _ _ _).resolve_left (by assumption)] | rw [(zf_f_X12_takesName _ _ _).resolve_left (by assumption)] | rw [(zf_f_X12_readName _ _ _ _).resolve_left (by assumption)] | rw [(zf_f_X12_readPerson _).resolve_left (by assumption)] | rw [(zf_f_X12_pair _ _ _ _).resolve_left (by assumption)] | rw [(zf_f_X12_readHate _).resolve_left (by assumption)] | rw [(zf_f_X12_line _).resolve_left (by assumption)])
                             done)
                    · rw [if_neg q10]
                      by_cases q11 : f_X12_leafOf H = 4
                      · rw [if_pos q11]
                        by_cases q12 : ((f_X12_looksAt 0 ((f_X12_next (upI H 29 47 (iAdd (H.1 29 47) 1))).1 31 0) (upI (f_X12_next (upI H 29 47 (iAdd (H.1 29 47) 1))) 29 50 1)).1) = 0
                        · rw [if_pos q12]
                          first
                            | exact Or.inl rfl
                            | (right
                               dsimp only
                               repeat' (first | rfl | rw [pd_upI_ne (by omega)] | rw [um_L] | rw [um_R] | rw [zf_f_X12_blanks] | rw [zf_f_X12_run] | rw [zf_f_X12_nxEnd] | rw [zf_f_X12_nx2] | rw [zf_f_X12_next] | rw [zf_f_X12_taken] | rw [zf_f_X12_code] | rw [zf_f_X12_ntl] | rw [zf_f_X12_nots] | rw [zf_f_X12_jnl] | rw [zf_f_X12_joins] | rw [zf_f_X12_dz] | rw [zf_f_X12_dc] | rw [zf_f_X12_dn] | rw [zf_f_X12_dl] | rw [zf_f_X12_dtail] | rw [zf_f_X12_scp] | rw [zf_f_X12_stail] | rw [(zf_f_X12_sign _ _).resolve_left (by assumption)] | rw [(zf_f_X12_takes _ _ _).resolve_left (by assumption)] | rw [(zf_f_X12_puts _ _ _ _).resolve_left (by assumption)] | rw [(zf_f_X12_fresh _ _).resolve_left (by assumption)] | rw [(zf_f_X12_looksAt _ _ _).resolve_left (by assumption)] | rw [(zf_f_X12_takesName _ _ _).resolve_left (by assumption)] | rw [(zf_f_X12_readName _ _ _ _).resolve_left (by assumption)] | rw [(zf_f_X12_readPerson _).resolve_left (by assumption)] | rw [(zf_f_X12_pair _ _ _ _).resolve_left (by assumption)] | rw [(zf_f_X12_readHate _).resolve_left (by assumption)] | rw [(zf_f_X12_line _).resolve_left (by assumption)])
                               done)
                        · rw [if_neg q12]
                          first
                            | exact Or.inl rfl
                            | (right
                               dsimp only
                               repeat' (first | rfl | rw [pd_upI_ne (by omega)] | rw [um_L] | rw [um_R] | rw [zf_f_X12_blanks] | rw [zf_f_X12_run] | rw [zf_f_X12_nxEnd] | rw [zf_f_X12_nx2] | rw [zf_f_X12_next] | rw [zf_f_X12_taken] | rw [zf_f_X12_code] | rw [zf_f_X12_ntl] | rw [zf_f_X12_nots] | rw [zf_f_X12_jnl] | rw [zf_f_X12_joins] | rw [zf_f_X12_dz] | rw [zf_f_X12_dc] | rw [zf_f_X12_dn] | rw [zf_f_X12_dl] | rw [zf_f_X12_dtail] | rw [zf_f_X12_scp] | rw [zf_f_X12_stail] | rw [(zf_f_X12_sign _ _).resolve_left (by assumption)] | rw [(zf_f_X12_takes _ _ _).resolve_left (by assumption)] | rw [(zf_f_X12_puts _ _ _ _).resolve_left (by assumption)] | rw [(zf_f_X12_fresh _ _).resolve_left (by assumption)] | rw [(zf_f_X12_looksAt _ _ _).resolve_left (by assumption)] | rw [(zf_f_X12_takesName _ _ _).resolve_left (by assumption)] | rw [(zf_f_X12_readName _ _ _ _).resolve_left (by assumption)] | rw [(zf_f_X12_readPerson _).resolve_left (by assumption)] | rw [(zf_f_X12_pair _ _ _ _).resolve_left (by assumption)] | rw [(zf_f_X12_readHate _).resolve_left (by assumption)] | rw [(zf_f_X12_line _).resolve_left (by assumption)])
                               done)
                      · rw [if_neg q11]
                        by_cases q12 : ((f_X12_looksAt 4 ((f_X12_next (upI H 29 47 (iAdd (H.1 29 47) 1))).1 31 1) (upI (f_X12_next (upI H 29 47 (iAdd (H.1 29 47) 1))) 29 50 1)).1) = 0
                        · rw [if_pos q12]
                          first
                            | exact Or.inl rfl
                            | (right
                               dsimp only
                               repeat' (first | rfl | rw [pd_upI_ne (by omega)] | rw [um_L] | rw [um_R] | rw [zf_f_X12_blanks] | rw [zf_f_X12_run] | rw [zf_f_X12_nxEnd] | rw [zf_f_X12_nx2] | rw [zf_f_X12_next] | rw [zf_f_X12_taken] | rw [zf_f_X12_code] | rw [zf_f_X12_ntl] | rw [zf_f_X12_nots] | rw [zf_f_X12_jnl] | rw [zf_f_X12_joins] | rw [zf_f_X12_dz] | rw [zf_f_X12_dc] | rw [zf_f_X12_dn] | rw [zf_f_X12_dl] | rw [zf_f_X12_dtail] | rw [zf_f_X12_scp] | rw [zf_f_X12_stail] | rw [(zf_f_X12_sign _ _).resolve_left (by assumption)] | rw [(zf_f_X12_takes _ _ _).resolve_left (by assumption)] | rw [(zf_f_X12_puts _ _ _ _).resolve_left (by assumption)] | rw [(zf_f_X12_fresh _ _).resolve_left (by assumption)] | rw [(zf_f_X12_looksAt _ _ _).resolve_left (by assumption)] | rw [(zf_f_X12_takesName _ _ _).resolve_left (by assumption)] | rw [(zf_f_X12_readName _ _ _ _).resolve_left (by assumption)] | rw [(zf_f_X12_readPerson _).resolve_left (by assumption)] | rw [(zf_f_X12_pair _ _ _ _).resolve_left (by assumption)] | rw [(zf_f_X12_readHate _).resolve_left (by assumption)] | rw [(zf_f_X12_line _).resolve_left (by assumption)])
                               done)
                        · rw [if_neg q12]
                          first
                            | exact Or.inl rfl
                            | (right
                               dsimp only
                               repeat' (first | rfl | rw [pd_upI_ne (by omega)] | rw [um_L] | rw [um_R] | rw [zf_f_X12_blanks] | rw [zf_f_X12_run] | rw [zf_f_X12_nxEnd] | rw [zf_f_X12_nx2] | rw [zf_f_X12_next] | rw [zf_f_X12_taken] | rw [zf_f_X12_code] | rw [zf_f_X12_ntl] | rw [zf_f_X12_nots] | rw [zf_f_X12_jnl] | rw [zf_f_X12_joins] | rw [zf_f_X12_dz] | rw [zf_f_X12_dc] | rw [zf_f_X12_dn] | rw [zf_f_X12_dl] | rw [zf_f_X12_dtail] | rw [zf_f_X12_scp] | rw [zf_f_X12_stail] | rw [(zf_f_X12_sign _ _).resolve_left (by assumption)] | rw [(zf_f_X12_takes _ _ _).resolve_left (by assumption)] | rw [(zf_f_X12_puts _ _ _ _).resolve_left (by assumption)] | rw [(zf_f_X12_fresh _ _).resolve_left (by assumption)] | rw [(zf_f_X12_looksAt _ _ _).resolve_left (by assumption)] | rw [(zf_f_X12_takesName _ _ _).resolve_left (by assumption)] | rw [(zf_f_X12_readName _ _ _ _).resolve_left (by assumption)] | rw [(zf_f_X12_readPerson _).resolve_left (by assumption)] | rw [(zf_f_X12_pair _ _ _ _).resolve_left (by assumption)] | rw [(zf_f_X12_readHate _).resolve_left (by assumption)] | rw [(zf_f_X12_line _).resolve_left (by assumption)])
                               done)
                  · rw [if_neg q9]
                    by_cases q10 : ((f_X12_next (upI H 29 47 (iAdd (H.1 29 47) 1))).1 29 11) = 3
                    · rw [if_pos q10]
                      by_cases q11 : ((f_X12_next (upI H 29 47 (iAdd (H.1 29 47) 1))).1 29 14) < 60
                      · rw [if_pos q11]
                        first
                          | exact Or.inl rfl
                          | (right
                             dsimp only
                             repeat' (first | rfl | rw [pd_upI_ne (by omega)] | rw [um_L] | rw [um_R] | rw [zf_f_X12_blanks] | rw [zf_f_X12_run] | rw [zf_f_X12_nxEnd] | rw [zf_f_X12_nx2] | rw [zf_f_X12_next] | rw [zf_f_X12_taken] | rw [zf_f_X12_code] | rw [zf_f_X12_ntl] | rw [zf_f_X12_nots] | rw [zf_f_X12_jnl] | rw [zf_f_X12_joins] | rw [zf_f_X12_dz] | rw [zf_f_X12_dc] | rw [zf_f_X12_dn] | rw [zf_f_X12_dl] | rw [zf_f_X12_dtail] | rw [zf_f_X12_scp] | rw [zf_f_X12_stail] | rw [(zf_f_X12_sign _ _).resolve_left (by assumption)] | rw [(zf_f_X12_takes _ _ _).resolve_left (by assumption)] | rw [(zf_f_X12_puts _ _ _ _).resolve_left (by assumption)] | rw [(zf_f_X12_fresh _ _).resolve_left (by assumption)] | rw [(zf_f_X12_looksAt _ _ _).resolve_left (by assumption)] | rw [(zf_f_X12_takesName _ _ _).resolve_left (by assumption)] | rw [(zf_f_X12_readName _ _ _ _).resolve_left (by assumption)] | rw [(zf_f_X12_readPerson _).resolve_left (by assumption)] | rw [(zf_f_X12_pair _ _ _ _).resolve_left (by assumption)] | rw [(zf_f_X12_readHate _).resolve_left (by assumption)] | rw [(zf_f_X12_line _).resolve_left (by assumption)])
                             done)
                      · rw [if_neg q11]
                        by_cases q12 : 62 < ((f_X12_next (upI H 29 47 (iAdd (H.1 29 47) 1))).1 29 14)
                        · rw [if_pos q12]
                          first
                            | exact Or.inl rfl
                            | (right
                               dsimp only
                               repeat' (first | rfl | rw [pd_upI_ne (by omega)] | rw [um_L] | rw [um_R] | rw [zf_f_X12_blanks] | rw [zf_f_X12_run] | rw [zf_f_X12_nxEnd] | rw [zf_f_X12_nx2] | rw [zf_f_X12_next] | rw [zf_f_X12_taken] | rw [zf_f_X12_code] | rw [zf_f_X12_ntl] | rw [zf_f_X12_nots] | rw [zf_f_X12_jnl] | rw [zf_f_X12_joins] | rw [zf_f_X12_dz] | rw [zf_f_X12_dc] | rw [zf_f_X12_dn] | rw [zf_f_X12_dl] | rw [zf_f_X12_dtail] | rw [zf_f_X12_scp] | rw [zf_f_X12_stail] | rw [(zf_f_X12_sign _ _).resolve_left (by assumption)] | rw [(zf_f_X12_takes _ _ _).resolve_left (by assumption)] | rw [(zf_f_X12_puts _ _ _ _).resolve_left (by assumption)] | rw [(zf_f_X12_fresh _ _).resolve_left (by assumption)] | rw [(zf_f_X12_looksAt _ _ _).resolve_left (by assumption)] | rw [(zf_f_X12_takesName _ _ _).resolve_left (by assumption)] | rw [(zf_f_X12_readName _ _ _ _).resolve_left (by assumption)] | rw [(zf_f_X12_readPerson _).resolve_left (by assumption)] | rw [(zf_f_X12_pair _ _ _ _).resolve_left (by assumption)] | rw [(zf_f_X12_readHate _).resolve_left (by assumption)] | rw [(zf_f_X12_line _).resolve_left (by assumption)])
                               done)
                        · rw [if_neg q12]
                          by_cases q13 : ((f_X12_next (upI (f_X12_next (upI H 29 47 (iAdd (H.1 29 47) 1))) 29 50 1)).1 29 11) = 2
                          · rw [if_pos q13]
                            first
                              | exact Or.inl rfl
                              | (right
                                 dsimp only
                                 repeat' (first | rfl | rw [pd_upI_ne (by omega)] | rw [um_L] | rw [um_R] | rw [zf_f_X12_blanks] | rw [zf_f_X12_run] | rw [zf_f_X12_nxEnd] | rw [zf_f_X12_nx2] | rw [zf_f_X12_next] | rw [zf_f_X12_taken] | rw [zf_f_X12_code] | rw [zf_f_X12_ntl] | rw [zf_f_X12_nots] | rw [zf_f_X12_jnl] | rw [zf_f_X12_joins] | rw [zf_f_X12_dz] | rw [zf_f_X12_dc] | rw [zf_f_X12_dn] | rw [zf_f_X12_dl] | rw [zf_f_X12_dtail] | rw [zf_f_X12_scp] | rw [zf_f_X12_stail] | rw [(zf_f_X12_sign _ _).resolve_left (by assumption)] | rw [(zf_f_X12_takes _ _ _).resolve_left (by assumption)] | rw [(zf_f_X12_puts _ _ _ _).resolve_left (by assumption)] | rw [(zf_f_X12_fresh _ _).resolve_left (by assumption)] | rw [(zf_f_X12_looksAt _ _ _).resolve_left (by assumption)] | rw [(zf_f_X12_takesName _ _ _).resolve_left (by assumption)] | rw [(zf_f_X12_readName _ _ _ _).resolve_left (by assumption)] | rw [(zf_f_X12_readPerson _).resolve_left (by assumption)] | rw [(zf_f_X12_pair _ _ _ _).resolve_left (by assumption)] | rw [(zf_f_X12_readHate _).resolve_left (by assumption)] | rw [(zf_f_X12_line _).resolve_left (by assumption)])
                                 done)
                          · rw [if_neg q13]
                            first
                              | exact Or.inl rfl
                              | (right
                                 dsimp only
                                 repeat' (first | rfl | rw [pd_upI_ne (by omega)] | rw [um_L] | rw [um_R] | rw [zf_f_X12_blanks] | rw [zf_f_X12_run] | rw [zf_f_X12_nxEnd] | rw [zf_f_X12_nx2] | rw [zf_f_X12_next] | rw [zf_f_X12_taken] | rw [zf_f_X12_code] | rw [zf_f_X12_ntl] | rw [zf_f_X12_nots] | rw [zf_f_X12_jnl] | rw [zf_f_X12_joins] | rw [zf_f_X12_dz] | rw [zf_f_X12_dc] | rw [zf_f_X12_dn] | rw [zf_f_X12_dl] | rw [zf_f_X12_dtail] | rw [zf_f_X12_scp] | rw [zf_f_X12_stail] | rw [(zf_f_X12_sign _ _).resolve_left (by assumption)] | rw [(zf_f_X12_takes _ _ _).resolve_left (by assumption)] | rw [(zf_f_X12_puts _ _ _ _).resolve_left (by assumption)] | rw [(zf_f_X12_fresh _ _).resolve_left (by assumption)] | rw [(zf_f_X12_looksAt _ _ _).resolve_left (by assumption)] | rw [(zf_f_X12_takesName _ _ _).resolve_left (by assumption)] | rw [(zf_f_X12_readName _ _ _ _).resolve_left (by assumption)] | rw [(zf_f_X12_readPerson _).resolve_left (by assumption)] | rw [(zf_f_X12_pair _ _ _ _).resolve_left (by assumption)] | rw [(zf_f_X12_readHate _).resolve_left (by assumption)] | rw [(zf_f_X12_line _).resolve_left (by assumption)])
                                 done)
                    · rw [if_neg q10]
                      first
                        | exact Or.inl rfl
                        | (right
                           dsimp only
                           repeat' (first | rfl | rw [pd_upI_ne (by omega)] | rw [um_L] | rw [um_R] | rw [zf_f_X12_blanks] | rw [zf_f_X12_run] | rw [zf_f_X12_nxEnd] | rw [zf_f_X12_nx2] | rw [zf_f_X12_next] | rw [zf_f_X12_taken] | rw [zf_f_X12_code] | rw [zf_f_X12_ntl] | rw [zf_f_X12_nots] | rw [zf_f_X12_jnl] | rw [zf_f_X12_joins] | rw [zf_f_X12_dz] | rw [zf_f_X12_dc] | rw [zf_f_X12_dn] | rw [zf_f_X12_dl] | rw [zf_f_X12_dtail] | rw [zf_f_X12_scp] | rw [zf_f_X12_stail] | rw [(zf_f_X12_sign _ _).resolve_left (by assumption)] | rw [(zf_f_X12_takes _ _ _).resolve_left (by assumption)] | rw [(zf_f_X12_puts _ _ _ _).resolve_left (by assumption)] | rw [(zf_f_X12_fresh _ _).resolve_left (by assumption)] | rw [(zf_f_X12_looksAt _ _ _).resolve_left (by assumption)] | rw [(zf_f_X12_takesName _ _ _).resolve_left (by assumption)] | rw [(zf_f_X12_readName _ _ _ _).resolve_left (by assumption)] | rw [(zf_f_X12_readPerson _).resolve_left (by assumption)] | rw [(zf_f_X12_pair _ _ _ _).resolve_left (by assumption)] | rw [(zf_f_X12_readHate _).resolve_left (by assumption)] | rw [(zf_f_X12_line _).resolve_left (by assumption)])
                           done)
              · rw [if_neg q7]
                by_cases q8 : f_X12_isWord 7237492 H = 0
                · rw [if_pos q8]
                  first
                    | exact Or.inl rfl
                    | (right
                       dsimp only
                       repeat' (first | rfl | rw [pd_upI_ne (by omega)] | rw [um_L] | rw [um_R] | rw [zf_f_X12_blanks] | rw [zf_f_X12_run] | rw [zf_f_X12_nxEnd] | rw [zf_f_X12_nx2] | rw [zf_f_X12_next] | rw [zf_f_X12_taken] | rw [zf_f_X12_code] | rw [zf_f_X12_ntl] | rw [zf_f_X12_nots] | rw [zf_f_X12_jnl] | rw [zf_f_X12_joins] | rw [zf_f_X12_dz] | rw [zf_f_X12_dc] | rw [zf_f_X12_dn] | rw [zf_f_X12_dl] | rw [zf_f_X12_dtail] | rw [zf_f_X12_scp] | rw [zf_f_X12_stail] | rw [(zf_f_X12_sign _ _).resolve_left (by assumption)] | rw [(zf_f_X12_takes _ _ _).resolve_left (by assumption)] | rw [(zf_f_X12_puts _ _ _ _).resolve_left (by assumption)] | rw [(zf_f_X12_fresh _ _).resolve_left (by assumption)] | rw [(zf_f_X12_looksAt _ _ _).resolve_left (by assumption)] | rw [(zf_f_X12_takesName _ _ _).resolve_left (by assumption)] | rw [(zf_f_X12_readName _ _ _ _).resolve_left (by assumption)] | rw [(zf_f_X12_readPerson _).resolve_left (by assumption)] | rw [(zf_f_X12_pair _ _ _ _).resolve_left (by assumption)] | rw [(zf_f_X12_readHate _).resolve_left (by assumption)] | rw [(zf_f_X12_line _).resolve_left (by assumption)])
                       done)
                · rw [if_neg q8]
                  first
                    | exact Or.inl rfl
                    | (right
                       dsimp only
                       repeat' (first | rfl | rw [pd_upI_ne (by omega)] | rw [um_L] | rw [um_R] | rw [zf_f_X12_blanks] | rw [zf_f_X12_run] | rw [zf_f_X12_nxEnd] | rw [zf_f_X12_nx2] | rw [zf_f_X12_next] | rw [zf_f_X12_taken] | rw [zf_f_X12_code] | rw [zf_f_X12_ntl] | rw [zf_f_X12_nots] | rw [zf_f_X12_jnl] | rw [zf_f_X12_joins] | rw [zf_f_X12_dz] | rw [zf_f_X12_dc] | rw [zf_f_X12_dn] | rw [zf_f_X12_dl] | rw [zf_f_X12_dtail] | rw [zf_f_X12_scp] | rw [zf_f_X12_stail] | rw [(zf_f_X12_sign _ _).resolve_left (by assumption)] | rw [(zf_f_X12_takes _ _ _).resolve_left (by assumption)] | rw [(zf_f_X12_puts _ _ _ _).resolve_left (by assumption)] | rw [(zf_f_X12_fresh _ _).resolve_left (by assumption)] | rw [(zf_f_X12_looksAt _ _ _).resolve_left (by assumption)] | rw [(zf_f_X12_takesName _ _ _).resolve_left (by assumption)] | rw [(zf_f_X12_readName _ _ _ _).resolve_left (by assumption)] | rw [(zf_f_X12_readPerson _).resolve_left (by assumption)] | rw [(zf_f_X12_pair _ _ _ _).resolve_left (by assumption)] | rw [(zf_f_X12_readHate _).resolve_left (by assumption)] | rw [(zf_f_X12_line _).resolve_left (by assumption)])
                       done)
            · rw [if_neg q6]
              by_cases q7 : f_X12_isWord 7237492 H = 0
              · rw [if_pos q7]
                first
                  | exact Or.inl rfl
                  | (right
                     dsimp only
                     repeat' (first | rfl | rw [pd_upI_ne (by omega)] | rw [um_L] | rw [um_R] | rw [zf_f_X12_blanks] | rw [zf_f_X12_run] | rw [zf_f_X12_nxEnd] | rw [zf_f_X12_nx2] | rw [zf_f_X12_next] | rw [zf_f_X12_taken] | rw [zf_f_X12_code] | rw [zf_f_X12_ntl] | rw [zf_f_X12_nots] | rw [zf_f_X12_jnl] | rw [zf_f_X12_joins] | rw [zf_f_X12_dz] | rw [zf_f_X12_dc] | rw [zf_f_X12_dn] | rw [zf_f_X12_dl] | rw [zf_f_X12_dtail] | rw [zf_f_X12_scp] | rw [zf_f_X12_stail] | rw [(zf_f_X12_sign _ _).resolve_left (by assumption)] | rw [(zf_f_X12_takes _ _ _).resolve_left (by assumption)] | rw [(zf_f_X12_puts _ _ _ _).resolve_left (by assumption)] | rw [(zf_f_X12_fresh _ _).resolve_left (by assumption)] | rw [(zf_f_X12_looksAt _ _ _).resolve_left (by assumption)] | rw [(zf_f_X12_takesName _ _ _).resolve_left (by assumption)] | rw [(zf_f_X12_readName _ _ _ _).resolve_left (by assumption)] | rw [(zf_f_X12_readPerson _).resolve_left (by assumption)] | rw [(zf_f_X12_pair _ _ _ _).resolve_left (by assumption)] | rw [(zf_f_X12_readHate _).resolve_left (by assumption)] | rw [(zf_f_X12_line _).resolve_left (by assumption)])
                     done)
              · rw [if_neg q7]
                first
                  | exact Or.inl rfl
                  | (right
                     dsimp only
                     repeat' (first | rfl | rw [pd_upI_ne (by omega)] | rw [um_L] | rw [um_R] | rw [zf_f_X12_blanks] | rw [zf_f_X12_run] | rw [zf_f_X12_nxEnd] | rw [zf_f_X12_nx2] | rw [zf_f_X12_next] | rw [zf_f_X12_taken] | rw [zf_f_X12_code] | rw [zf_f_X12_ntl] | rw [zf_f_X12_nots] | rw [zf_f_X12_jnl] | rw [zf_f_X12_joins] | rw [zf_f_X12_dz] | rw [zf_f_X12_dc] | rw [zf_f_X12_dn] | rw [zf_f_X12_dl] | rw [zf_f_X12_dtail] | rw [zf_f_X12_scp] | rw [zf_f_X12_stail] | rw [(zf_f_X12_sign _ _).resolve_left (by assumption)] | rw [(zf_f_X12_takes _ _ _).resolve_left (by assumption)] | rw [(zf_f_X12_puts _ _ _ _).resolve_left (by assumption)] | rw [(zf_f_X12_fresh _ _).resolve_left (by assumption)] | rw [(zf_f_X12_looksAt _ _ _).resolve_left (by assumption)] | rw [(zf_f_X12_takesName _ _ _).resolve_left (by assumption)] | rw [(zf_f_X12_readName _ _ _ _).resolve_left (by assumption)] | rw [(zf_f_X12_readPerson _).resolve_left (by assumption)] | rw [(zf_f_X12_pair _ _ _ _).resolve_left (by assumption)] | rw [(zf_f_X12_readHate _).resolve_left (by assumption)] | rw [(zf_f_X12_line _).resolve_left (by assumption)])
                     done)
    · rw [if_neg q2]
      by_cases q3 : H.1 29 47 = 20
      · rw [if_pos q3]
        first
          | exact Or.inl rfl
          | (right
             dsimp only
             repeat' (first | rfl | rw [pd_upI_ne (by omega)] | rw [um_L] | rw [um_R] | rw [zf_f_X12_blanks] | rw [zf_f_X12_run] | rw [zf_f_X12_nxEnd] | rw [zf_f_X12_nx2] | rw [zf_f_X12_next] | rw [zf_f_X12_taken] | rw [zf_f_X12_code] | rw [zf_f_X12_ntl] | rw [zf_f_X12_nots] | rw [zf_f_X12_jnl] | rw [zf_f_X12_joins] | rw [zf_f_X12_dz] | rw [zf_f_X12_dc] | rw [zf_f_X12_dn] | rw [zf_f_X12_dl] | rw [zf_f_X12_dtail] | rw [zf_f_X12_scp] | rw [zf_f_X12_stail] | rw [(zf_f_X12_sign _ _).resolve_left (by assumption)] | rw [(zf_f_X12_takes _ _ _).resolve_left (by assumption)] | rw [(zf_f_X12_puts _ _ _ _).resolve_left (by assumption)] | rw [(zf_f_X12_fresh _ _).resolve_left (by assumption)] | rw [(zf_f_X12_looksAt _ _ _).resolve_left (by assumption)] | rw [(zf_f_X12_takesName _ _ _).resolve_left (by assumption)] | rw [(zf_f_X12_readName _ _ _ _).resolve_left (by assumption)] | rw [(zf_f_X12_readPerson _).resolve_left (by assumption)] | rw [(zf_f_X12_pair _ _ _ _).resolve_left (by assumption)] | rw [(zf_f_X12_readHate _).resolve_left (by assumption)] | rw [(zf_f_X12_line _).resolve_left (by assumption)])
             done)
      · rw [if_neg q3]
        by_cases q4 : 8 < H.1 29 49
        · rw [if_pos q4]
          first
            | exact Or.inl rfl
            | (right
               dsimp only
               repeat' (first | rfl | rw [pd_upI_ne (by omega)] | rw [um_L] | rw [um_R] | rw [zf_f_X12_blanks] | rw [zf_f_X12_run] | rw [zf_f_X12_nxEnd] | rw [zf_f_X12_nx2] | rw [zf_f_X12_next] | rw [zf_f_X12_taken] | rw [zf_f_X12_code] | rw [zf_f_X12_ntl] | rw [zf_f_X12_nots] | rw [zf_f_X12_jnl] | rw [zf_f_X12_joins] | rw [zf_f_X12_dz] | rw [zf_f_X12_dc] | rw [zf_f_X12_dn] | rw [zf_f_X12_dl] | rw [zf_f_X12_dtail] | rw [zf_f_X12_scp] | rw [zf_f_X12_stail] | rw [(zf_f_X12_sign _ _).resolve_left (by assumption)] | rw [(zf_f_X12_takes _ _ _).resolve_left (by assumption)] | rw [(zf_f_X12_puts _ _ _ _).resolve_left (by assumption)] | rw [(zf_f_X12_fresh _ _).resolve_left (by assumption)] | rw [(zf_f_X12_looksAt _ _ _).resolve_left (by assumption)] | rw [(zf_f_X12_takesName _ _ _).resolve_left (by assumption)] | rw [(zf_f_X12_readName _ _ _ _).resolve_left (by assumption)] | rw [(zf_f_X12_readPerson _).resolve_left (by assumption)] | rw [(zf_f_X12_pair _ _ _ _).resolve_left (by assumption)] | rw [(zf_f_X12_readHate _).resolve_left (by assumption)] | rw [(zf_f_X12_line _).resolve_left (by assumption)])
               done)
        · rw [if_neg q4]
          by_cases q5 : f_X12_isWord 7237492 H = 0
          · rw [if_pos q5]
            by_cases q6 : f_X12_isSign 40 H = 0
            · rw [if_pos q6]
              by_cases q7 : f_X12_leafOf H < 3
              · rw [if_pos q7]
                first
                  | exact Or.inl rfl
                  | (right
                     dsimp only
                     repeat' (first | rfl | rw [pd_upI_ne (by omega)] | rw [um_L] | rw [um_R] | rw [zf_f_X12_blanks] | rw [zf_f_X12_run] | rw [zf_f_X12_nxEnd] | rw [zf_f_X12_nx2] | rw [zf_f_X12_next] | rw [zf_f_X12_taken] | rw [zf_f_X12_code] | rw [zf_f_X12_ntl] | rw [zf_f_X12_nots] | rw [zf_f_X12_jnl] | rw [zf_f_X12_joins] | rw [zf_f_X12_dz] | rw [zf_f_X12_dc] | rw [zf_f_X12_dn] | rw [zf_f_X12_dl] | rw [zf_f_X12_dtail] | rw [zf_f_X12_scp] | rw [zf_f_X12_stail] | rw [(zf_f_X12_sign _ _).resolve_left (by assumption)] | rw [(zf_f_X12_takes _ _ _).resolve_left (by assumption)] | rw [(zf_f_X12_puts _ _ _ _).resolve_left (by assumption)] | rw [(zf_f_X12_fresh _ _).resolve_left (by assumption)] | rw [(zf_f_X12_looksAt _ _ _).resolve_left (by assumption)] | rw [(zf_f_X12_takesName _ _ _).resolve_left (by assumption)] | rw [(zf_f_X12_readName _ _ _ _).resolve_left (by assumption)] | rw [(zf_f_X12_readPerson _).resolve_left (by assumption)] | rw [(zf_f_X12_pair _ _ _ _).resolve_left (by assumption)] | rw [(zf_f_X12_readHate _).resolve_left (by assumption)] | rw [(zf_f_X12_line _).resolve_left (by assumption)])
                     done)
              · rw [if_neg q7]
                by_cases q8 : f_X12_leafOf H < 6
                · rw [if_pos q8]
                  by_cases q9 : f_X12_leafOf H = 3
                  · rw [if_pos q9]
                    by_cases q10 : ((f_X12_looksAt 17 ((f_X12_next (upI H 29 47 (iAdd (H.1 29 47) 1))).1 31 3) (upI (f_X12_next (upI H 29 47 (iAdd (H.1 29 47) 1))) 29 50 1)).1) = 0
                    · rw [if_pos q10]
                      first
                        | exact Or.inl rfl
                        | (right
                           dsimp only
                           repeat' (first | rfl | rw [pd_upI_ne (by omega)] | rw [um_L] | rw [um_R] | rw [zf_f_X12_blanks] | rw [zf_f_X12_run] | rw [zf_f_X12_nxEnd] | rw [zf_f_X12_nx2] | rw [zf_f_X12_next] | rw [zf_f_X12_taken] | rw [zf_f_X12_code] | rw [zf_f_X12_ntl] | rw [zf_f_X12_nots] | rw [zf_f_X12_jnl] | rw [zf_f_X12_joins] | rw [zf_f_X12_dz] | rw [zf_f_X12_dc] | rw [zf_f_X12_dn] | rw [zf_f_X12_dl] | rw [zf_f_X12_dtail] | rw [zf_f_X12_scp] | rw [zf_f_X12_stail] | rw [(zf_f_X12_sign _ _).resolve_left (by assumption)] | rw [(zf_f_X12_takes _ _ _).resolve_left (by assumption)] | rw [(zf_f_X12_puts _ _ _ _).resolve_left (by assumption)] | rw [(zf_f_X12_fresh _ _).resolve_left (by assumption)] | rw [(zf_f_X12_looksAt _ _ _).resolve_left (by assumption)] | rw [(zf_f_X12_takesName _ _ _).resolve_left (by assumption)] | rw [(zf_f_X12_readName _ _ _ _).resolve_left (by assumption)] | rw [(zf_f_X12_readPerson _).resolve_left (by assumption)] | rw [(zf_f_X12_pair _ _ _ _).resolve_left (by assumption)] | rw [(zf_f_X12_readHate _).resolve_left (by assumption)] | rw [(zf_f_X12_line _).resolve_left (by assumption)])
                           done)
                    · rw [if_neg q10]
                      first
                        | exact Or.inl rfl
                        | (right
                           dsimp only
                           repeat' (first | rfl | rw [pd_upI_ne (by omega)] | rw [um_L] | rw [um_R] | rw [zf_f_X12_blanks] | rw [zf_f_X12_run] | rw [zf_f_X12_nxEnd] | rw [zf_f_X12_nx2] | rw [zf_f_X12_next] | rw [zf_f_X12_taken] | rw [zf_f_X12_code] | rw [zf_f_X12_ntl] | rw [zf_f_X12_nots] | rw [zf_f_X12_jnl] | rw [zf_f_X12_joins] | rw [zf_f_X12_dz] | rw [zf_f_X12_dc] | rw [zf_f_X12_dn] | rw [zf_f_X12_dl] | rw [zf_f_X12_dtail] | rw [zf_f_X12_scp] | rw [zf_f_X12_stail] | rw [(zf_f_X12_sign _ _).resolve_left (by assumption)] | rw [(zf_f_X12_takes _ _ _).resolve_left (by assumption)] | rw [(zf_f_X12_puts _ _ _ _).resolve_left (by assumption)] | rw [(zf_f_X12_fresh _ _).resolve_left (by assumption)] | rw [(zf_f_X12_looksAt _ _ _).resolve_left (by assumption)] | rw [(zf_f_X12_takesName _ _ _).resolve_left (by assumption)] | rw [(zf_f_X12_readName _ _ _ _).resolve_left (by assumption)] | rw [(zf_f_X12_readPerson _).resolve_left (by assumption)] | rw [(zf_f_X12_pair _ _ _ _).resolve_left (by assumption)] | rw [(zf_f_X12_readHate _).resolve_left (by assumption)] | rw [(zf_f_X12_line _).resolve_left (by assumption)])
                           done)
                  · rw [if_neg q9]
                    by_cases q10 : f_X12_leafOf H = 4
                    · rw [if_pos q10]
                      by_cases q11 : ((f_X12_looksAt 0 ((f_X12_next (upI H 29 47 (iAdd (H.1 29 47) 1))).1 31 0) (upI (f_X12_next (upI H 29 47 (iAdd (H.1 29 47) 1))) 29 50 1)).1) = 0
                      · rw [if_pos q11]
                        first
                          | exact Or.inl rfl
                          | (right
                             dsimp only
                             repeat' (first | rfl | rw [pd_upI_ne (by omega)] | rw [um_L] | rw [um_R] | rw [zf_f_X12_blanks] | rw [zf_f_X12_run] | rw [zf_f_X12_nxEnd] | rw [zf_f_X12_nx2] | rw [zf_f_X12_next] | rw [zf_f_X12_taken] | rw [zf_f_X12_code] | rw [zf_f_X12_ntl] | rw [zf_f_X12_nots] | rw [zf_f_X12_jnl] | rw [zf_f_X12_joins] | rw [zf_f_X12_dz] | rw [zf_f_X12_dc] | rw [zf_f_X12_dn] | rw [zf_f_X12_dl] | rw [zf_f_X12_dtail] | rw [zf_f_X12_scp] | rw [zf_f_X12_stail] | rw [(zf_f_X12_sign _ _).resolve_left (by assumption)] | rw [(zf_f_X12_takes _ _ _).resolve_left (by assumption)] | rw [(zf_f_X12_puts _ _ _ _).resolve_left (by assumption)] | rw [(zf_f_X12_fresh _ _).resolve_left (by assumption)] | rw [(zf_f_X12_looksAt _ _ _).resolve_left (by assumption)] | rw [(zf_f_X12_takesName _ _ _).resolve_left (by assumption)] | rw [(zf_f_X12_readName _ _ _ _).resolve_left (by assumption)] | rw [(zf_f_X12_readPerson _).resolve_left (by assumption)] | rw [(zf_f_X12_pair _ _ _ _).resolve_left (by assumption)] | rw [(zf_f_X12_readHate _).resolve_left (by assumption)] | rw [(zf_f_X12_line _).resolve_left (by assumption)])
                             done)
                      · rw [if_neg q11]
                        first
                          | exact Or.inl rfl
                          | (right
                             dsimp only
                             repeat' (first | rfl | rw [pd_upI_ne (by omega)] | rw [um_L] | rw [um_R] | rw [zf_f_X12_blanks] | rw [zf_f_X12_run] | rw [zf_f_X12_nxEnd] | rw [zf_f_X12_nx2] | rw [zf_f_X12_next] | rw [zf_f_X12_taken] | rw [zf_f_X12_code] | rw [zf_f_X12_ntl] | rw [zf_f_X12_nots] | rw [zf_f_X12_jnl] | rw [zf_f_X12_joins] | rw [zf_f_X12_dz] | rw [zf_f_X12_dc] | rw [zf_f_X12_dn] | rw [zf_f_X12_dl] | rw [zf_f_X12_dtail] | rw [zf_f_X12_scp] | rw [zf_f_X12_stail] | rw [(zf_f_X12_sign _ _).resolve_left (by assumption)] | rw [(zf_f_X12_takes _ _ _).resolve_left (by assumption)] | rw [(zf_f_X12_puts _ _ _ _).resolve_left (by assumption)] | rw [(zf_f_X12_fresh _ _).resolve_left (by assumption)] | rw [(zf_f_X12_looksAt _ _ _).resolve_left (by assumption)] | rw [(zf_f_X12_takesName _ _ _).resolve_left (by assumption)] | rw [(zf_f_X12_readName _ _ _ _).resolve_left (by assumption)] | rw [(zf_f_X12_readPerson _).resolve_left (by assumption)] | rw [(zf_f_X12_pair _ _ _ _).resolve_left (by assumption)] | rw [(zf_f_X12_readHate _).resolve_left (by assumption)] | rw [(zf_f_X12_line _).resolve_left (by assumption)])
                             done)
                    · rw [if_neg q10]
                      by_cases q11 : ((f_X12_looksAt 4 ((f_X12_next (upI H 29 47 (iAdd (H.1 29 47) 1))).1 31 1) (upI (f_X12_next (upI H 29 47 (iAdd (H.1 29 47) 1))) 29 50 1)).1) = 0
                      · rw [if_pos q11]
                        first
                          | exact Or.inl rfl
                          | (right
                             dsimp only
                             repeat' (first | rfl | rw [pd_upI_ne (by omega)] | rw [um_L] | rw [um_R] | rw [zf_f_X12_blanks] | rw [zf_f_X12_run] | rw [zf_f_X12_nxEnd] | rw [zf_f_X12_nx2] | rw [zf_f_X12_next] | rw [zf_f_X12_taken] | rw [zf_f_X12_code] | rw [zf_f_X12_ntl] | rw [zf_f_X12_nots] | rw [zf_f_X12_jnl] | rw [zf_f_X12_joins] | rw [zf_f_X12_dz] | rw [zf_f_X12_dc] | rw [zf_f_X12_dn] | rw [zf_f_X12_dl] | rw [zf_f_X12_dtail] | rw [zf_f_X12_scp] | rw [zf_f_X12_stail] | rw [(zf_f_X12_sign _ _).resolve_left (by assumption)] | rw [(zf_f_X12_takes _ _ _).resolve_left (by assumption)] | rw [(zf_f_X12_puts _ _ _ _).resolve_left (by assumption)] | rw [(zf_f_X12_fresh _ _).resolve_left (by assumption)] | rw [(zf_f_X12_looksAt _ _ _).resolve_left (by assumption)] | rw [(zf_f_X12_takesName _ _ _).resolve_left (by assumption)] | rw [(zf_f_X12_readName _ _ _ _).resolve_left (by assumption)] | rw [(zf_f_X12_readPerson _).resolve_left (by assumption)] | rw [(zf_f_X12_pair _ _ _ _).resolve_left (by assumption)] | rw [(zf_f_X12_readHate _).resolve_left (by assumption)] | rw [(zf_f_X12_line _).resolve_left (by assumption)])
                             done)
                      · rw [if_neg q11]
                        first
                          | exact Or.inl rfl
                          | (right
                             dsimp only
                             repeat' (first | rfl | rw [pd_upI_ne (by omega)] | rw [um_L] | rw [um_R] | rw [zf_f_X12_blanks] | rw [zf_f_X12_run] | rw [zf_f_X12_nxEnd] | rw [zf_f_X12_nx2] | rw [zf_f_X12_next] | rw [zf_f_X12_taken] | rw [zf_f_X12_code] | rw [zf_f_X12_ntl] | rw [zf_f_X12_nots] | rw [zf_f_X12_jnl] | rw [zf_f_X12_joins] | rw [zf_f_X12_dz] | rw [zf_f_X12_dc] | rw [zf_f_X12_dn] | rw [zf_f_X12_dl] | rw [zf_f_X12_dtail] | rw [zf_f_X12_scp] | rw [zf_f_X12_stail] | rw [(zf_f_X12_sign _ _).resolve_left (by assumption)] | rw [(zf_f_X12_takes _ _ _).resolve_left (by assumption)] | rw [(zf_f_X12_puts _ _ _ _).resolve_left (by assumption)] | rw [(zf_f_X12_fresh _ _).resolve_left (by assumption)] | rw [(zf_f_X12_looksAt _ _ _).resolve_left (by assumption)] | rw [(zf_f_X12_takesName _ _ _).resolve_left (by assumption)] | rw [(zf_f_X12_readName _ _ _ _).resolve_left (by assumption)] | rw [(zf_f_X12_readPerson _).resolve_left (by assumption)] | rw [(zf_f_X12_pair _ _ _ _).resolve_left (by assumption)] | rw [(zf_f_X12_readHate _).resolve_left (by assumption)] | rw [(zf_f_X12_line _).resolve_left (by assumption)])
                             done)
                · rw [if_neg q8]
                  by_cases q9 : ((f_X12_next (upI H 29 47 (iAdd (H.1 29 47) 1))).1 29 11) = 3
                  · rw [if_pos q9]
                    by_cases q10 : ((f_X12_next (upI H 29 47 (iAdd (H.1 29 47) 1))).1 29 14) < 60
                    · rw [if_pos q10]
                      first
                        | exact Or.inl rfl
                        | (right
                           dsimp only
                           repeat' (first | rfl | rw [pd_upI_ne (by omega)] | rw [um_L] | rw [um_R] | rw [zf_f_X12_blanks] | rw [zf_f_X12_run] | rw [zf_f_X12_nxEnd] | rw [zf_f_X12_nx2] | rw [zf_f_X12_next] | rw [zf_f_X12_taken] | rw [zf_f_X12_code] | rw [zf_f_X12_ntl] | rw [zf_f_X12_nots] | rw [zf_f_X12_jnl] | rw [zf_f_X12_joins] | rw [zf_f_X12_dz] | rw [zf_f_X12_dc] | rw [zf_f_X12_dn] | rw [zf_f_X12_dl] | rw [zf_f_X12_dtail] | rw [zf_f_X12_scp] | rw [zf_f_X12_stail] | rw [(zf_f_X12_sign _ _).resolve_left (by assumption)] | rw [(zf_f_X12_takes _ _ _).resolve_left (by assumption)] | rw [(zf_f_X12_puts _ _ _ _).resolve_left (by assumption)] | rw [(zf_f_X12_fresh _ _).resolve_left (by assumption)] | rw [(zf_f_X12_looksAt _ _ _).resolve_left (by assumption)] | rw [(zf_f_X12_takesName _ _ _).resolve_left (by assumption)] | rw [(zf_f_X12_readName _ _ _ _).resolve_left (by assumption)] | rw [(zf_f_X12_readPerson _).resolve_left (by assumption)] | rw [(zf_f_X12_pair _ _ _ _).resolve_left (by assumption)] | rw [(zf_f_X12_readHate _).resolve_left (by assumption)] | rw [(zf_f_X12_line _).resolve_left (by assumption)])
                           done)
                    · rw [if_neg q10]
                      by_cases q11 : 62 < ((f_X12_next (upI H 29 47 (iAdd (H.1 29 47) 1))).1 29 14)
                      · rw [if_pos q11]
                        first
                          | exact Or.inl rfl
                          | (right
                             dsimp only
                             repeat' (first | rfl | rw [pd_upI_ne (by omega)] | rw [um_L] | rw [um_R] | rw [zf_f_X12_blanks] | rw [zf_f_X12_run] | rw [zf_f_X12_nxEnd] | rw [zf_f_X12_nx2] | rw [zf_f_X12_next] | rw [zf_f_X12_taken] | rw [zf_f_X12_code] | rw [zf_f_X12_ntl] | rw [zf_f_X12_nots] | rw [zf_f_X12_jnl] | rw [zf_f_X12_joins] | rw [zf_f_X12_dz] | rw [zf_f_X12_dc] | rw [zf_f_X12_dn] | rw [zf_f_X12_dl] | rw [zf_f_X12_dtail] | rw [zf_f_X12_scp] | rw [zf_f_X12_stail] | rw [(zf_f_X12_sign _ _).resolve_left (by assumption)] | rw [(zf_f_X12_takes _ _ _).resolve_left (by assumption)] | rw [(zf_f_X12_puts _ _ _ _).resolve_left (by assumption)] | rw [(zf_f_X12_fresh _ _).resolve_left (by assumption)] | rw [(zf_f_X12_looksAt _ _ _).resolve_left (by assumption)] | rw [(zf_f_X12_takesName _ _ _).resolve_left (by assumption)] | rw [(zf_f_X12_readName _ _ _ _).resolve_left (by assumption)] | rw [(zf_f_X12_readPerson _).resolve_left (by assumption)] | rw [(zf_f_X12_pair _ _ _ _).resolve_left (by assumption)] | rw [(zf_f_X12_readHate _).resolve_left (by assumption)] | rw [(zf_f_X12_line _).resolve_left (by assumption)])
                             done)
                      · rw [if_neg q11]
                        by_cases q12 : ((f_X12_next (upI (f_X12_next (upI H 29 47 (iAdd (H.1 29 47) 1))) 29 50 1)).1 29 11) = 2
                        · rw [if_pos q12]
                          first
                            | exact Or.inl rfl
                            | (right
                               dsimp only
                               repeat' (first | rfl | rw [pd_upI_ne (by omega)] | rw [um_L] | rw [um_R] | rw [zf_f_X12_blanks] | rw [zf_f_X12_run] | rw [zf_f_X12_nxEnd] | rw [zf_f_X12_nx2] | rw [zf_f_X12_next] | rw [zf_f_X12_taken] | rw [zf_f_X12_code] | rw [zf_f_X12_ntl] | rw [zf_f_X12_nots] | rw [zf_f_X12_jnl] | rw [zf_f_X12_joins] | rw [zf_f_X12_dz] | rw [zf_f_X12_dc] | rw [zf_f_X12_dn] | rw [zf_f_X12_dl] | rw [zf_f_X12_dtail] | rw [zf_f_X12_scp] | rw [zf_f_X12_stail] | rw [(zf_f_X12_sign _ _).resolve_left (by assumption)] | rw [(zf_f_X12_takes _ _ _).resolve_left (by assumption)] | rw [(zf_f_X12_puts _ _ _ _).resolve_left (by assumption)] | rw [(zf_f_X12_fresh _ _).resolve_left (by assumption)] | rw [(zf_f_X12_looksAt _ _ _).resolve_left (by assumption)] | rw [(zf_f_X12_takesName _ _ _).resolve_left (by assumption)] | rw [(zf_f_X12_readName _ _ _ _).resolve_left (by assumption)] | rw [(zf_f_X12_readPerson _).resolve_left (by assumption)] | rw [(zf_f_X12_pair _ _ _ _).resolve_left (by assumption)] | rw [(zf_f_X12_readHate _).resolve_left (by assumption)] | rw [(zf_f_X12_line _).resolve_left (by assumption)])
                               done)
                        · rw [if_neg q12]
                          first
                            | exact Or.inl rfl
                            | (right
                               dsimp only
                               repeat' (first | rfl | rw [pd_upI_ne (by omega)] | rw [um_L] | rw [um_R] | rw [zf_f_X12_blanks] | rw [zf_f_X12_run] | rw [zf_f_X12_nxEnd] | rw [zf_f_X12_nx2] | rw [zf_f_X12_next] | rw [zf_f_X12_taken] | rw [zf_f_X12_code] | rw [zf_f_X12_ntl] | rw [zf_f_X12_nots] | rw [zf_f_X12_jnl] | rw [zf_f_X12_joins] | rw [zf_f_X12_dz] | rw [zf_f_X12_dc] | rw [zf_f_X12_dn] | rw [zf_f_X12_dl] | rw [zf_f_X12_dtail] | rw [zf_f_X12_scp] | rw [zf_f_X12_stail] | rw [(zf_f_X12_sign _ _).resolve_left (by assumption)] | rw [(zf_f_X12_takes _ _ _).resolve_left (by assumption)] | rw [(zf_f_X12_puts _ _ _ _).resolve_left (by assumption)] | rw [(zf_f_X12_fresh _ _).resolve_left (by assumption)] | rw [(zf_f_X12_looksAt _ _ _).resolve_left (by assumption)] | rw [(zf_f_X12_takesName _ _ _).resolve_left (by assumption)] | rw [(zf_f_X12_readName _ _ _ _).resolve_left (by assumption)] | rw [(zf_f_X12_readPerson _).resolve_left (by assumption)] | rw [(zf_f_X12_pair _ _ _ _).resolve_left (by assumption)] | rw [(zf_f_X12_readHate _).resolve_left (by assumption)] | rw [(zf_f_X12_line _).resolve_left (by assumption)])
                               done)
                  · rw [if_neg q9]
                    first
                      | exact Or.inl rfl
                      | (right
                         dsimp only
                         repeat' (first | rfl | rw [pd_upI_ne (by omega)] | rw [um_L] | rw [um_R] | rw [zf_f_X12_blanks] | rw [zf_f_X12_run] | rw [zf_f_X12_nxEnd] | rw [zf_f_X12_nx2] | rw [zf_f_X12_next] | rw [zf_f_X12_taken] | rw [zf_f_X12_code] | rw [zf_f_X12_ntl] | rw [zf_f_X12_nots] | rw [zf_f_X12_jnl] | rw [zf_f_X12_joins] | rw [zf_f_X12_dz] | rw [zf_f_X12_dc] | rw [zf_f_X12_dn] | rw [zf_f_X12_dl] | rw [zf_f_X12_dtail] | rw [zf_f_X12_scp] | rw [zf_f_X12_stail] | rw [(zf_f_X12_sign _ _).resolve_left (by assumption)] | rw [(zf_f_X12_takes _ _ _).resolve_left (by assumption)] | rw [(zf_f_X12_puts _ _ _ _).resolve_left (by assumption)] | rw [(zf_f_X12_fresh _ _).resolve_left (by assumption)] | rw [(zf_f_X12_looksAt _ _ _).resolve_left (by assumption)] | rw [(zf_f_X12_takesName _ _ _).resolve_left (by assumption)] | rw [(zf_f_X12_readName _ _ _ _).resolve_left (by assumption)] | rw [(zf_f_X12_readPerson _).resolve_left (by assumption)] | rw [(zf_f_X12_pair _ _ _ _).resolve_left (by assumption)] | rw [(zf_f_X12_readHate _).resolve_left (by assumption)] | rw [(zf_f_X12_line _).resolve_left (by assumption)])
                         done)
            · rw [if_neg q6]
              by_cases q7 : f_X12_isWord 7237492 H = 0
              · rw [if_pos q7]
                first
                  | exact Or.inl rfl
                  | (right
                     dsimp only
                     repeat' (first | rfl | rw [pd_upI_ne (by omega)] | rw [um_L] | rw [um_R] | rw [zf_f_X12_blanks] | rw [zf_f_X12_run] | rw [zf_f_X12_nxEnd] | rw [zf_f_X12_nx2] | rw [zf_f_X12_next] | rw [zf_f_X12_taken] | rw [zf_f_X12_code] | rw [zf_f_X12_ntl] | rw [zf_f_X12_nots] | rw [zf_f_X12_jnl] | rw [zf_f_X12_joins] | rw [zf_f_X12_dz] | rw [zf_f_X12_dc] | rw [zf_f_X12_dn] | rw [zf_f_X12_dl] | rw [zf_f_X12_dtail] | rw [zf_f_X12_scp] | rw [zf_f_X12_stail] | rw [(zf_f_X12_sign _ _).resolve_left (by assumption)] | rw [(zf_f_X12_takes _ _ _).resolve_left (by assumption)] | rw [(zf_f_X12_puts _ _ _ _).resolve_left (by assumption)] | rw [(zf_f_X12_fresh _ _).resolve_left (by assumption)] | rw [(zf_f_X12_looksAt _ _ _).resolve_left (by assumption)] | rw [(zf_f_X12_takesName _ _ _).resolve_left (by assumption)] | rw [(zf_f_X12_readName _ _ _ _).resolve_left (by assumption)] | rw [(zf_f_X12_readPerson _).resolve_left (by assumption)] | rw [(zf_f_X12_pair _ _ _ _).resolve_left (by assumption)] | rw [(zf_f_X12_readHate _).resolve_left (by assumption)] | rw [(zf_f_X12_line _).resolve_left (by assumption)])
                     done)
              · rw [if_neg q7]
                first
                  | exact Or.inl rfl
                  | (right
                     dsimp only
                     repeat' (first | rfl | rw [pd_upI_ne (by omega)] | rw [um_L] | rw [um_R] | rw [zf_f_X12_blanks] | rw [zf_f_X12_run] | rw [zf_f_X12_nxEnd] | rw [zf_f_X12_nx2] | rw [zf_f_X12_next] | rw [zf_f_X12_taken] | rw [zf_f_X12_code] | rw [zf_f_X12_ntl] | rw [zf_f_X12_nots] | rw [zf_f_X12_jnl] | rw [zf_f_X12_joins] | rw [zf_f_X12_dz] | rw [zf_f_X12_dc] | rw [zf_f_X12_dn] | rw [zf_f_X12_dl] | rw [zf_f_X12_dtail] | rw [zf_f_X12_scp] | rw [zf_f_X12_stail] | rw [(zf_f_X12_sign _ _).resolve_left (by assumption)] | rw [(zf_f_X12_takes _ _ _).resolve_left (by assumption)] | rw [(zf_f_X12_puts _ _ _ _).resolve_left (by assumption)] | rw [(zf_f_X12_fresh _ _).resolve_left (by assumption)] | rw [(zf_f_X12_looksAt _ _ _).resolve_left (by assumption)] | rw [(zf_f_X12_takesName _ _ _).resolve_left (by assumption)] | rw [(zf_f_X12_readName _ _ _ _).resolve_left (by assumption)] | rw [(zf_f_X12_readPerson _).resolve_left (by assumption)] | rw [(zf_f_X12_pair _ _ _ _).resolve_left (by assumption)] | rw [(zf_f_X12_readHate _).resolve_left (by assumption)] | rw [(zf_f_X12_line _).resolve_left (by assumption)])
                     done)
          · rw [if_neg q5]
            by_cases q6 : f_X12_isWord 7237492 H = 0
            · rw [if_pos q6]
              first
                | exact Or.inl rfl
                | (right
                   dsimp only
                   repeat' (first | rfl | rw [pd_upI_ne (by omega)] | rw [um_L] | rw [um_R] | rw [zf_f_X12_blanks] | rw [zf_f_X12_run] | rw [zf_f_X12_nxEnd] | rw [zf_f_X12_nx2] | rw [zf_f_X12_next] | rw [zf_f_X12_taken] | rw [zf_f_X12_code] | rw [zf_f_X12_ntl] | rw [zf_f_X12_nots] | rw [zf_f_X12_jnl] | rw [zf_f_X12_joins] | rw [zf_f_X12_dz] | rw [zf_f_X12_dc] | rw [zf_f_X12_dn] | rw [zf_f_X12_dl] | rw [zf_f_X12_dtail] | rw [zf_f_X12_scp] | rw [zf_f_X12_stail] | rw [(zf_f_X12_sign _ _).resolve_left (by assumption)] | rw [(zf_f_X12_takes _ _ _).resolve_left (by assumption)] | rw [(zf_f_X12_puts _ _ _ _).resolve_left (by assumption)] | rw [(zf_f_X12_fresh _ _).resolve_left (by assumption)] | rw [(zf_f_X12_looksAt _ _ _).resolve_left (by assumption)] | rw [(zf_f_X12_takesName _ _ _).resolve_left (by assumption)] | rw [(zf_f_X12_readName _ _ _ _).resolve_left (by assumption)] | rw [(zf_f_X12_readPerson _).resolve_left (by assumption)] | rw [(zf_f_X12_pair _ _ _ _).resolve_left (by assumption)] | rw [(zf_f_X12_readHate _).resolve_left (by assumption)] | rw [(zf_f_X12_line _).resolve_left (by assumption)])
                   done)
            · rw [if_neg q6]
              first
                | exact Or.inl rfl
                | (right
                   dsimp only
                   repeat' (first | rfl | rw [pd_upI_ne (by omega)] | rw [um_L] | rw [um_R] | rw [zf_f_X12_blanks] | rw [zf_f_X12_run] | rw [zf_f_X12_nxEnd] | rw [zf_f_X12_nx2] | rw [zf_f_X12_next] | rw [zf_f_X12_taken] | rw [zf_f_X12_code] | rw [zf_f_X12_ntl] | rw [zf_f_X12_nots] | rw [zf_f_X12_jnl] | rw [zf_f_X12_joins] | rw [zf_f_X12_dz] | rw [zf_f_X12_dc] | rw [zf_f_X12_dn] | rw [zf_f_X12_dl] | rw [zf_f_X12_dtail] | rw [zf_f_X12_scp] | rw [zf_f_X12_stail] | rw [(zf_f_X12_sign _ _).resolve_left (by assumption)] | rw [(zf_f_X12_takes _ _ _).resolve_left (by assumption)] | rw [(zf_f_X12_puts _ _ _ _).resolve_left (by assumption)] | rw [(zf_f_X12_fresh _ _).resolve_left (by assumption)] | rw [(zf_f_X12_looksAt _ _ _).resolve_left (by assumption)] | rw [(zf_f_X12_takesName _ _ _).resolve_left (by assumption)] | rw [(zf_f_X12_readName _ _ _ _).resolve_left (by assumption)] | rw [(zf_f_X12_readPerson _).resolve_left (by assumption)] | rw [(zf_f_X12_pair _ _ _ _).resolve_left (by assumption)] | rw [(zf_f_X12_readHate _).resolve_left (by assumption)] | rw [(zf_f_X12_line _).resolve_left (by assumption)])
                   done)
  · rw [if_neg q1]
    by_cases q2 : H.1 29 47 = 20
    · rw [if_pos q2]
      first
        | exact Or.inl rfl
        | (right
           dsimp only
           repeat' (first | rfl | rw [pd_upI_ne (by omega)] | rw [um_L] | rw [um_R] | rw [zf_f_X12_blanks] | rw [zf_f_X12_run] | rw [zf_f_X12_nxEnd] | rw [zf_f_X12_nx2] | rw [zf_f_X12_next] | rw [zf_f_X12_taken] | rw [zf_f_X12_code] | rw [zf_f_X12_ntl] | rw [zf_f_X12_nots] | rw [zf_f_X12_jnl] | rw [zf_f_X12_joins] | rw [zf_f_X12_dz] | rw [zf_f_X12_dc] | rw [zf_f_X12_dn] | rw [zf_f_X12_dl] | rw [zf_f_X12_dtail] | rw [zf_f_X12_scp] | rw [zf_f_X12_stail] | rw [(zf_f_X12_sign _ _).resolve_left (by assumption)] | rw [(zf_f_X12_takes _ _ _).resolve_left (by assumption)] | rw [(zf_f_X12_puts _ _ _ _).resolve_left (by assumption)] | rw [(zf_f_X12_fresh _ _).resolve_left (by assumption)] | rw [(zf_f_X12_looksAt _ _ _).resolve_left (by assumption)] | rw [(zf_f_X12_takesName _ _ _).resolve_left (by assumption)] | rw [(zf_f_X12_readName _ _ _ _).resolve_left (by assumption)] | rw [(zf_f_X12_readPerson _).resolve_left (by assumption)] | rw [(zf_f_X12_pair _ _ _ _).resolve_left (by assumption)] | rw [(zf_f_X12_readHate _).resolve_left (by assumption)] | rw [(zf_f_X12_line _).resolve_left (by assumption)])
           done)
    · rw [if_neg q2]
      by_cases q3 : 8 < H.1 29 49
      · rw [if_pos q3]
        first
          | exact Or.inl rfl
          | (right
             dsimp only
             repeat' (first | rfl | rw [pd_upI_ne (by omega)] | rw [um_L] | rw [um_R] | rw [zf_f_X12_blanks] | rw [zf_f_X12_run] | rw [zf_f_X12_nxEnd] | rw [zf_f_X12_nx2] | rw [zf_f_X12_next] | rw [zf_f_X12_taken] | rw [zf_f_X12_code] | rw [zf_f_X12_ntl] | rw [zf_f_X12_nots] | rw [zf_f_X12_jnl] | rw [zf_f_X12_joins] | rw [zf_f_X12_dz] | rw [zf_f_X12_dc] | rw [zf_f_X12_dn] | rw [zf_f_X12_dl] | rw [zf_f_X12_dtail] | rw [zf_f_X12_scp] | rw [zf_f_X12_stail] | rw [(zf_f_X12_sign _ _).resolve_left (by assumption)] | rw [(zf_f_X12_takes _ _ _).resolve_left (by assumption)] | rw [(zf_f_X12_puts _ _ _ _).resolve_left (by assumption)] | rw [(zf_f_X12_fresh _ _).resolve_left (by assumption)] | rw [(zf_f_X12_looksAt _ _ _).resolve_left (by assumption)] | rw [(zf_f_X12_takesName _ _ _).resolve_left (by assumption)] | rw [(zf_f_X12_readName _ _ _ _).resolve_left (by assumption)] | rw [(zf_f_X12_readPerson _).resolve_left (by assumption)] | rw [(zf_f_X12_pair _ _ _ _).resolve_left (by assumption)] | rw [(zf_f_X12_readHate _).resolve_left (by assumption)] | rw [(zf_f_X12_line _).resolve_left (by assumption)])
             done)
      · rw [if_neg q3]
        by_cases q4 : f_X12_isWord 7237492 H = 0
        · rw [if_pos q4]
          by_cases q5 : f_X12_isSign 40 H = 0
          · rw [if_pos q5]
            by_cases q6 : f_X12_leafOf H < 3
            · rw [if_pos q6]
              first
                | exact Or.inl rfl
                | (right
                   dsimp only
                   repeat' (first | rfl | rw [pd_upI_ne (by omega)] | rw [um_L] | rw [um_R] | rw [zf_f_X12_blanks] | rw [zf_f_X12_run] | rw [zf_f_X12_nxEnd] | rw [zf_f_X12_nx2] | rw [zf_f_X12_next] | rw [zf_f_X12_taken] | rw [zf_f_X12_code] | rw [zf_f_X12_ntl] | rw [zf_f_X12_nots] | rw [zf_f_X12_jnl] | rw [zf_f_X12_joins] | rw [zf_f_X12_dz] | rw [zf_f_X12_dc] | rw [zf_f_X12_dn] | rw [zf_f_X12_dl] | rw [zf_f_X12_dtail] | rw [zf_f_X12_scp] | rw [zf_f_X12_stail] | rw [(zf_f_X12_sign _ _).resolve_left (by assumption)] | rw [(zf_f_X12_takes _ _ _).resolve_left (by assumption)] | rw [(zf_f_X12_puts _ _ _ _).resolve_left (by assumption)] | rw [(zf_f_X12_fresh _ _).resolve_left (by assumption)] | rw [(zf_f_X12_looksAt _ _ _).resolve_left (by assumption)] | rw [(zf_f_X12_takesName _ _ _).resolve_left (by assumption)] | rw [(zf_f_X12_readName _ _ _ _).resolve_left (by assumption)] | rw [(zf_f_X12_readPerson _).resolve_left (by assumption)] | rw [(zf_f_X12_pair _ _ _ _).resolve_left (by assumption)] | rw [(zf_f_X12_readHate _).resolve_left (by assumption)] | rw [(zf_f_X12_line _).resolve_left (by assumption)])
                   done)
            · rw [if_neg q6]
              by_cases q7 : f_X12_leafOf H < 6
              · rw [if_pos q7]
                by_cases q8 : f_X12_leafOf H = 3
                · rw [if_pos q8]
                  by_cases q9 : ((f_X12_looksAt 17 ((f_X12_next (upI H 29 47 (iAdd (H.1 29 47) 1))).1 31 3) (upI (f_X12_next (upI H 29 47 (iAdd (H.1 29 47) 1))) 29 50 1)).1) = 0
                  · rw [if_pos q9]
                    first
                      | exact Or.inl rfl
                      | (right
                         dsimp only
                         repeat' (first | rfl | rw [pd_upI_ne (by omega)] | rw [um_L] | rw [um_R] | rw [zf_f_X12_blanks] | rw [zf_f_X12_run] | rw [zf_f_X12_nxEnd] | rw [zf_f_X12_nx2] | rw [zf_f_X12_next] | rw [zf_f_X12_taken] | rw [zf_f_X12_code] | rw [zf_f_X12_ntl] | rw [zf_f_X12_nots] | rw [zf_f_X12_jnl] | rw [zf_f_X12_joins] | rw [zf_f_X12_dz] | rw [zf_f_X12_dc] | rw [zf_f_X12_dn] | rw [zf_f_X12_dl] | rw [zf_f_X12_dtail] | rw [zf_f_X12_scp] | rw [zf_f_X12_stail] | rw [(zf_f_X12_sign _ _).resolve_left (by assumption)] | rw [(zf_f_X12_takes _ _ _).resolve_left (by assumption)] | rw [(zf_f_X12_puts _ _ _ _).resolve_left (by assumption)] | rw [(zf_f_X12_fresh _ _).resolve_left (by assumption)] | rw [(zf_f_X12_looksAt _ _ _).resolve_left (by assumption)] | rw [(zf_f_X12_takesName _ _ _).resolve_left (by assumption)] | rw [(zf_f_X12_readName _ _ _ _).resolve_left (by assumption)] | rw [(zf_f_X12_readPerson _).resolve_left (by assumption)] | rw [(zf_f_X12_pair _ _ _ _).resolve_left (by assumption)] | rw [(zf_f_X12_readHate _).resolve_left (by assumption)] | rw [(zf_f_X12_line _).resolve_left (by assumption)])
                         done)
                  · rw [if_neg q9]
                    first
                      | exact Or.inl rfl
                      | (right
                         dsimp only
                         repeat' (first | rfl | rw [pd_upI_ne (by omega)] | rw [um_L] | rw [um_R] | rw [zf_f_X12_blanks] | rw [zf_f_X12_run] | rw [zf_f_X12_nxEnd] | rw [zf_f_X12_nx2] | rw [zf_f_X12_next] | rw [zf_f_X12_taken] | rw [zf_f_X12_code] | rw [zf_f_X12_ntl] | rw [zf_f_X12_nots] | rw [zf_f_X12_jnl] | rw [zf_f_X12_joins] | rw [zf_f_X12_dz] | rw [zf_f_X12_dc] | rw [zf_f_X12_dn] | rw [zf_f_X12_dl] | rw [zf_f_X12_dtail] | rw [zf_f_X12_scp] | rw [zf_f_X12_stail] | rw [(zf_f_X12_sign _ _).resolve_left (by assumption)] | rw [(zf_f_X12_takes _ _ _).resolve_left (by assumption)] | rw [(zf_f_X12_puts _ _ _ _).resolve_left (by assumption)] | rw [(zf_f_X12_fresh _ _).resolve_left (by assumption)] | rw [(zf_f_X12_looksAt _ _ _).resolve_left (by assumption)] | rw [(zf_f_X12_takesName _ _ _).resolve_left (by assumption)] | rw [(zf_f_X12_readName _ _ _ _).resolve_left (by assumption)] | rw [(zf_f_X12_readPerson _).resolve_left (by assumption)] | rw [(zf_f_X12_pair _ _ _ _).resolve_left (by assumption)] | rw [(zf_f_X12_readHate _).resolve_left (by assumption)] | rw [(zf_f_X12_line _).resolve_left (by assumption)])
                         done)
                · rw [if_neg q8]
                  by_cases q9 : f_X12_leafOf H = 4
                  · rw [if_pos q9]
                    by_cases q10 : ((f_X12_looksAt 0 ((f_X12_next (upI H 29 47 (iAdd (H.1 29 47) 1))).1 31 0) (upI (f_X12_next (upI H 29 47 (iAdd (H.1 29 47) 1))) 29 50 1)).1) = 0
                    · rw [if_pos q10]
                      first
                        | exact Or.inl rfl
                        | (right
                           dsimp only
                           repeat' (first | rfl | rw [pd_upI_ne (by omega)] | rw [um_L] | rw [um_R] | rw [zf_f_X12_blanks] | rw [zf_f_X12_run] | rw [zf_f_X12_nxEnd] | rw [zf_f_X12_nx2] | rw [zf_f_X12_next] | rw [zf_f_X12_taken] | rw [zf_f_X12_code] | rw [zf_f_X12_ntl] | rw [zf_f_X12_nots] | rw [zf_f_X12_jnl] | rw [zf_f_X12_joins] | rw [zf_f_X12_dz] | rw [zf_f_X12_dc] | rw [zf_f_X12_dn] | rw [zf_f_X12_dl] | rw [zf_f_X12_dtail] | rw [zf_f_X12_scp] | rw [zf_f_X12_stail] | rw [(zf_f_X12_sign _ _).resolve_left (by assumption)] | rw [(zf_f_X12_takes _ _ _).resolve_left (by assumption)] | rw [(zf_f_X12_puts _ _ _ _).resolve_left (by assumption)] | rw [(zf_f_X12_fresh _ _).resolve_left (by assumption)] | rw [(zf_f_X12_looksAt _ _ _).resolve_left (by assumption)] | rw [(zf_f_X12_takesName _ _ _).resolve_left (by assumption)] | rw [(zf_f_X12_readName _ _ _ _).resolve_left (by assumption)] | rw [(zf_f_X12_readPerson _).resolve_left (by assumption)] | rw [(zf_f_X12_pair _ _ _ _).resolve_left (by assumption)] | rw [(zf_f_X12_readHate _).resolve_left (by assumption)] | rw [(zf_f_X12_line _).resolve_left (by assumption)])
                           done)
                    · rw [if_neg q10]
                      first
                        | exact Or.inl rfl
                        | (right
                           dsimp only
                           repeat' (first | rfl | rw [pd_upI_ne (by omega)] | rw [um_L] | rw [um_R] | rw [zf_f_X12_blanks] | rw [zf_f_X12_run] | rw [zf_f_X12_nxEnd] | rw [zf_f_X12_nx2] | rw [zf_f_X12_next] | rw [zf_f_X12_taken] | rw [zf_f_X12_code] | rw [zf_f_X12_ntl] | rw [zf_f_X12_nots] | rw [zf_f_X12_jnl] | rw [zf_f_X12_joins] | rw [zf_f_X12_dz] | rw [zf_f_X12_dc] | rw [zf_f_X12_dn] | rw [zf_f_X12_dl] | rw [zf_f_X12_dtail] | rw [zf_f_X12_scp] | rw [zf_f_X12_stail] | rw [(zf_f_X12_sign _ _).resolve_left (by assumption)] | rw [(zf_f_X12_takes _ _ _).resolve_left (by assumption)] | rw [(zf_f_X12_puts _ _ _ _).resolve_left (by assumption)] | rw [(zf_f_X12_fresh _ _).resolve_left (by assumption)] | rw [(zf_f_X12_looksAt _ _ _).resolve_left (by assumption)] | rw [(zf_f_X12_takesName _ _ _).resolve_left (by assumption)] | rw [(zf_f_X12_readName _ _ _ _).resolve_left (by assumption)] | rw [(zf_f_X12_readPerson _).resolve_left (by assumption)] | rw [(zf_f_X12_pair _ _ _ _).resolve_left (by assumption)] | rw [(zf_f_X12_readHate _).resolve_left (by assumption)] | rw [(zf_f_X12_line _).resolve_left (by assumption)])
                           done)
                  · rw [if_neg q9]
                    by_cases q10 : ((f_X12_looksAt 4 ((f_X12_next (upI H 29 47 (iAdd (H.1 29 47) 1))).1 31 1) (upI (f_X12_next (upI H 29 47 (iAdd (H.1 29 47) 1))) 29 50 1)).1) = 0
                    · rw [if_pos q10]
                      first
                        | exact Or.inl rfl
                        | (right
                           dsimp only
                           repeat' (first | rfl | rw [pd_upI_ne (by omega)] | rw [um_L] | rw [um_R] | rw [zf_f_X12_blanks] | rw [zf_f_X12_run] | rw [zf_f_X12_nxEnd] | rw [zf_f_X12_nx2] | rw [zf_f_X12_next] | rw [zf_f_X12_taken] | rw [zf_f_X12_code] | rw [zf_f_X12_ntl] | rw [zf_f_X12_nots] | rw [zf_f_X12_jnl] | rw [zf_f_X12_joins] | rw [zf_f_X12_dz] | rw [zf_f_X12_dc] | rw [zf_f_X12_dn] | rw [zf_f_X12_dl] | rw [zf_f_X12_dtail] | rw [zf_f_X12_scp] | rw [zf_f_X12_stail] | rw [(zf_f_X12_sign _ _).resolve_left (by assumption)] | rw [(zf_f_X12_takes _ _ _).resolve_left (by assumption)] | rw [(zf_f_X12_puts _ _ _ _).resolve_left (by assumption)] | rw [(zf_f_X12_fresh _ _).resolve_left (by assumption)] | rw [(zf_f_X12_looksAt _ _ _).resolve_left (by assumption)] | rw [(zf_f_X12_takesName _ _ _).resolve_left (by assumption)] | rw [(zf_f_X12_readName _ _ _ _).resolve_left (by assumption)] | rw [(zf_f_X12_readPerson _).resolve_left (by assumption)] | rw [(zf_f_X12_pair _ _ _ _).resolve_left (by assumption)] | rw [(zf_f_X12_readHate _).resolve_left (by assumption)] | rw [(zf_f_X12_line _).resolve_left (by assumption)])
                           done)
                    · rw [if_neg q10]
                      first
                        | exact Or.inl rfl
                        | (right
                           dsimp only
                           repeat' (first | rfl | rw [pd_upI_ne (by omega)] | rw [um_L] | rw [um_R] | rw [zf_f_X12_blanks] | rw [zf_f_X12_run] | rw [zf_f_X12_nxEnd] | rw [zf_f_X12_nx2] | rw [zf_f_X12_next] | rw [zf_f_X12_taken] | rw [zf_f_X12_code] | rw [zf_f_X12_ntl] | rw [zf_f_X12_nots] | rw [zf_f_X12_jnl] | rw [zf_f_X12_joins] | rw [zf_f_X12_dz] | rw [zf_f_X12_dc] | rw [zf_f_X12_dn] | rw [zf_f_X12_dl] | rw [zf_f_X12_dtail] | rw [zf_f_X12_scp] | rw [zf_f_X12_stail] | rw [(zf_f_X12_sign _ _).resolve_left (by assumption)] | rw [(zf_f_X12_takes _ _ _).resolve_left (by assumption)] | rw [(zf_f_X12_puts _ _ _ _).resolve_left (by assumption)] | rw [(zf_f_X12_fresh _ _).resolve_left (by assumption)] | rw [(zf_f_X12_looksAt _ _ _).resolve_left (by assumption)] | rw [(zf_f_X12_takesName _ _ _).resolve_left (by assumption)] | rw [(zf_f_X12_readName _ _ _ _).resolve_left (by assumption)] | rw [(zf_f_X12_readPerson _).resolve_left (by assumption)] | rw [(zf_f_X12_pair _ _ _ _).resolve_left (by assumption)] | rw [(zf_f_X12_readHate _).resolve_left (by assumption)] | rw [(zf_f_X12_line _).resolve_left (by assumption)])
                           done)
              · rw [if_neg q7]
                by_cases q8 : ((f_X12_next (upI H 29 47 (iAdd (H.1 29 47) 1))).1 29 11) = 3
                · rw [if_pos q8]
                  by_cases q9 : ((f_X12_next (upI H 29 47 (iAdd (H.1 29 47) 1))).1 29 14) < 60
                  · rw [if_pos q9]
                    first
                      | exact Or.inl rfl
                      | (right
                         dsimp only
                         repeat' (first | rfl | rw [pd_upI_ne (by omega)] | rw [um_L] | rw [um_R] | rw [zf_f_X12_blanks] | rw [zf_f_X12_run] | rw [zf_f_X12_nxEnd] | rw [zf_f_X12_nx2] | rw [zf_f_X12_next] | rw [zf_f_X12_taken] | rw [zf_f_X12_code] | rw [zf_f_X12_ntl] | rw [zf_f_X12_nots] | rw [zf_f_X12_jnl] | rw [zf_f_X12_joins] | rw [zf_f_X12_dz] | rw [zf_f_X12_dc] | rw [zf_f_X12_dn] | rw [zf_f_X12_dl] | rw [zf_f_X12_dtail] | rw [zf_f_X12_scp] | rw [zf_f_X12_stail] | rw [(zf_f_X12_sign _ _).resolve_left (by assumption)] | rw [(zf_f_X12_takes _ _ _).resolve_left (by assumption)] | rw [(zf_f_X12_puts _ _ _ _).resolve_left (by assumption)] | rw [(zf_f_X12_fresh _ _).resolve_left (by assumption)] | rw [(zf_f_X12_looksAt _ _ _).resolve_left (by assumption)] | rw [(zf_f_X12_takesName _ _ _).resolve_left (by assumption)] | rw [(zf_f_X12_readName _ _ _ _).resolve_left (by assumption)] | rw [(zf_f_X12_readPerson _).resolve_left (by assumption)] | rw [(zf_f_X12_pair _ _ _ _).resolve_left (by assumption)] | rw [(zf_f_X12_readHate _).resolve_left (by assumption)] | rw [(zf_f_X12_line _).resolve_left (by assumption)])
                         done)
                  · rw [if_neg q9]
                    by_cases q10 : 62 < ((f_X12_next (upI H 29 47 (iAdd (H.1 29 47) 1))).1 29 14)
                    · rw [if_pos q10]
                      first
                        | exact Or.inl rfl
                        | (right
                           dsimp only
                           repeat' (first | rfl | rw [pd_upI_ne (by omega)] | rw [um_L] | rw [um_R] | rw [zf_f_X12_blanks] | rw [zf_f_X12_run] | rw [zf_f_X12_nxEnd] | rw [zf_f_X12_nx2] | rw [zf_f_X12_next] | rw [zf_f_X12_taken] | rw [zf_f_X12_code] | rw [zf_f_X12_ntl] | rw [zf_f_X12_nots] | rw [zf_f_X12_jnl] | rw [zf_f_X12_joins] | rw [zf_f_X12_dz] | rw [zf_f_X12_dc] | rw [zf_f_X12_dn] | rw [zf_f_X12_dl] | rw [zf_f_X12_dtail] | rw [zf_f_X12_scp] | rw [zf_f_X12_stail] | rw [(zf_f_X12_sign _ _).resolve_left (by assumption)] | rw [(zf_f_X12_takes _ _ _).resolve_left (by assumption)] | rw [(zf_f_X12_puts _ _ _ _).resolve_left (by assumption)] | rw [(zf_f_X12_fresh _ _).resolve_left (by assumption)] | rw [(zf_f_X12_looksAt _ _ _).resolve_left (by assumption)] | rw [(zf_f_X12_takesName _ _ _).resolve_left (by assumption)] | rw [(zf_f_X12_readName _ _ _ _).resolve_left (by assumption)] | rw [(zf_f_X12_readPerson _).resolve_left (by assumption)] | rw [(zf_f_X12_pair _ _ _ _).resolve_left (by assumption)] | rw [(zf_f_X12_readHate _).resolve_left (by assumption)] | rw [(zf_f_X12_line _).resolve_left (by assumption)])
                           done)
                    · rw [if_neg q10]
                      by_cases q11 : ((f_X12_next (upI (f_X12_next (upI H 29 47 (iAdd (H.1 29 47) 1))) 29 50 1)).1 29 11) = 2
                      · rw [if_pos q11]
                        first
                          | exact Or.inl rfl
                          | (right
                             dsimp only
                             repeat' (first | rfl | rw [pd_upI_ne (by omega)] | rw [um_L] | rw [um_R] | rw [zf_f_X12_blanks] | rw [zf_f_X12_run] | rw [zf_f_X12_nxEnd] | rw [zf_f_X12_nx2] | rw [zf_f_X12_next] | rw [zf_f_X12_taken] | rw [zf_f_X12_code] | rw [zf_f_X12_ntl] | rw [zf_f_X12_nots] | rw [zf_f_X12_jnl] | rw [zf_f_X12_joins] | rw [zf_f_X12_dz] | rw [zf_f_X12_dc] | rw [zf_f_X12_dn] | rw [zf_f_X12_dl] | rw [zf_f_X12_dtail] | rw [zf_f_X12_scp] | rw [zf_f_X12_stail] | rw [(zf_f_X12_sign _ _).resolve_left (by assumption)] | rw [(zf_f_X12_takes _ _ _).resolve_left (by assumption)] | rw [(zf_f_X12_puts _ _ _ _).resolve_left (by assumption)] | rw [(zf_f_X12_fresh _ _).resolve_left (by assumption)] | rw [(zf_f_X12_looksAt _ _ _).resolve_left (by assumption)] | rw [(zf_f_X12_takesName _ _ _).resolve_left (by assumption)] | rw [(zf_f_X12_readName _ _ _ _).resolve_left (by assumption)] | rw [(zf_f_X12_readPerson _).resolve_left (by assumption)] | rw [(zf_f_X12_pair _ _ _ _).resolve_left (by assumption)] | rw [(zf_f_X12_readHate _).resolve_left (by assumption)] | rw [(zf_f_X12_line _).resolve_left (by assumption)])
                             done)
                      · rw [if_neg q11]
                        first
                          | exact Or.inl rfl
                          | (right
                             dsimp only
                             repeat' (first | rfl | rw [pd_upI_ne (by omega)] | rw [um_L] | rw [um_R] | rw [zf_f_X12_blanks] | rw [zf_f_X12_run] | rw [zf_f_X12_nxEnd] | rw [zf_f_X12_nx2] | rw [zf_f_X12_next] | rw [zf_f_X12_taken] | rw [zf_f_X12_code] | rw [zf_f_X12_ntl] | rw [zf_f_X12_nots] | rw [zf_f_X12_jnl] | rw [zf_f_X12_joins] | rw [zf_f_X12_dz] | rw [zf_f_X12_dc] | rw [zf_f_X12_dn] | rw [zf_f_X12_dl] | rw [zf_f_X12_dtail] | rw [zf_f_X12_scp] | rw [zf_f_X12_stail] | rw [(zf_f_X12_sign _ _).resolve_left (by assumption)] | rw [(zf_f_X12_takes _ _ _).resolve_left (by assumption)] | rw [(zf_f_X12_puts _ _ _ _).resolve_left (by assumption)] | rw [(zf_f_X12_fresh _ _).resolve_left (by assumption)] | rw [(zf_f_X12_looksAt _ _ _).resolve_left (by assumption)] | rw [(zf_f_X12_takesName _ _ _).resolve_left (by assumption)] | rw [(zf_f_X12_readName _ _ _ _).resolve_left (by assumption)] | rw [(zf_f_X12_readPerson _).resolve_left (by assumption)] | rw [(zf_f_X12_pair _ _ _ _).resolve_left (by assumption)] | rw [(zf_f_X12_readHate _).resolve_left (by assumption)] | rw [(zf_f_X12_line _).resolve_left (by assumption)])
                             done)
                · rw [if_neg q8]
                  first
                    | exact Or.inl rfl
                    | (right
                       dsimp only
                       repeat' (first | rfl | rw [pd_upI_ne (by omega)] | rw [um_L] | rw [um_R] | rw [zf_f_X12_blanks] | rw [zf_f_X12_run] | rw [zf_f_X12_nxEnd] | rw [zf_f_X12_nx2] | rw [zf_f_X12_next] | rw [zf_f_X12_taken] | rw [zf_f_X12_code] | rw [zf_f_X12_ntl] | rw [zf_f_X12_nots] | rw [zf_f_X12_jnl] | rw [zf_f_X12_joins] | rw [zf_f_X12_dz] | rw [zf_f_X12_dc] | rw [zf_f_X12_dn] | rw [zf_f_X12_dl] | rw [zf_f_X12_dtail] | rw [zf_f_X12_scp] | rw [zf_f_X12_stail] | rw [(zf_f_X12_sign _ _).resolve_left (by assumption)] | rw [(zf_f_X12_takes _ _ _).resolve_left (by assumption)] | rw [(zf_f_X12_puts _ _ _ _).resolve_left (by assumption)] | rw [(zf_f_X12_fresh _ _).resolve_left (by assumption)] | rw [(zf_f_X12_looksAt _ _ _).resolve_left (by assumption)] | rw [(zf_f_X12_takesName _ _ _).resolve_left (by assumption)] | rw [(zf_f_X12_readName _ _ _ _).resolve_left (by assumption)] | rw [(zf_f_X12_readPerson _).resolve_left (by assumption)] | rw [(zf_f_X12_pair _ _ _ _).resolve_left (by assumption)] | rw [(zf_f_X12_readHate _).resolve_left (by assumption)] | rw [(zf_f_X12_line _).resolve_left (by assumption)])
                       done)
          · rw [if_neg q5]
            by_cases q6 : f_X12_isWord 7237492 H = 0
            · rw [if_pos q6]
              first
                | exact Or.inl rfl
                | (right
                   dsimp only
                   repeat' (first | rfl | rw [pd_upI_ne (by omega)] | rw [um_L] | rw [um_R] | rw [zf_f_X12_blanks] | rw [zf_f_X12_run] | rw [zf_f_X12_nxEnd] | rw [zf_f_X12_nx2] | rw [zf_f_X12_next] | rw [zf_f_X12_taken] | rw [zf_f_X12_code] | rw [zf_f_X12_ntl] | rw [zf_f_X12_nots] | rw [zf_f_X12_jnl] | rw [zf_f_X12_joins] | rw [zf_f_X12_dz] | rw [zf_f_X12_dc] | rw [zf_f_X12_dn] | rw [zf_f_X12_dl] | rw [zf_f_X12_dtail] | rw [zf_f_X12_scp] | rw [zf_f_X12_stail] | rw [(zf_f_X12_sign _ _).resolve_left (by assumption)] | rw [(zf_f_X12_takes _ _ _).resolve_left (by assumption)] | rw [(zf_f_X12_puts _ _ _ _).resolve_left (by assumption)] | rw [(zf_f_X12_fresh _ _).resolve_left (by assumption)] | rw [(zf_f_X12_looksAt _ _ _).resolve_left (by assumption)] | rw [(zf_f_X12_takesName _ _ _).resolve_left (by assumption)] | rw [(zf_f_X12_readName _ _ _ _).resolve_left (by assumption)] | rw [(zf_f_X12_readPerson _).resolve_left (by assumption)] | rw [(zf_f_X12_pair _ _ _ _).resolve_left (by assumption)] | rw [(zf_f_X12_readHate _).resolve_left (by assumption)] | rw [(zf_f_X12_line _).resolve_left (by assumption)])
                   done)
            · rw [if_neg q6]
              first
                | exact Or.inl rfl
                | (right
                   dsimp only
                   repeat' (first | rfl | rw [pd_upI_ne (by omega)] | rw [um_L] | rw [um_R] | rw [zf_f_X12_blanks] | rw [zf_f_X12_run] | rw [zf_f_X12_nxEnd] | rw [zf_f_X12_nx2] | rw [zf_f_X12_next] | rw [zf_f_X12_taken] | rw [zf_f_X12_code] | rw [zf_f_X12_ntl] | rw [zf_f_X12_nots] | rw [zf_f_X12_jnl] | rw [zf_f_X12_joins] | rw [zf_f_X12_dz] | rw [zf_f_X12_dc] | rw [zf_f_X12_dn] | rw [zf_f_X12_dl] | rw [zf_f_X12_dtail] | rw [zf_f_X12_scp] | rw [zf_f_X12_stail] | rw [(zf_f_X12_sign _ _).resolve_left (by assumption)] | rw [(zf_f_X12_takes _ _ _).resolve_left (by assumption)] | rw [(zf_f_X12_puts _ _ _ _).resolve_left (by assumption)] | rw [(zf_f_X12_fresh _ _).resolve_left (by assumption)] | rw [(zf_f_X12_looksAt _ _ _).resolve_left (by assumption)] | rw [(zf_f_X12_takesName _ _ _).resolve_left (by assumption)] | rw [(zf_f_X12_readName _ _ _ _).resolve_left (by assumption)] | rw [(zf_f_X12_readPerson _).resolve_left (by assumption)] | rw [(zf_f_X12_pair _ _ _ _).resolve_left (by assumption)] | rw [(zf_f_X12_readHate _).resolve_left (by assumption)] | rw [(zf_f_X12_line _).resolve_left (by assumption)])
                   done)
        · rw [if_neg q4]
          by_cases q5 : f_X12_isWord 7237492 H = 0
          · rw [if_pos q5]
            first
              | exact Or.inl rfl
              | (right
                 dsimp only
                 repeat' (first | rfl | rw [pd_upI_ne (by omega)] | rw [um_L] | rw [um_R] | rw [zf_f_X12_blanks] | rw [zf_f_X12_run] | rw [zf_f_X12_nxEnd] | rw [zf_f_X12_nx2] | rw [zf_f_X12_next] | rw [zf_f_X12_taken] | rw [zf_f_X12_code] | rw [zf_f_X12_ntl] | rw [zf_f_X12_nots] | rw [zf_f_X12_jnl] | rw [zf_f_X12_joins] | rw [zf_f_X12_dz] | rw [zf_f_X12_dc] | rw [zf_f_X12_dn] | rw [zf_f_X12_dl] | rw [zf_f_X12_dtail] | rw [zf_f_X12_scp] | rw [zf_f_X12_stail] | rw [(zf_f_X12_sign _ _).resolve_left (by assumption)] | rw [(zf_f_X12_takes _ _ _).resolve_left (by assumption)] | rw [(zf_f_X12_puts _ _ _ _).resolve_left (by assumption)] | rw [(zf_f_X12_fresh _ _).resolve_left (by assumption)] | rw [(zf_f_X12_looksAt _ _ _).resolve_left (by assumption)] | rw [(zf_f_X12_takesName _ _ _).resolve_left (by assumption)] | rw [(zf_f_X12_readName _ _ _ _).resolve_left (by assumption)] | rw [(zf_f_X12_readPerson _).resolve_left (by assumption)] | rw [(zf_f_X12_pair _ _ _ _).resolve_left (by assumption)] | rw [(zf_f_X12_readHate _).resolve_left (by assumption)] | rw [(zf_f_X12_line _).resolve_left (by assumption)])
                 done)
          · rw [if_neg q5]
            first
              | exact Or.inl rfl
              | (right
                 dsimp only
                 repeat' (first | rfl | rw [pd_upI_ne (by omega)] | rw [um_L] | rw [um_R] | rw [zf_f_X12_blanks] | rw [zf_f_X12_run] | rw [zf_f_X12_nxEnd] | rw [zf_f_X12_nx2] | rw [zf_f_X12_next] | rw [zf_f_X12_taken] | rw [zf_f_X12_code] | rw [zf_f_X12_ntl] | rw [zf_f_X12_nots] | rw [zf_f_X12_jnl] | rw [zf_f_X12_joins] | rw [zf_f_X12_dz] | rw [zf_f_X12_dc] | rw [zf_f_X12_dn] | rw [zf_f_X12_dl] | rw [zf_f_X12_dtail] | rw [zf_f_X12_scp] | rw [zf_f_X12_stail] | rw [(zf_f_X12_sign _ _).resolve_left (by assumption)] | rw [(zf_f_X12_takes _ _ _).resolve_left (by assumption)] | rw [(zf_f_X12_puts _ _ _ _).resolve_left (by assumption)] | rw [(zf_f_X12_fresh _ _).resolve_left (by assumption)] | rw [(zf_f_X12_looksAt _ _ _).resolve_left (by assumption)] | rw [(zf_f_X12_takesName _ _ _).resolve_left (by assumption)] | rw [(zf_f_X12_readName _ _ _ _).resolve_left (by assumption)] | rw [(zf_f_X12_readPerson _).resolve_left (by assumption)] | rw [(zf_f_X12_pair _ _ _ _).resolve_left (by assumption)] | rw [(zf_f_X12_readHate _).resolve_left (by assumption)] | rw [(zf_f_X12_line _).resolve_left (by assumption)])
                 done)
set_option maxHeartbeats 8000000 in
theorem zf_f_X12_behind (H : hH) : (f_X12_behind H).1 = 0 ∨ (f_X12_behind H).2.1 29 15 = H.1 29 15 := by
  unfold f_X12_behind
  repeat' split
  all_goals first
    | exact Or.inl rfl
    | exact absurd rfl ‹¬ (f_X12_bad _ _).1 = 0›
    | (right
       try dsimp only
       repeat' (first | rfl | rw [pd_upI_ne (by omega)] | rw [um_L] | rw [um_R] | rw [zf_f_X12_blanks] | rw [zf_f_X12_run] | rw [zf_f_X12_nxEnd] | rw [zf_f_X12_nx2] | rw [zf_f_X12_next] | rw [zf_f_X12_taken] | rw [zf_f_X12_code] | rw [zf_f_X12_ntl] | rw [zf_f_X12_nots] | rw [zf_f_X12_jnl] | rw [zf_f_X12_joins] | rw [zf_f_X12_dz] | rw [zf_f_X12_dc] | rw [zf_f_X12_dn] | rw [zf_f_X12_dl] | rw [zf_f_X12_dtail] | rw [zf_f_X12_scp] | rw [zf_f_X12_stail] | rw [(zf_f_X12_sign _ _).resolve_left (by assumption)] | rw [(zf_f_X12_takes _ _ _).resolve_left (by assumption)] | rw [(zf_f_X12_puts _ _ _ _).resolve_left (by assumption)] | rw [(zf_f_X12_fresh _ _).resolve_left (by assumption)] | rw [(zf_f_X12_looksAt _ _ _).resolve_left (by assumption)] | rw [(zf_f_X12_takesName _ _ _).resolve_left (by assumption)] | rw [(zf_f_X12_readName _ _ _ _).resolve_left (by assumption)] | rw [(zf_f_X12_readPerson _).resolve_left (by assumption)] | rw [(zf_f_X12_pair _ _ _ _).resolve_left (by assumption)] | rw [(zf_f_X12_readHate _).resolve_left (by assumption)] | rw [(zf_f_X12_line _).resolve_left (by assumption)] | rw [(zf_f_X12_operand _).resolve_left (by assumption)])
       done)
set_option maxHeartbeats 8000000 in
theorem zf_f_X12_bookLine (H : hH) : (f_X12_bookLine H).1 = 0 ∨ (f_X12_bookLine H).2.1 29 15 = H.1 29 15 := by
  unfold f_X12_bookLine
  repeat' split
  all_goals first
    | exact Or.inl rfl
    | exact absurd rfl ‹¬ (f_X12_bad _ _).1 = 0›
    | (refine Or.imp id (fun e => e.trans ?_) (zf_f_X12_takes _ _ _)
       repeat' (first | rfl | rw [pd_upI_ne (by omega)] | rw [um_L] | rw [um_R] | rw [zf_f_X12_blanks] | rw [zf_f_X12_run] | rw [zf_f_X12_nxEnd] | rw [zf_f_X12_nx2] | rw [zf_f_X12_next] | rw [zf_f_X12_taken] | rw [zf_f_X12_code] | rw [zf_f_X12_ntl] | rw [zf_f_X12_nots] | rw [zf_f_X12_jnl] | rw [zf_f_X12_joins] | rw [zf_f_X12_dz] | rw [zf_f_X12_dc] | rw [zf_f_X12_dn] | rw [zf_f_X12_dl] | rw [zf_f_X12_dtail] | rw [zf_f_X12_scp] | rw [zf_f_X12_stail] | rw [(zf_f_X12_sign _ _).resolve_left (by assumption)] | rw [(zf_f_X12_takes _ _ _).resolve_left (by assumption)] | rw [(zf_f_X12_puts _ _ _ _).resolve_left (by assumption)] | rw [(zf_f_X12_fresh _ _).resolve_left (by assumption)] | rw [(zf_f_X12_looksAt _ _ _).resolve_left (by assumption)] | rw [(zf_f_X12_takesName _ _ _).resolve_left (by assumption)] | rw [(zf_f_X12_readName _ _ _ _).resolve_left (by assumption)] | rw [(zf_f_X12_readPerson _).resolve_left (by assumption)] | rw [(zf_f_X12_pair _ _ _ _).resolve_left (by assumption)] | rw [(zf_f_X12_readHate _).resolve_left (by assumption)] | rw [(zf_f_X12_line _).resolve_left (by assumption)] | rw [(zf_f_X12_operand _).resolve_left (by assumption)] | rw [(zf_f_X12_behind _).resolve_left (by assumption)])
       done)
    | (refine Or.imp id (fun e => e.trans ?_) (zf_f_X12_looksAt _ _ _)
       repeat' (first | rfl | rw [pd_upI_ne (by omega)] | rw [um_L] | rw [um_R] | rw [zf_f_X12_blanks] | rw [zf_f_X12_run] | rw [zf_f_X12_nxEnd] | rw [zf_f_X12_nx2] | rw [zf_f_X12_next] | rw [zf_f_X12_taken] | rw [zf_f_X12_code] | rw [zf_f_X12_ntl] | rw [zf_f_X12_nots] | rw [zf_f_X12_jnl] | rw [zf_f_X12_joins] | rw [zf_f_X12_dz] | rw [zf_f_X12_dc] | rw [zf_f_X12_dn] | rw [zf_f_X12_dl] | rw [zf_f_X12_dtail] | rw [zf_f_X12_scp] | rw [zf_f_X12_stail] | rw [(zf_f_X12_sign _ _).resolve_left (by assumption)] | rw [(zf_f_X12_takes _ _ _).resolve_left (by assumption)] | rw [(zf_f_X12_puts _ _ _ _).resolve_left (by assumption)] | rw [(zf_f_X12_fresh _ _).resolve_left (by assumption)] | rw [(zf_f_X12_looksAt _ _ _).resolve_left (by assumption)] | rw [(zf_f_X12_takesName _ _ _).resolve_left (by assumption)] | rw [(zf_f_X12_readName _ _ _ _).resolve_left (by assumption)] | rw [(zf_f_X12_readPerson _).resolve_left (by assumption)] | rw [(zf_f_X12_pair _ _ _ _).resolve_left (by assumption)] | rw [(zf_f_X12_readHate _).resolve_left (by assumption)] | rw [(zf_f_X12_line _).resolve_left (by assumption)] | rw [(zf_f_X12_operand _).resolve_left (by assumption)] | rw [(zf_f_X12_behind _).resolve_left (by assumption)])
       done)
    | (refine Or.imp id (fun e => e.trans ?_) (zf_f_X12_takesName _ _ _)
       repeat' (first | rfl | rw [pd_upI_ne (by omega)] | rw [um_L] | rw [um_R] | rw [zf_f_X12_blanks] | rw [zf_f_X12_run] | rw [zf_f_X12_nxEnd] | rw [zf_f_X12_nx2] | rw [zf_f_X12_next] | rw [zf_f_X12_taken] | rw [zf_f_X12_code] | rw [zf_f_X12_ntl] | rw [zf_f_X12_nots] | rw [zf_f_X12_jnl] | rw [zf_f_X12_joins] | rw [zf_f_X12_dz] | rw [zf_f_X12_dc] | rw [zf_f_X12_dn] | rw [zf_f_X12_dl] | rw [zf_f_X12_dtail] | rw [zf_f_X12_scp] | rw [zf_f_X12_stail] | rw [(zf_f_X12_sign _ _).resolve_left (by assumption)] | rw [(zf_f_X12_takes _ _ _).resolve_left (by assumption)] | rw [(zf_f_X12_puts _ _ _ _).resolve_left (by assumption)] | rw [(zf_f_X12_fresh _ _).resolve_left (by assumption)] | rw [(zf_f_X12_looksAt _ _ _).resolve_left (by assumption)] | rw [(zf_f_X12_takesName _ _ _).resolve_left (by assumption)] | rw [(zf_f_X12_readName _ _ _ _).resolve_left (by assumption)] | rw [(zf_f_X12_readPerson _).resolve_left (by assumption)] | rw [(zf_f_X12_pair _ _ _ _).resolve_left (by assumption)] | rw [(zf_f_X12_readHate _).resolve_left (by assumption)] | rw [(zf_f_X12_line _).resolve_left (by assumption)] | rw [(zf_f_X12_operand _).resolve_left (by assumption)] | rw [(zf_f_X12_behind _).resolve_left (by assumption)])
       done)
    | (right
       try dsimp only
       repeat' (first | rfl | rw [pd_upI_ne (by omega)] | rw [um_L] | rw [um_R] | rw [zf_f_X12_blanks] | rw [zf_f_X12_run] | rw [zf_f_X12_nxEnd] | rw [zf_f_X12_nx2] | rw [zf_f_X12_next] | rw [zf_f_X12_taken] | rw [zf_f_X12_code] | rw [zf_f_X12_ntl] | rw [zf_f_X12_nots] | rw [zf_f_X12_jnl] | rw [zf_f_X12_joins] | rw [zf_f_X12_dz] | rw [zf_f_X12_dc] | rw [zf_f_X12_dn] | rw [zf_f_X12_dl] | rw [zf_f_X12_dtail] | rw [zf_f_X12_scp] | rw [zf_f_X12_stail] | rw [(zf_f_X12_sign _ _).resolve_left (by assumption)] | rw [(zf_f_X12_takes _ _ _).resolve_left (by assumption)] | rw [(zf_f_X12_puts _ _ _ _).resolve_left (by assumption)] | rw [(zf_f_X12_fresh _ _).resolve_left (by assumption)] | rw [(zf_f_X12_looksAt _ _ _).resolve_left (by assumption)] | rw [(zf_f_X12_takesName _ _ _).resolve_left (by assumption)] | rw [(zf_f_X12_readName _ _ _ _).resolve_left (by assumption)] | rw [(zf_f_X12_readPerson _).resolve_left (by assumption)] | rw [(zf_f_X12_pair _ _ _ _).resolve_left (by assumption)] | rw [(zf_f_X12_readHate _).resolve_left (by assumption)] | rw [(zf_f_X12_line _).resolve_left (by assumption)] | rw [(zf_f_X12_operand _).resolve_left (by assumption)] | rw [(zf_f_X12_behind _).resolve_left (by assumption)])
       done)
