/-! The reference's sentence: what exact runs of it answer (written by wip/p42/ms.py). -/
def RMs (r : Nat → Nat → Option Nat) : Prop := RM r ∧ r 29 45 = some 46
theorem rp_X12_bad {P : (Nat → Nat → Option Nat) → Prop} (a1 : Int) (H : hH) (hr : P H.2.2.1) : P (f_X12_bad a1 H).2.2.2.1 := by
  unfold f_X12_bad
  exact hr
theorem rp_X12_nxEnd {P : (Nat → Nat → Option Nat) → Prop} (c : Int) (s : Int) (a : Int) (H : hH) (hr : P H.2.2.1) : P (f_X12_nxEnd c s a H).2.2.1 := by
  unfold f_X12_nxEnd
  by_cases q1 : a = 0
  · rw [if_pos q1]
    exact hr
  · rw [if_neg q1]
    by_cases q2 : s = 0
    · rw [if_pos q2]
      by_cases q3 : 3 < H.1 29 13
      · rw [if_pos q3]
        exact hr
      · rw [if_neg q3]
        by_cases q4 : s = 0
        · rw [if_pos q4]
          exact hr
        · rw [if_neg q4]
          exact hr
    · rw [if_neg q2]
      by_cases q3 : 7 < H.1 29 13
      · rw [if_pos q3]
        exact hr
      · rw [if_neg q3]
        by_cases q4 : s = 0
        · rw [if_pos q4]
          exact hr
        · rw [if_neg q4]
          exact hr
theorem rp_X12_run {P : (Nat → Nat → Option Nat) → Prop} (c : Int) (s : Int) : ∀ (k : Nat) (a : Int) (H : hH), P H.2.2.1 → P (f_X12_run c s k a H).2.2.2.1 := by
  intro k
  induction k with
  | zero => intro a H hr; exact hr
  | succ k ih =>
    intro a H hr
    rw [f_X12_run]
    by_cases q2 : f_X12_isSmall (f_X12_peek H) = 0
    · rw [if_pos q2]
      by_cases q3 : f_X12_isDigit (f_X12_peek H) = 0
      · rw [if_pos q3]
        exact hr
      · rw [if_neg q3]
        by_cases q4 : a = 0
        · rw [if_pos q4]
          by_cases q5 : H.1 29 13 < 7
          · rw [if_pos q5]
            by_cases q6 : H.1 29 13 < 3
            · rw [if_pos q6]
              exact ih 0 (upI (upI (upI (upL H 29 17 (((H.2.1 29 17) <<< ((Int32.ofInt 8).toInt64 &&& 63)) ||| ((Int32.ofInt (f_X12_peek H)).toInt64))) 29 14 (iSub (iAdd (iMul 10 (H.1 29 14)) (f_X12_peek H)) 48)) 29 13 (iAdd (H.1 29 13) 1)) 29 4 (iAdd (H.1 29 4) 1)) hr
            · rw [if_neg q6]
              exact ih 0 (upI (upI (upL H 29 17 (((H.2.1 29 17) <<< ((Int32.ofInt 8).toInt64 &&& 63)) ||| ((Int32.ofInt (f_X12_peek H)).toInt64))) 29 13 (iAdd (H.1 29 13) 1)) 29 4 (iAdd (H.1 29 4) 1)) hr
          · rw [if_neg q5]
            by_cases q6 : H.1 29 13 < 3
            · rw [if_pos q6]
              exact ih 0 (upI (upI (upI H 29 14 (iSub (iAdd (iMul 10 (H.1 29 14)) (f_X12_peek H)) 48)) 29 13 (iAdd (H.1 29 13) 1)) 29 4 (iAdd (H.1 29 4) 1)) hr
            · rw [if_neg q6]
              exact ih 0 (upI (upI H 29 13 (iAdd (H.1 29 13) 1)) 29 4 (iAdd (H.1 29 4) 1)) hr
        · rw [if_neg q4]
          by_cases q5 : f_X12_isSmall (f_X12_peek H) = s
          · rw [if_pos q5]
            by_cases q6 : H.1 29 13 < 7
            · rw [if_pos q6]
              by_cases q7 : H.1 29 13 < 3
              · rw [if_pos q7]
                exact ih 1 (upI (upI (upI (upL H 29 17 (((H.2.1 29 17) <<< ((Int32.ofInt 8).toInt64 &&& 63)) ||| ((Int32.ofInt (f_X12_peek H)).toInt64))) 29 14 (iSub (iAdd (iMul 10 (H.1 29 14)) (f_X12_peek H)) 48)) 29 13 (iAdd (H.1 29 13) 1)) 29 4 (iAdd (H.1 29 4) 1)) hr
              · rw [if_neg q7]
                exact ih 1 (upI (upI (upL H 29 17 (((H.2.1 29 17) <<< ((Int32.ofInt 8).toInt64 &&& 63)) ||| ((Int32.ofInt (f_X12_peek H)).toInt64))) 29 13 (iAdd (H.1 29 13) 1)) 29 4 (iAdd (H.1 29 4) 1)) hr
            · rw [if_neg q6]
              by_cases q7 : H.1 29 13 < 3
              · rw [if_pos q7]
                exact ih 1 (upI (upI (upI H 29 14 (iSub (iAdd (iMul 10 (H.1 29 14)) (f_X12_peek H)) 48)) 29 13 (iAdd (H.1 29 13) 1)) 29 4 (iAdd (H.1 29 4) 1)) hr
              · rw [if_neg q7]
                exact ih 1 (upI (upI H 29 13 (iAdd (H.1 29 13) 1)) 29 4 (iAdd (H.1 29 4) 1)) hr
          · rw [if_neg q5]
            by_cases q6 : H.1 29 13 < 7
            · rw [if_pos q6]
              by_cases q7 : H.1 29 13 < 3
              · rw [if_pos q7]
                exact ih 0 (upI (upI (upI (upL H 29 17 (((H.2.1 29 17) <<< ((Int32.ofInt 8).toInt64 &&& 63)) ||| ((Int32.ofInt (f_X12_peek H)).toInt64))) 29 14 (iSub (iAdd (iMul 10 (H.1 29 14)) (f_X12_peek H)) 48)) 29 13 (iAdd (H.1 29 13) 1)) 29 4 (iAdd (H.1 29 4) 1)) hr
              · rw [if_neg q7]
                exact ih 0 (upI (upI (upL H 29 17 (((H.2.1 29 17) <<< ((Int32.ofInt 8).toInt64 &&& 63)) ||| ((Int32.ofInt (f_X12_peek H)).toInt64))) 29 13 (iAdd (H.1 29 13) 1)) 29 4 (iAdd (H.1 29 4) 1)) hr
            · rw [if_neg q6]
              by_cases q7 : H.1 29 13 < 3
              · rw [if_pos q7]
                exact ih 0 (upI (upI (upI H 29 14 (iSub (iAdd (iMul 10 (H.1 29 14)) (f_X12_peek H)) 48)) 29 13 (iAdd (H.1 29 13) 1)) 29 4 (iAdd (H.1 29 4) 1)) hr
              · rw [if_neg q7]
                exact ih 0 (upI (upI H 29 13 (iAdd (H.1 29 13) 1)) 29 4 (iAdd (H.1 29 4) 1)) hr
    · rw [if_neg q2]
      by_cases q3 : a = 0
      · rw [if_pos q3]
        by_cases q4 : H.1 29 13 < 7
        · rw [if_pos q4]
          by_cases q5 : H.1 29 13 < 3
          · rw [if_pos q5]
            exact ih 0 (upI (upI (upI (upL H 29 17 (((H.2.1 29 17) <<< ((Int32.ofInt 8).toInt64 &&& 63)) ||| ((Int32.ofInt (f_X12_peek H)).toInt64))) 29 14 (iSub (iAdd (iMul 10 (H.1 29 14)) (f_X12_peek H)) 48)) 29 13 (iAdd (H.1 29 13) 1)) 29 4 (iAdd (H.1 29 4) 1)) hr
          · rw [if_neg q5]
            exact ih 0 (upI (upI (upL H 29 17 (((H.2.1 29 17) <<< ((Int32.ofInt 8).toInt64 &&& 63)) ||| ((Int32.ofInt (f_X12_peek H)).toInt64))) 29 13 (iAdd (H.1 29 13) 1)) 29 4 (iAdd (H.1 29 4) 1)) hr
        · rw [if_neg q4]
          by_cases q5 : H.1 29 13 < 3
          · rw [if_pos q5]
            exact ih 0 (upI (upI (upI H 29 14 (iSub (iAdd (iMul 10 (H.1 29 14)) (f_X12_peek H)) 48)) 29 13 (iAdd (H.1 29 13) 1)) 29 4 (iAdd (H.1 29 4) 1)) hr
          · rw [if_neg q5]
            exact ih 0 (upI (upI H 29 13 (iAdd (H.1 29 13) 1)) 29 4 (iAdd (H.1 29 4) 1)) hr
      · rw [if_neg q3]
        by_cases q4 : f_X12_isSmall (f_X12_peek H) = s
        · rw [if_pos q4]
          by_cases q5 : H.1 29 13 < 7
          · rw [if_pos q5]
            by_cases q6 : H.1 29 13 < 3
            · rw [if_pos q6]
              exact ih 1 (upI (upI (upI (upL H 29 17 (((H.2.1 29 17) <<< ((Int32.ofInt 8).toInt64 &&& 63)) ||| ((Int32.ofInt (f_X12_peek H)).toInt64))) 29 14 (iSub (iAdd (iMul 10 (H.1 29 14)) (f_X12_peek H)) 48)) 29 13 (iAdd (H.1 29 13) 1)) 29 4 (iAdd (H.1 29 4) 1)) hr
            · rw [if_neg q6]
              exact ih 1 (upI (upI (upL H 29 17 (((H.2.1 29 17) <<< ((Int32.ofInt 8).toInt64 &&& 63)) ||| ((Int32.ofInt (f_X12_peek H)).toInt64))) 29 13 (iAdd (H.1 29 13) 1)) 29 4 (iAdd (H.1 29 4) 1)) hr
          · rw [if_neg q5]
            by_cases q6 : H.1 29 13 < 3
            · rw [if_pos q6]
              exact ih 1 (upI (upI (upI H 29 14 (iSub (iAdd (iMul 10 (H.1 29 14)) (f_X12_peek H)) 48)) 29 13 (iAdd (H.1 29 13) 1)) 29 4 (iAdd (H.1 29 4) 1)) hr
            · rw [if_neg q6]
              exact ih 1 (upI (upI H 29 13 (iAdd (H.1 29 13) 1)) 29 4 (iAdd (H.1 29 4) 1)) hr
        · rw [if_neg q4]
          by_cases q5 : H.1 29 13 < 7
          · rw [if_pos q5]
            by_cases q6 : H.1 29 13 < 3
            · rw [if_pos q6]
              exact ih 0 (upI (upI (upI (upL H 29 17 (((H.2.1 29 17) <<< ((Int32.ofInt 8).toInt64 &&& 63)) ||| ((Int32.ofInt (f_X12_peek H)).toInt64))) 29 14 (iSub (iAdd (iMul 10 (H.1 29 14)) (f_X12_peek H)) 48)) 29 13 (iAdd (H.1 29 13) 1)) 29 4 (iAdd (H.1 29 4) 1)) hr
            · rw [if_neg q6]
              exact ih 0 (upI (upI (upL H 29 17 (((H.2.1 29 17) <<< ((Int32.ofInt 8).toInt64 &&& 63)) ||| ((Int32.ofInt (f_X12_peek H)).toInt64))) 29 13 (iAdd (H.1 29 13) 1)) 29 4 (iAdd (H.1 29 4) 1)) hr
          · rw [if_neg q5]
            by_cases q6 : H.1 29 13 < 3
            · rw [if_pos q6]
              exact ih 0 (upI (upI (upI H 29 14 (iSub (iAdd (iMul 10 (H.1 29 14)) (f_X12_peek H)) 48)) 29 13 (iAdd (H.1 29 13) 1)) 29 4 (iAdd (H.1 29 4) 1)) hr
            · rw [if_neg q6]
              exact ih 0 (upI (upI H 29 13 (iAdd (H.1 29 13) 1)) 29 4 (iAdd (H.1 29 4) 1)) hr
theorem rp_X12_blanks {P : (Nat → Nat → Option Nat) → Prop}  : ∀ (k : Nat)  (H : hH), P H.2.2.1 → P (f_X12_blanks k H).2.2.1 := by
  intro k
  induction k with
  | zero => intro  H hr; exact hr
  | succ k ih =>
    intro  H hr
    rw [f_X12_blanks]
    by_cases q2 : f_X12_peek H = 32
    · rw [if_pos q2]
      exact ih  (upI H 29 4 (iAdd (H.1 29 4) 1)) hr
    · rw [if_neg q2]
      by_cases q3 : f_X12_peek H = 10
      · rw [if_pos q3]
        exact ih  (upI H 29 4 (iAdd (H.1 29 4) 1)) hr
      · rw [if_neg q3]
        exact hr
theorem rp_X12_nx2 {P : (Nat → Nat → Option Nat) → Prop}  (H : hH) (hr : P H.2.2.1) : P (f_X12_nx2 H).2.2.1 := by
  unfold f_X12_nx2
  by_cases q1 : H.1 29 5 < H.1 29 3
  · rw [if_pos q1]
    by_cases q2 : H.1 29 4 < H.1 29 5
    · rw [if_pos q2]
      by_cases q3 : f_X12_peek H < 0
      · rw [if_pos q3]
        exact hr
      · rw [if_neg q3]
        by_cases q4 : f_X12_isSmall (f_X12_peek H) = 0
        · rw [if_pos q4]
          by_cases q5 : f_X12_isDigit (f_X12_peek H) = 0
          · rw [if_pos q5]
            by_cases q6 : f_X12_peek H = 59
            · rw [if_pos q6]
              exact hr
            · rw [if_neg q6]
              by_cases q7 : f_X12_peek H = 40
              · rw [if_pos q7]
                exact hr
              · rw [if_neg q7]
                by_cases q8 : f_X12_peek H = 41
                · rw [if_pos q8]
                  exact hr
                · rw [if_neg q8]
                  by_cases q9 : f_X12_peek H < 60
                  · rw [if_pos q9]
                    exact hr
                  · rw [if_neg q9]
                    by_cases q10 : 62 < f_X12_peek H
                    · rw [if_pos q10]
                      exact hr
                    · rw [if_neg q10]
                      exact hr
          · rw [if_neg q5]
            exact (rp_X12_nxEnd (f_X12_peek H) (f_X12_isSmall (f_X12_peek H)) _ _ (rp_X12_run (f_X12_peek H) (f_X12_isSmall (f_X12_peek H)) _ 1 (upI (upL (upI (upI H 29 12 (H.1 29 4)) 29 13 0) 29 17 0) 29 14 0) hr))
        · rw [if_neg q4]
          exact (rp_X12_nxEnd (f_X12_peek H) (f_X12_isSmall (f_X12_peek H)) _ _ (rp_X12_run (f_X12_peek H) (f_X12_isSmall (f_X12_peek H)) _ 1 (upI (upL (upI (upI H 29 12 (H.1 29 4)) 29 13 0) 29 17 0) 29 14 0) hr))
    · rw [if_neg q2]
      exact hr
  · rw [if_neg q1]
    by_cases q2 : f_X12_peek H < 0
    · rw [if_pos q2]
      exact hr
    · rw [if_neg q2]
      by_cases q3 : f_X12_isSmall (f_X12_peek H) = 0
      · rw [if_pos q3]
        by_cases q4 : f_X12_isDigit (f_X12_peek H) = 0
        · rw [if_pos q4]
          by_cases q5 : f_X12_peek H = 59
          · rw [if_pos q5]
            exact hr
          · rw [if_neg q5]
            by_cases q6 : f_X12_peek H = 40
            · rw [if_pos q6]
              exact hr
            · rw [if_neg q6]
              by_cases q7 : f_X12_peek H = 41
              · rw [if_pos q7]
                exact hr
              · rw [if_neg q7]
                by_cases q8 : f_X12_peek H < 60
                · rw [if_pos q8]
                  exact hr
                · rw [if_neg q8]
                  by_cases q9 : 62 < f_X12_peek H
                  · rw [if_pos q9]
                    exact hr
                  · rw [if_neg q9]
                    exact hr
        · rw [if_neg q4]
          exact (rp_X12_nxEnd (f_X12_peek H) (f_X12_isSmall (f_X12_peek H)) _ _ (rp_X12_run (f_X12_peek H) (f_X12_isSmall (f_X12_peek H)) _ 1 (upI (upL (upI (upI H 29 12 (H.1 29 4)) 29 13 0) 29 17 0) 29 14 0) hr))
      · rw [if_neg q3]
        exact (rp_X12_nxEnd (f_X12_peek H) (f_X12_isSmall (f_X12_peek H)) _ _ (rp_X12_run (f_X12_peek H) (f_X12_isSmall (f_X12_peek H)) _ 1 (upI (upL (upI (upI H 29 12 (H.1 29 4)) 29 13 0) 29 17 0) 29 14 0) hr))
theorem rp_X12_next {P : (Nat → Nat → Option Nat) → Prop} (H : hH) (hr : P H.2.2.1) : P (f_X12_next H).2.2.1 := rp_X12_nx2 _ (rp_X12_blanks _ H hr)
theorem rp_X12_looksAt {P : (Nat → Nat → Option Nat) → Prop} (a1 : Int) (a2 : Int) (H : hH) (hr : P H.2.2.1) : P (f_X12_looksAt a1 a2 H).2.2.2.1 := by
  unfold f_X12_looksAt
  by_cases q1 : f_X12_isName H = 0
  · rw [if_pos q1]
    exact (rp_X12_bad 1 H hr)
  · rw [if_neg q1]
    by_cases q2 : (f_X12_find a1 a2 H) < 0
    · rw [if_pos q2]
      by_cases q3 : ((f_X12_bad 3 (upI H 29 18 (f_X12_find a1 a2 H))).1) = 0
      · rw [if_pos q3]
        exact (rp_X12_bad 3 (upI H 29 18 (f_X12_find a1 a2 H)) hr)
      · rw [if_neg q3]
        exact (rp_X12_bad 3 (upI H 29 18 (f_X12_find a1 a2 H)) hr)
    · rw [if_neg q2]
      exact hr
theorem rp_X12_taken {P : (Nat → Nat → Option Nat) → Prop} (a1 : Int) (H : hH) (hr : P H.2.2.1) : P (f_X12_taken a1 H).2.2.1 := by
  unfold f_X12_taken
  exact hr
def f_X12_leafOf  (H : hH) : Int :=
  if f_X12_isWord 1635213689 H = 0 then
    if f_X12_isWord 7168366 H = 0 then
      if f_X12_isWord 512970547566 H = 0 then
        if f_X12_isWord 6840691 H = 0 then
          if f_X12_isWord 26990 H = 0 then
            if f_X12_isWord 491394458995 H = 0 then
              if f_X12_isWord 469920277619 H = 0 then
                if f_X12_isWord 469786323827 H = 0 then
                  if f_X12_isWord 121450625394034 H = 0 then
                    (-1)
                  else
                    8
                else
                  7
              else
                6
            else
              5
          else
            4
        else
          3
      else
        2
    else
      1
  else
    0
set_option maxHeartbeats 16000000 in
set_option maxRecDepth 100000 in
theorem sp_X12_leafOf {g : Nat → Nat}  (H : hH) : SP g rvTab rvInf rvRet 316 rvMth 118 [rf (g 29)] H (some (pt (f_X12_leafOf H))) H := by
  have hj : 118 < 316 := by decide
  refine J_SP hj (Nat.le_of_ble_eq_true rfl) ?_
  show J g rvTab rvInf rvRet 316 rvMth 118 _ 0 [rf (g 29)] [] H
  refine J_ld 1 jw hj rfl rfl rfl rfl ?_
  refine J_lc (n := 1635213689) 4 jw hj rfl (Or.inr ⟨_, rfl, by decide +kernel, rfl⟩) ?_
  refine J_callV1 jw rfl (Or.inl ⟨_, rfl⟩) rfl rfl (sp_X12_isWord (g := g) 1635213689 H) ?_
  refine J_ifc (t := 14) jw hj rfl (evn rfl) rfl (fun (h0 : f_X12_isWord 1635213689 H = 0) => ?_) (fun (h0 : ¬ f_X12_isWord 1635213689 H = 0) => ?_)
  · refine J_ld 15 jw hj rfl rfl rfl rfl ?_
    refine J_lc (n := 7168366) 18 jw hj rfl (Or.inr ⟨_, rfl, by decide +kernel, rfl⟩) ?_
    refine J_callV1 jw rfl (Or.inl ⟨_, rfl⟩) rfl rfl (sp_X12_isWord (g := g) 7168366 H) ?_
    refine J_ifc (t := 28) jw hj rfl (evn rfl) rfl (fun (h1 : f_X12_isWord 7168366 H = 0) => ?_) (fun (h1 : ¬ f_X12_isWord 7168366 H = 0) => ?_)
    · refine J_ld 29 jw hj rfl rfl rfl rfl ?_
      refine J_lc (n := 512970547566) 32 jw hj rfl (Or.inr ⟨_, rfl, by decide +kernel, rfl⟩) ?_
      refine J_callV1 jw rfl (Or.inl ⟨_, rfl⟩) rfl rfl (sp_X12_isWord (g := g) 512970547566 H) ?_
      refine J_ifc (t := 42) jw hj rfl (evn rfl) rfl (fun (h2 : f_X12_isWord 512970547566 H = 0) => ?_) (fun (h2 : ¬ f_X12_isWord 512970547566 H = 0) => ?_)
      · refine J_ld 43 jw hj rfl rfl rfl rfl ?_
        refine J_lc (n := 6840691) 46 jw hj rfl (Or.inr ⟨_, rfl, by decide +kernel, rfl⟩) ?_
        refine J_callV1 jw rfl (Or.inl ⟨_, rfl⟩) rfl rfl (sp_X12_isWord (g := g) 6840691 H) ?_
        refine J_ifc (t := 56) jw hj rfl (evn rfl) rfl (fun (h3 : f_X12_isWord 6840691 H = 0) => ?_) (fun (h3 : ¬ f_X12_isWord 6840691 H = 0) => ?_)
        · refine J_ld 57 jw hj rfl rfl rfl rfl ?_
          refine J_lc (n := 26990) 60 jw hj rfl (Or.inr ⟨_, rfl, by decide +kernel, rfl⟩) ?_
          refine J_callV1 jw rfl (Or.inl ⟨_, rfl⟩) rfl rfl (sp_X12_isWord (g := g) 26990 H) ?_
          refine J_ifc (t := 70) jw hj rfl (evn rfl) rfl (fun (h4 : f_X12_isWord 26990 H = 0) => ?_) (fun (h4 : ¬ f_X12_isWord 26990 H = 0) => ?_)
          · refine J_ld 71 jw hj rfl rfl rfl rfl ?_
            refine J_lc (n := 491394458995) 74 jw hj rfl (Or.inr ⟨_, rfl, by decide +kernel, rfl⟩) ?_
            refine J_callV1 jw rfl (Or.inl ⟨_, rfl⟩) rfl rfl (sp_X12_isWord (g := g) 491394458995 H) ?_
            refine J_ifc (t := 84) jw hj rfl (evn rfl) rfl (fun (h5 : f_X12_isWord 491394458995 H = 0) => ?_) (fun (h5 : ¬ f_X12_isWord 491394458995 H = 0) => ?_)
            · refine J_ld 85 jw hj rfl rfl rfl rfl ?_
              refine J_lc (n := 469920277619) 88 jw hj rfl (Or.inr ⟨_, rfl, by decide +kernel, rfl⟩) ?_
              refine J_callV1 jw rfl (Or.inl ⟨_, rfl⟩) rfl rfl (sp_X12_isWord (g := g) 469920277619 H) ?_
              refine J_ifc (t := 99) jw hj rfl (evn rfl) rfl (fun (h6 : f_X12_isWord 469920277619 H = 0) => ?_) (fun (h6 : ¬ f_X12_isWord 469920277619 H = 0) => ?_)
              · refine J_ld 100 jw hj rfl rfl rfl rfl ?_
                refine J_lc (n := 469786323827) 103 jw hj rfl (Or.inr ⟨_, rfl, by decide +kernel, rfl⟩) ?_
                refine J_callV1 jw rfl (Or.inl ⟨_, rfl⟩) rfl rfl (sp_X12_isWord (g := g) 469786323827 H) ?_
                refine J_ifc (t := 114) jw hj rfl (evn rfl) rfl (fun (h7 : f_X12_isWord 469786323827 H = 0) => ?_) (fun (h7 : ¬ f_X12_isWord 469786323827 H = 0) => ?_)
                · refine J_ld 115 jw hj rfl rfl rfl rfl ?_
                  refine J_lc (n := 121450625394034) 118 jw hj rfl (Or.inr ⟨_, rfl, by decide +kernel, rfl⟩) ?_
                  refine J_callV1 jw rfl (Or.inl ⟨_, rfl⟩) rfl rfl (sp_X12_isWord (g := g) 121450625394034 H) ?_
                  refine J_ifc (t := 129) jw hj rfl (evn rfl) rfl (fun (h8 : f_X12_isWord 121450625394034 H = 0) => ?_) (fun (h8 : ¬ f_X12_isWord 121450625394034 H = 0) => ?_)
                  · refine J_cst 130 jw hj rfl rfl rfl ?_
                    exact J_ret rfl (Or.inl rfl) (fun aw hR => by show _ ∧ _; unfold f_X12_leafOf; rw [if_pos h0, if_pos h1, if_pos h2, if_pos h3, if_pos h4, if_pos h5, if_pos h6, if_pos h7, if_pos h8]; exact ⟨rfl, hR⟩)
                  · refine J_cst 126 jw hj rfl rfl rfl ?_
                    refine J_goto 130 jw hj rfl rfl ?_
                    exact J_ret rfl (Or.inl rfl) (fun aw hR => by show _ ∧ _; unfold f_X12_leafOf; rw [if_pos h0, if_pos h1, if_pos h2, if_pos h3, if_pos h4, if_pos h5, if_pos h6, if_pos h7, if_neg h8]; exact ⟨rfl, hR⟩)
                · refine J_cst 111 jw hj rfl rfl rfl ?_
                  refine J_goto 130 jw hj rfl rfl ?_
                  exact J_ret rfl (Or.inl rfl) (fun aw hR => by show _ ∧ _; unfold f_X12_leafOf; rw [if_pos h0, if_pos h1, if_pos h2, if_pos h3, if_pos h4, if_pos h5, if_pos h6, if_neg h7]; exact ⟨rfl, hR⟩)
              · refine J_cst 96 jw hj rfl rfl rfl ?_
                refine J_goto 130 jw hj rfl rfl ?_
                exact J_ret rfl (Or.inl rfl) (fun aw hR => by show _ ∧ _; unfold f_X12_leafOf; rw [if_pos h0, if_pos h1, if_pos h2, if_pos h3, if_pos h4, if_pos h5, if_neg h6]; exact ⟨rfl, hR⟩)
            · refine J_cst 81 jw hj rfl rfl rfl ?_
              refine J_goto 130 jw hj rfl rfl ?_
              exact J_ret rfl (Or.inl rfl) (fun aw hR => by show _ ∧ _; unfold f_X12_leafOf; rw [if_pos h0, if_pos h1, if_pos h2, if_pos h3, if_pos h4, if_neg h5]; exact ⟨rfl, hR⟩)
          · refine J_cst 67 jw hj rfl rfl rfl ?_
            refine J_goto 130 jw hj rfl rfl ?_
            exact J_ret rfl (Or.inl rfl) (fun aw hR => by show _ ∧ _; unfold f_X12_leafOf; rw [if_pos h0, if_pos h1, if_pos h2, if_pos h3, if_neg h4]; exact ⟨rfl, hR⟩)
        · refine J_cst 53 jw hj rfl rfl rfl ?_
          refine J_goto 130 jw hj rfl rfl ?_
          exact J_ret rfl (Or.inl rfl) (fun aw hR => by show _ ∧ _; unfold f_X12_leafOf; rw [if_pos h0, if_pos h1, if_pos h2, if_neg h3]; exact ⟨rfl, hR⟩)
      · refine J_cst 39 jw hj rfl rfl rfl ?_
        refine J_goto 130 jw hj rfl rfl ?_
        exact J_ret rfl (Or.inl rfl) (fun aw hR => by show _ ∧ _; unfold f_X12_leafOf; rw [if_pos h0, if_pos h1, if_neg h2]; exact ⟨rfl, hR⟩)
    · refine J_cst 25 jw hj rfl rfl rfl ?_
      refine J_goto 130 jw hj rfl rfl ?_
      exact J_ret rfl (Or.inl rfl) (fun aw hR => by show _ ∧ _; unfold f_X12_leafOf; rw [if_pos h0, if_neg h1]; exact ⟨rfl, hR⟩)
  · refine J_cst 11 jw hj rfl rfl rfl ?_
    refine J_goto 130 jw hj rfl rfl ?_
    exact J_ret rfl (Or.inl rfl) (fun aw hR => by show _ ∧ _; unfold f_X12_leafOf; rw [if_neg h0]; exact ⟨rfl, hR⟩)
def f_X12_code (a1 : Int) (a2 : Int) (a3 : Int) (H : hH) : hH :=
  (upI (upI (upI (upI H 33 (iMul 3 (H.1 29 46)).toNat a1) 33 (iAdd (iMul 3 (H.1 29 46)) 1).toNat a2) 33 (iAdd (iMul 3 (H.1 29 46)) 2).toNat a3) 29 46 (iAdd (H.1 29 46) 1))
set_option maxHeartbeats 16000000 in
set_option maxRecDepth 100000 in
theorem sp_X12_code {g : Nat → Nat} (a1 : Int) (a2 : Int) (a3 : Int) (H : hH) (hr : RMs H.2.2.1) : SP g rvTab rvInf rvRet 316 rvMth 224 [rf (g 29), pt a1, pt a2, pt a3] H (none) (f_X12_code a1 a2 a3 H) := by
  have hj : 224 < 316 := by decide
  refine J_SP hj (Nat.le_of_ble_eq_true rfl) ?_
  show J g rvTab rvInf rvRet 316 rvMth 224 _ 0 [rf (g 29), pt a1, pt a2, pt a3] [] H
  refine J_ld 1 jw hj rfl rfl rfl rfl ?_
  refine J_gfR (k := 33) jw hj rfl (evn rfl) (by decide) (by decide) (RMa hr.1 rfl) ?_
  refine J_cst 5 jw hj rfl rfl rfl ?_
  refine J_ld 6 jw hj rfl rfl rfl rfl ?_
  refine J_gfI jw hj rfl (evn rfl) (by decide) rfl (fun r0 => ?_)
  refine J_bin jw hj rfl rfl ?_
  refine J_ld 11 jw hj rfl rfl rfl rfl ?_
  refine J_iast jw hj rfl (Or.inl rfl) (fun _ => ?_)
  refine J_ld 13 jw hj rfl rfl rfl rfl ?_
  refine J_gfR (k := 33) jw hj rfl (evn rfl) (by decide) (by decide) (RMa hr.1 rfl) ?_
  refine J_cst 17 jw hj rfl rfl rfl ?_
  refine J_ld 18 jw hj rfl rfl rfl rfl ?_
  refine J_gfI jw hj rfl (evn rfl) (by decide) rfl (fun r1 => ?_)
  refine J_bin jw hj rfl rfl ?_
  refine J_cst 23 jw hj rfl rfl rfl ?_
  refine J_bin jw hj rfl rfl ?_
  refine J_ld 25 jw hj rfl rfl rfl rfl ?_
  refine J_iast jw hj rfl (Or.inl rfl) (fun _ => ?_)
  refine J_ld 27 jw hj rfl rfl rfl rfl ?_
  refine J_gfR (k := 33) jw hj rfl (evn rfl) (by decide) (by decide) (RMa hr.1 rfl) ?_
  refine J_cst 31 jw hj rfl rfl rfl ?_
  refine J_ld 32 jw hj rfl rfl rfl rfl ?_
  refine J_gfI jw hj rfl (evn rfl) (by decide) rfl (fun r2 => ?_)
  refine J_bin jw hj rfl rfl ?_
  refine J_cst 37 jw hj rfl rfl rfl ?_
  refine J_bin jw hj rfl rfl ?_
  refine J_ld 39 jw hj rfl rfl rfl rfl ?_
  refine J_iast jw hj rfl (Or.inl rfl) (fun _ => ?_)
  refine J_ld 41 jw hj rfl rfl rfl rfl ?_
  refine J_dup 42 jw hj rfl rfl ?_
  refine J_gfI jw hj rfl (evn rfl) (by decide) rfl (fun r3 => ?_)
  refine J_cst 46 jw hj rfl rfl rfl ?_
  refine J_bin jw hj rfl rfl ?_
  refine J_pfI jw hj rfl (evn rfl) rfl ?_
  exact J_ret rfl (Or.inr (Or.inr rfl)) (fun aw hR => by show _ ∧ _; unfold f_X12_code; exact ⟨rfl, hR⟩)
theorem rp_X12_code {P : (Nat → Nat → Option Nat) → Prop} (a1 : Int) (a2 : Int) (a3 : Int) (H : hH) (hr : P H.2.2.1) : P (f_X12_code a1 a2 a3 H).2.2.1 := by
  unfold f_X12_code
  exact hr
theorem iop_sub {a b : Int} (ha : xIn32 a) (hb : xIn32 b) (h : xIn32 (a - b)) : iSub a b = a - b := xi_sub ha hb h
theorem mpT {H : hH} {k : Nat} (r0 : xIn32 (H.1 29 48)) (h0 : 0 < H.1 29 48) (hm : (H.1 29 48).toNat ≤ k + 1) : (iSub (H.1 29 48) 1).toNat ≤ k := by
  have a1 := r0.2
  have e : iSub (H.1 29 48) 1 = H.1 29 48 - 1 := iop_sub r0 ⟨by decide, by decide⟩ ⟨by omega, by omega⟩
  rw [e]
  omega
def f_X12_ntl  : Nat → hH → hH
  | 0, H => H
  | k + 1, H =>
    if 0 < H.1 29 48 then
      if H.1 46 (iSub (H.1 29 48) 1).toNat = 20 then
        f_X12_ntl k (f_X12_code 20 0 0 (upI (upI H 29 48 (iSub (H.1 29 48) 1)) 29 49 (iSub (H.1 29 49) 1)))
      else
        H
    else
      H
set_option maxHeartbeats 16000000 in
set_option maxRecDepth 100000 in
theorem lp_X12_ntl {g : Nat → Nat} {Post : xRes2 → Prop}  : ∀ (k : Nat)  (H : hH), RMs H.2.2.1 → (H.1 29 48).toNat ≤ k → (J g rvTab rvInf rvRet 316 rvMth 119 Post 54 [rf (g 29)] [] (f_X12_ntl k H)) → J g rvTab rvInf rvRet 316 rvMth 119 Post 0 [rf (g 29)] [] H := by
  intro k
  induction k with
  | zero =>
    intro  H hr hm hx
    have hj : 119 < 316 := by decide
    refine J_ld 1 jw hj rfl rfl rfl rfl ?_
    refine J_gfI jw hj rfl (evn rfl) (by decide) rfl (fun r0 => ?_)
    refine J_ifc (t := 54) jw hj rfl (evn rfl) rfl (fun (h0 : ¬ 0 < H.1 29 48) => ?_) (fun (h0 : 0 < H.1 29 48) => ?_)
    · exact hx
    · refine J_ld 8 jw hj rfl rfl rfl rfl ?_
      refine J_gfR (k := 46) jw hj rfl (evn rfl) (by decide) (by decide) hr.2 ?_
      refine J_ld 12 jw hj rfl rfl rfl rfl ?_
      refine J_gfI jw hj rfl (evn rfl) (by decide) rfl (fun r1 => ?_)
      refine J_cst 16 jw hj rfl rfl rfl ?_
      refine J_bin jw hj rfl rfl ?_
      refine J_iald jw hj rfl (Or.inl rfl) (fun z2 r2 => ?_)
      refine J_cst 20 jw hj rfl rfl rfl ?_
      exfalso; omega
  | succ k ih =>
    intro  H hr hm hx
    have hj : 119 < 316 := by decide
    refine J_ld 1 jw hj rfl rfl rfl rfl ?_
    refine J_gfI jw hj rfl (evn rfl) (by decide) rfl (fun r0 => ?_)
    refine J_ifc (t := 54) jw hj rfl (evn rfl) rfl (fun (h0 : ¬ 0 < H.1 29 48) => ?_) (fun (h0 : 0 < H.1 29 48) => ?_)
    · have e : f_X12_ntl (k + 1) H = H := by
        rw [f_X12_ntl]
        rw [if_neg h0]
      rw [e] at hx
      exact hx
    · refine J_ld 8 jw hj rfl rfl rfl rfl ?_
      refine J_gfR (k := 46) jw hj rfl (evn rfl) (by decide) (by decide) hr.2 ?_
      refine J_ld 12 jw hj rfl rfl rfl rfl ?_
      refine J_gfI jw hj rfl (evn rfl) (by decide) rfl (fun r1 => ?_)
      refine J_cst 16 jw hj rfl rfl rfl ?_
      refine J_bin jw hj rfl rfl ?_
      refine J_iald jw hj rfl (Or.inl rfl) (fun z2 r2 => ?_)
      refine J_cst 20 jw hj rfl rfl rfl ?_
      refine J_icmp (t := 54) jw hj rfl (evn rfl) rfl (fun (h1 : ¬ H.1 46 (iSub (H.1 29 48) 1).toNat = 20) => ?_) (fun (h1 : H.1 46 (iSub (H.1 29 48) 1).toNat = 20) => ?_)
      · have e : f_X12_ntl (k + 1) H = H := by
          rw [f_X12_ntl]
          rw [if_pos h0, if_neg h1]
        rw [e] at hx
        exact hx
      · refine J_ld 24 jw hj rfl rfl rfl rfl ?_
        refine J_dup 25 jw hj rfl rfl ?_
        refine J_gfI jw hj rfl (evn rfl) (by decide) rfl (fun r3 => ?_)
        refine J_cst 29 jw hj rfl rfl rfl ?_
        refine J_bin jw hj rfl rfl ?_
        refine J_pfI jw hj rfl (evn rfl) rfl ?_
        refine J_ld 34 jw hj rfl rfl rfl rfl ?_
        refine J_dup 35 jw hj rfl rfl ?_
        refine J_gfI jw hj rfl (evn rfl) (by decide) rfl (fun r4 => ?_)
        refine J_cst 39 jw hj rfl rfl rfl ?_
        refine J_bin jw hj rfl rfl ?_
        refine J_pfI jw hj rfl (evn rfl) rfl ?_
        refine J_ld 44 jw hj rfl rfl rfl rfl ?_
        refine J_cst 46 jw hj rfl rfl rfl ?_
        refine J_cst 47 jw hj rfl rfl rfl ?_
        refine J_cst 48 jw hj rfl rfl rfl ?_
        refine J_callV0 jw rfl (Or.inl ⟨_, rfl⟩) rfl rfl (sp_X12_code (g := g) 20 0 0 (upI (upI H 29 48 (iSub (H.1 29 48) 1)) 29 49 (iSub (H.1 29 49) 1)) hr) ?_
        refine J_goto 0 jw hj rfl rfl ?_
        have e : f_X12_ntl (k + 1) H = f_X12_ntl k (f_X12_code 20 0 0 (upI (upI H 29 48 (iSub (H.1 29 48) 1)) 29 49 (iSub (H.1 29 49) 1))) := by
          rw [f_X12_ntl]
          rw [if_pos h0, if_pos h1]
        rw [e] at hx
        exact ih  (f_X12_code 20 0 0 (upI (upI H 29 48 (iSub (H.1 29 48) 1)) 29 49 (iSub (H.1 29 49) 1))) (rp_X12_code 20 0 0 (upI (upI H 29 48 (iSub (H.1 29 48) 1)) 29 49 (iSub (H.1 29 49) 1)) hr) (by exact mpT r0 h0 hm) hx
theorem rp_X12_ntl {P : (Nat → Nat → Option Nat) → Prop}  : ∀ (k : Nat)  (H : hH), P H.2.2.1 → P (f_X12_ntl k H).2.2.1 := by
  intro k
  induction k with
  | zero => intro  H hr; exact hr
  | succ k ih =>
    intro  H hr
    rw [f_X12_ntl]
    by_cases q2 : 0 < H.1 29 48
    · rw [if_pos q2]
      by_cases q3 : H.1 46 (iSub (H.1 29 48) 1).toNat = 20
      · rw [if_pos q3]
        exact ih  (f_X12_code 20 0 0 (upI (upI H 29 48 (iSub (H.1 29 48) 1)) 29 49 (iSub (H.1 29 49) 1))) (rp_X12_code 20 0 0 (upI (upI H 29 48 (iSub (H.1 29 48) 1)) 29 49 (iSub (H.1 29 49) 1)) hr)
      · rw [if_neg q3]
        exact hr
    · rw [if_neg q2]
      exact hr
def f_X12_jnl (a1 : Int) : Nat → hH → hH
  | 0, H => H
  | k + 1, H =>
    if 0 < H.1 29 48 then
      if H.1 46 (iSub (H.1 29 48) 1).toNat = 21 then
        f_X12_jnl a1 k (f_X12_code (H.1 46 ((iSub (H.1 29 48) 1)).toNat) 0 0 (upI H 29 48 (iSub (H.1 29 48) 1)))
      else
        if H.1 46 (iSub (H.1 29 48) 1).toNat = 22 then
          if a1 = 22 then
            f_X12_jnl a1 k (f_X12_code (H.1 46 ((iSub (H.1 29 48) 1)).toNat) 0 0 (upI H 29 48 (iSub (H.1 29 48) 1)))
          else
            H
        else
          H
    else
      H
set_option maxHeartbeats 16000000 in
set_option maxRecDepth 100000 in
theorem lp_X12_jnl {g : Nat → Nat} {Post : xRes2 → Prop} (a1 : Int) : ∀ (k : Nat)  (H : hH), RMs H.2.2.1 → (H.1 29 48).toNat ≤ k → (J g rvTab rvInf rvRet 316 rvMth 120 Post 73 [rf (g 29), pt a1] [] (f_X12_jnl a1 k H)) → J g rvTab rvInf rvRet 316 rvMth 120 Post 0 [rf (g 29), pt a1] [] H := by
  intro k
  induction k with
  | zero =>
    intro  H hr hm hx
    have hj : 120 < 316 := by decide
    refine J_ld 1 jw hj rfl rfl rfl rfl ?_
    refine J_gfI jw hj rfl (evn rfl) (by decide) rfl (fun r0 => ?_)
    refine J_ifc (t := 73) jw hj rfl (evn rfl) rfl (fun (h0 : ¬ 0 < H.1 29 48) => ?_) (fun (h0 : 0 < H.1 29 48) => ?_)
    · exact hx
    · refine J_ld 8 jw hj rfl rfl rfl rfl ?_
      refine J_gfR (k := 46) jw hj rfl (evn rfl) (by decide) (by decide) hr.2 ?_
      refine J_ld 12 jw hj rfl rfl rfl rfl ?_
      refine J_gfI jw hj rfl (evn rfl) (by decide) rfl (fun r1 => ?_)
      refine J_cst 16 jw hj rfl rfl rfl ?_
      refine J_bin jw hj rfl rfl ?_
      refine J_iald jw hj rfl (Or.inl rfl) (fun z2 r2 => ?_)
      refine J_cst 20 jw hj rfl rfl rfl ?_
      exfalso; omega
  | succ k ih =>
    intro  H hr hm hx
    have hj : 120 < 316 := by decide
    refine J_ld 1 jw hj rfl rfl rfl rfl ?_
    refine J_gfI jw hj rfl (evn rfl) (by decide) rfl (fun r0 => ?_)
    refine J_ifc (t := 73) jw hj rfl (evn rfl) rfl (fun (h0 : ¬ 0 < H.1 29 48) => ?_) (fun (h0 : 0 < H.1 29 48) => ?_)
    · have e : f_X12_jnl a1 (k + 1) H = H := by
        rw [f_X12_jnl]
        rw [if_neg h0]
      rw [e] at hx
      exact hx
    · refine J_ld 8 jw hj rfl rfl rfl rfl ?_
      refine J_gfR (k := 46) jw hj rfl (evn rfl) (by decide) (by decide) hr.2 ?_
      refine J_ld 12 jw hj rfl rfl rfl rfl ?_
      refine J_gfI jw hj rfl (evn rfl) (by decide) rfl (fun r1 => ?_)
      refine J_cst 16 jw hj rfl rfl rfl ?_
      refine J_bin jw hj rfl rfl ?_
      refine J_iald jw hj rfl (Or.inl rfl) (fun z2 r2 => ?_)
      refine J_cst 20 jw hj rfl rfl rfl ?_
      refine J_icmp (t := 45) jw hj rfl (evn rfl) rfl (fun (h1 : H.1 46 (iSub (H.1 29 48) 1).toNat = 21) => ?_) (fun (h1 : ¬ H.1 46 (iSub (H.1 29 48) 1).toNat = 21) => ?_)
      · refine J_ld 46 jw hj rfl rfl rfl rfl ?_
        refine J_dup 47 jw hj rfl rfl ?_
        refine J_gfI jw hj rfl (evn rfl) (by decide) rfl (fun r3 => ?_)
        refine J_cst 51 jw hj rfl rfl rfl ?_
        refine J_bin jw hj rfl rfl ?_
        refine J_pfI jw hj rfl (evn rfl) rfl ?_
        refine J_ld 56 jw hj rfl rfl rfl rfl ?_
        refine J_ld 57 jw hj rfl rfl rfl rfl ?_
        refine J_gfR (k := 46) jw hj rfl (evn rfl) (by decide) (by decide) hr.2 ?_
        refine J_ld 61 jw hj rfl rfl rfl rfl ?_
        refine J_gfI jw hj rfl (evn rfl) (by decide) rfl (fun r4 => ?_)
        refine J_iald jw hj rfl (Or.inl rfl) (fun z5 r5 => ?_)
        refine J_cst 66 jw hj rfl rfl rfl ?_
        refine J_cst 67 jw hj rfl rfl rfl ?_
        refine J_callV0 jw rfl (Or.inl ⟨_, rfl⟩) rfl rfl (sp_X12_code (g := g) (H.1 46 ((iSub (H.1 29 48) 1)).toNat) 0 0 (upI H 29 48 (iSub (H.1 29 48) 1)) hr) ?_
        refine J_goto 0 jw hj rfl rfl ?_
        have e : f_X12_jnl a1 (k + 1) H = f_X12_jnl a1 k (f_X12_code (H.1 46 ((iSub (H.1 29 48) 1)).toNat) 0 0 (upI H 29 48 (iSub (H.1 29 48) 1))) := by
          rw [f_X12_jnl]
          rw [if_pos h0, if_pos h1]
        rw [e] at hx
        exact ih  (f_X12_code (H.1 46 ((iSub (H.1 29 48) 1)).toNat) 0 0 (upI H 29 48 (iSub (H.1 29 48) 1))) (rp_X12_code (H.1 46 ((iSub (H.1 29 48) 1)).toNat) 0 0 (upI H 29 48 (iSub (H.1 29 48) 1)) hr) (by exact mpT r0 h0 hm) hx
      · refine J_ld 24 jw hj rfl rfl rfl rfl ?_
        refine J_gfR (k := 46) jw hj rfl (evn rfl) (by decide) (by decide) hr.2 ?_
        refine J_ld 28 jw hj rfl rfl rfl rfl ?_
        refine J_gfI jw hj rfl (evn rfl) (by decide) rfl (fun r6 => ?_)
        refine J_cst 32 jw hj rfl rfl rfl ?_
        refine J_bin jw hj rfl rfl ?_
        refine J_iald jw hj rfl (Or.inl rfl) (fun z7 r7 => ?_)
        refine J_cst 36 jw hj rfl rfl rfl ?_
        refine J_icmp (t := 73) jw hj rfl (evn rfl) rfl (fun (h2 : ¬ H.1 46 (iSub (H.1 29 48) 1).toNat = 22) => ?_) (fun (h2 : H.1 46 (iSub (H.1 29 48) 1).toNat = 22) => ?_)
        · have e : f_X12_jnl a1 (k + 1) H = H := by
            rw [f_X12_jnl]
            rw [if_pos h0, if_neg h1, if_neg h2]
          rw [e] at hx
          exact hx
        · refine J_ld 40 jw hj rfl rfl rfl rfl ?_
          refine J_cst 42 jw hj rfl rfl rfl ?_
          refine J_icmp (t := 73) jw hj rfl (evn rfl) rfl (fun (h3 : ¬ a1 = 22) => ?_) (fun (h3 : a1 = 22) => ?_)
          · have e : f_X12_jnl a1 (k + 1) H = H := by
              rw [f_X12_jnl]
              rw [if_pos h0, if_neg h1, if_pos h2, if_neg h3]
            rw [e] at hx
            exact hx
          · refine J_ld 46 jw hj rfl rfl rfl rfl ?_
            refine J_dup 47 jw hj rfl rfl ?_
            refine J_gfI jw hj rfl (evn rfl) (by decide) rfl (fun r8 => ?_)
            refine J_cst 51 jw hj rfl rfl rfl ?_
            refine J_bin jw hj rfl rfl ?_
            refine J_pfI jw hj rfl (evn rfl) rfl ?_
            refine J_ld 56 jw hj rfl rfl rfl rfl ?_
            refine J_ld 57 jw hj rfl rfl rfl rfl ?_
            refine J_gfR (k := 46) jw hj rfl (evn rfl) (by decide) (by decide) hr.2 ?_
            refine J_ld 61 jw hj rfl rfl rfl rfl ?_
            refine J_gfI jw hj rfl (evn rfl) (by decide) rfl (fun r9 => ?_)
            refine J_iald jw hj rfl (Or.inl rfl) (fun z10 r10 => ?_)
            refine J_cst 66 jw hj rfl rfl rfl ?_
            refine J_cst 67 jw hj rfl rfl rfl ?_
            refine J_callV0 jw rfl (Or.inl ⟨_, rfl⟩) rfl rfl (sp_X12_code (g := g) (H.1 46 ((iSub (H.1 29 48) 1)).toNat) 0 0 (upI H 29 48 (iSub (H.1 29 48) 1)) hr) ?_
            refine J_goto 0 jw hj rfl rfl ?_
            have e : f_X12_jnl a1 (k + 1) H = f_X12_jnl a1 k (f_X12_code (H.1 46 ((iSub (H.1 29 48) 1)).toNat) 0 0 (upI H 29 48 (iSub (H.1 29 48) 1))) := by
              rw [f_X12_jnl]
              rw [if_pos h0, if_neg h1, if_pos h2, if_pos h3]
            rw [e] at hx
            exact ih  (f_X12_code (H.1 46 ((iSub (H.1 29 48) 1)).toNat) 0 0 (upI H 29 48 (iSub (H.1 29 48) 1))) (rp_X12_code (H.1 46 ((iSub (H.1 29 48) 1)).toNat) 0 0 (upI H 29 48 (iSub (H.1 29 48) 1)) hr) (by exact mpT r0 h0 hm) hx
theorem rp_X12_jnl {P : (Nat → Nat → Option Nat) → Prop} (a1 : Int) : ∀ (k : Nat)  (H : hH), P H.2.2.1 → P (f_X12_jnl a1 k H).2.2.1 := by
  intro k
  induction k with
  | zero => intro  H hr; exact hr
  | succ k ih =>
    intro  H hr
    rw [f_X12_jnl]
    by_cases q2 : 0 < H.1 29 48
    · rw [if_pos q2]
      by_cases q3 : H.1 46 (iSub (H.1 29 48) 1).toNat = 21
      · rw [if_pos q3]
        exact ih  (f_X12_code (H.1 46 ((iSub (H.1 29 48) 1)).toNat) 0 0 (upI H 29 48 (iSub (H.1 29 48) 1))) (rp_X12_code (H.1 46 ((iSub (H.1 29 48) 1)).toNat) 0 0 (upI H 29 48 (iSub (H.1 29 48) 1)) hr)
      · rw [if_neg q3]
        by_cases q4 : H.1 46 (iSub (H.1 29 48) 1).toNat = 22
        · rw [if_pos q4]
          by_cases q5 : a1 = 22
          · rw [if_pos q5]
            exact ih  (f_X12_code (H.1 46 ((iSub (H.1 29 48) 1)).toNat) 0 0 (upI H 29 48 (iSub (H.1 29 48) 1))) (rp_X12_code (H.1 46 ((iSub (H.1 29 48) 1)).toNat) 0 0 (upI H 29 48 (iSub (H.1 29 48) 1)) hr)
          · rw [if_neg q5]
            exact hr
        · rw [if_neg q4]
          exact hr
    · rw [if_neg q2]
      exact hr
def f_X12_nots  (H : hH) : hH := f_X12_ntl (H.1 29 48).toNat H
theorem rp_X12_nots {P : (Nat → Nat → Option Nat) → Prop}  (H : hH) (hr : P H.2.2.1) : P (f_X12_nots H).2.2.1 := rp_X12_ntl _ H hr
theorem sp_X12_nots {g : Nat → Nat}  (H : hH) (hr : RMs H.2.2.1) : SP g rvTab rvInf rvRet 316 rvMth 119 [rf (g 29)] H none (f_X12_nots H) := by
  have hj : 119 < 316 := by decide
  refine J_SP hj (Nat.le_of_ble_eq_true rfl) ?_
  exact lp_X12_ntl _ H hr (Nat.le_refl _) (J_ret rfl (Or.inr (Or.inr rfl)) (fun aw hR => ⟨rfl, hR⟩))
def f_X12_joins (a1 : Int) (H : hH) : hH := f_X12_jnl a1 (H.1 29 48).toNat H
theorem rp_X12_joins {P : (Nat → Nat → Option Nat) → Prop} (a1 : Int) (H : hH) (hr : P H.2.2.1) : P (f_X12_joins a1 H).2.2.1 := rp_X12_jnl a1 _ H hr
theorem sp_X12_joins {g : Nat → Nat} (a1 : Int) (H : hH) (hr : RMs H.2.2.1) : SP g rvTab rvInf rvRet 316 rvMth 120 [rf (g 29), pt a1] H none (f_X12_joins a1 H) := by
  have hj : 120 < 316 := by decide
  refine J_SP hj (Nat.le_of_ble_eq_true rfl) ?_
  exact lp_X12_jnl a1 _ H hr (Nat.le_refl _) (J_ret rfl (Or.inr (Or.inr rfl)) (fun aw hR => ⟨rfl, hR⟩))
def f_X12_operand  (H : hH) : Int × hH :=
  if f_X12_isWord 7237492 H = 0 then
    if f_X12_isSign 40 H = 0 then
      if f_X12_leafOf H < 0 then
        ((f_X12_bad 1 H).1, (f_X12_bad 1 H).2)
      else
        if H.1 29 47 = 20 then
          ((f_X12_bad 4 H).1, (f_X12_bad 4 H).2)
        else
          if 8 < H.1 29 49 then
            ((f_X12_bad 4 H).1, (f_X12_bad 4 H).2)
          else
            if f_X12_isWord 7237492 H = 0 then
              if f_X12_isSign 40 H = 0 then
                if f_X12_leafOf H < 3 then
                  (1, (f_X12_code (f_X12_leafOf H) 0 0 (upI (f_X12_next (upI H 29 47 (iAdd (H.1 29 47) 1))) 29 50 1)))
                else
                  if f_X12_leafOf H < 6 then
                    if f_X12_leafOf H = 3 then
                      if ((f_X12_looksAt 17 ((f_X12_next (upI H 29 47 (iAdd (H.1 29 47) 1))).1 31 3) (upI (f_X12_next (upI H 29 47 (iAdd (H.1 29 47) 1))) 29 50 1)).1) = 0 then
                        (0, (f_X12_looksAt 17 ((f_X12_next (upI H 29 47 (iAdd (H.1 29 47) 1))).1 31 3) (upI (f_X12_next (upI H 29 47 (iAdd (H.1 29 47) 1))) 29 50 1)).2)
                      else
                        (1, (f_X12_next (f_X12_code (f_X12_leafOf H) 0 ((f_X12_looksAt 17 ((f_X12_next (upI H 29 47 (iAdd (H.1 29 47) 1))).1 31 3) (upI (f_X12_next (upI H 29 47 (iAdd (H.1 29 47) 1))) 29 50 1)).2.1 29 18) (f_X12_looksAt 17 ((f_X12_next (upI H 29 47 (iAdd (H.1 29 47) 1))).1 31 3) (upI (f_X12_next (upI H 29 47 (iAdd (H.1 29 47) 1))) 29 50 1)).2)))
                    else
                      if f_X12_leafOf H = 4 then
                        if ((f_X12_looksAt 0 ((f_X12_next (upI H 29 47 (iAdd (H.1 29 47) 1))).1 31 0) (upI (f_X12_next (upI H 29 47 (iAdd (H.1 29 47) 1))) 29 50 1)).1) = 0 then
                          (0, (f_X12_looksAt 0 ((f_X12_next (upI H 29 47 (iAdd (H.1 29 47) 1))).1 31 0) (upI (f_X12_next (upI H 29 47 (iAdd (H.1 29 47) 1))) 29 50 1)).2)
                        else
                          (1, (f_X12_next (f_X12_code (f_X12_leafOf H) 0 ((f_X12_looksAt 0 ((f_X12_next (upI H 29 47 (iAdd (H.1 29 47) 1))).1 31 0) (upI (f_X12_next (upI H 29 47 (iAdd (H.1 29 47) 1))) 29 50 1)).2.1 29 18) (f_X12_looksAt 0 ((f_X12_next (upI H 29 47 (iAdd (H.1 29 47) 1))).1 31 0) (upI (f_X12_next (upI H 29 47 (iAdd (H.1 29 47) 1))) 29 50 1)).2)))
                      else
                        if ((f_X12_looksAt 4 ((f_X12_next (upI H 29 47 (iAdd (H.1 29 47) 1))).1 31 1) (upI (f_X12_next (upI H 29 47 (iAdd (H.1 29 47) 1))) 29 50 1)).1) = 0 then
                          (0, (f_X12_looksAt 4 ((f_X12_next (upI H 29 47 (iAdd (H.1 29 47) 1))).1 31 1) (upI (f_X12_next (upI H 29 47 (iAdd (H.1 29 47) 1))) 29 50 1)).2)
                        else
                          (1, (f_X12_next (f_X12_code (f_X12_leafOf H) 0 ((f_X12_looksAt 4 ((f_X12_next (upI H 29 47 (iAdd (H.1 29 47) 1))).1 31 1) (upI (f_X12_next (upI H 29 47 (iAdd (H.1 29 47) 1))) 29 50 1)).2.1 29 18) (f_X12_looksAt 4 ((f_X12_next (upI H 29 47 (iAdd (H.1 29 47) 1))).1 31 1) (upI (f_X12_next (upI H 29 47 (iAdd (H.1 29 47) 1))) 29 50 1)).2)))
                  else
                    if ((f_X12_next (upI H 29 47 (iAdd (H.1 29 47) 1))).1 29 11) = 3 then
                      if ((f_X12_next (upI H 29 47 (iAdd (H.1 29 47) 1))).1 29 14) < 60 then
                        ((f_X12_bad 1 (upI (f_X12_next (upI H 29 47 (iAdd (H.1 29 47) 1))) 29 50 1)).1, (f_X12_bad 1 (upI (f_X12_next (upI H 29 47 (iAdd (H.1 29 47) 1))) 29 50 1)).2)
                      else
                        if 62 < ((f_X12_next (upI H 29 47 (iAdd (H.1 29 47) 1))).1 29 14) then
                          ((f_X12_bad 1 (upI (f_X12_next (upI H 29 47 (iAdd (H.1 29 47) 1))) 29 50 1)).1, (f_X12_bad 1 (upI (f_X12_next (upI H 29 47 (iAdd (H.1 29 47) 1))) 29 50 1)).2)
                        else
                          if ((f_X12_next (upI (f_X12_next (upI H 29 47 (iAdd (H.1 29 47) 1))) 29 50 1)).1 29 11) = 2 then
                            (1, (f_X12_next (f_X12_code (f_X12_leafOf H) ((f_X12_next (upI H 29 47 (iAdd (H.1 29 47) 1))).1 29 14) ((f_X12_next (upI (f_X12_next (upI H 29 47 (iAdd (H.1 29 47) 1))) 29 50 1)).1 29 14) (f_X12_next (upI (f_X12_next (upI H 29 47 (iAdd (H.1 29 47) 1))) 29 50 1)))))
                          else
                            ((f_X12_bad 1 (f_X12_next (upI (f_X12_next (upI H 29 47 (iAdd (H.1 29 47) 1))) 29 50 1))).1, (f_X12_bad 1 (f_X12_next (upI (f_X12_next (upI H 29 47 (iAdd (H.1 29 47) 1))) 29 50 1))).2)
                    else
                      ((f_X12_bad 1 (upI (f_X12_next (upI H 29 47 (iAdd (H.1 29 47) 1))) 29 50 1)).1, (f_X12_bad 1 (upI (f_X12_next (upI H 29 47 (iAdd (H.1 29 47) 1))) 29 50 1)).2)
              else
                if f_X12_isWord 7237492 H = 0 then
                  (1, (upI (upI (upI (f_X12_next (upI H 29 47 (iAdd (H.1 29 47) 1))) 46 ((f_X12_next (upI H 29 47 (iAdd (H.1 29 47) 1))).1 29 48).toNat 23) 29 48 (iAdd ((f_X12_next (upI H 29 47 (iAdd (H.1 29 47) 1))).1 29 48) 1)) 29 49 (iAdd ((f_X12_next (upI H 29 47 (iAdd (H.1 29 47) 1))).1 29 49) 1)))
                else
                  (1, (upI (upI (upI (f_X12_next (upI H 29 47 (iAdd (H.1 29 47) 1))) 46 ((f_X12_next (upI H 29 47 (iAdd (H.1 29 47) 1))).1 29 48).toNat 20) 29 48 (iAdd ((f_X12_next (upI H 29 47 (iAdd (H.1 29 47) 1))).1 29 48) 1)) 29 49 (iAdd ((f_X12_next (upI H 29 47 (iAdd (H.1 29 47) 1))).1 29 49) 1)))
            else
              if f_X12_isWord 7237492 H = 0 then
                (1, (upI (upI (upI (f_X12_next (upI H 29 47 (iAdd (H.1 29 47) 1))) 46 ((f_X12_next (upI H 29 47 (iAdd (H.1 29 47) 1))).1 29 48).toNat 23) 29 48 (iAdd ((f_X12_next (upI H 29 47 (iAdd (H.1 29 47) 1))).1 29 48) 1)) 29 49 (iAdd ((f_X12_next (upI H 29 47 (iAdd (H.1 29 47) 1))).1 29 49) 1)))
              else
                (1, (upI (upI (upI (f_X12_next (upI H 29 47 (iAdd (H.1 29 47) 1))) 46 ((f_X12_next (upI H 29 47 (iAdd (H.1 29 47) 1))).1 29 48).toNat 20) 29 48 (iAdd ((f_X12_next (upI H 29 47 (iAdd (H.1 29 47) 1))).1 29 48) 1)) 29 49 (iAdd ((f_X12_next (upI H 29 47 (iAdd (H.1 29 47) 1))).1 29 49) 1)))
    else
      if H.1 29 47 = 20 then
        ((f_X12_bad 4 H).1, (f_X12_bad 4 H).2)
      else
        if 8 < H.1 29 49 then
          ((f_X12_bad 4 H).1, (f_X12_bad 4 H).2)
        else
          if f_X12_isWord 7237492 H = 0 then
            if f_X12_isSign 40 H = 0 then
              if f_X12_leafOf H < 3 then
                (1, (f_X12_code (f_X12_leafOf H) 0 0 (upI (f_X12_next (upI H 29 47 (iAdd (H.1 29 47) 1))) 29 50 1)))
              else
                if f_X12_leafOf H < 6 then
                  if f_X12_leafOf H = 3 then
                    if ((f_X12_looksAt 17 ((f_X12_next (upI H 29 47 (iAdd (H.1 29 47) 1))).1 31 3) (upI (f_X12_next (upI H 29 47 (iAdd (H.1 29 47) 1))) 29 50 1)).1) = 0 then
                      (0, (f_X12_looksAt 17 ((f_X12_next (upI H 29 47 (iAdd (H.1 29 47) 1))).1 31 3) (upI (f_X12_next (upI H 29 47 (iAdd (H.1 29 47) 1))) 29 50 1)).2)
                    else
                      (1, (f_X12_next (f_X12_code (f_X12_leafOf H) 0 ((f_X12_looksAt 17 ((f_X12_next (upI H 29 47 (iAdd (H.1 29 47) 1))).1 31 3) (upI (f_X12_next (upI H 29 47 (iAdd (H.1 29 47) 1))) 29 50 1)).2.1 29 18) (f_X12_looksAt 17 ((f_X12_next (upI H 29 47 (iAdd (H.1 29 47) 1))).1 31 3) (upI (f_X12_next (upI H 29 47 (iAdd (H.1 29 47) 1))) 29 50 1)).2)))
                  else
                    if f_X12_leafOf H = 4 then
                      if ((f_X12_looksAt 0 ((f_X12_next (upI H 29 47 (iAdd (H.1 29 47) 1))).1 31 0) (upI (f_X12_next (upI H 29 47 (iAdd (H.1 29 47) 1))) 29 50 1)).1) = 0 then
                        (0, (f_X12_looksAt 0 ((f_X12_next (upI H 29 47 (iAdd (H.1 29 47) 1))).1 31 0) (upI (f_X12_next (upI H 29 47 (iAdd (H.1 29 47) 1))) 29 50 1)).2)
                      else
                        (1, (f_X12_next (f_X12_code (f_X12_leafOf H) 0 ((f_X12_looksAt 0 ((f_X12_next (upI H 29 47 (iAdd (H.1 29 47) 1))).1 31 0) (upI (f_X12_next (upI H 29 47 (iAdd (H.1 29 47) 1))) 29 50 1)).2.1 29 18) (f_X12_looksAt 0 ((f_X12_next (upI H 29 47 (iAdd (H.1 29 47) 1))).1 31 0) (upI (f_X12_next (upI H 29 47 (iAdd (H.1 29 47) 1))) 29 50 1)).2)))
                    else
                      if ((f_X12_looksAt 4 ((f_X12_next (upI H 29 47 (iAdd (H.1 29 47) 1))).1 31 1) (upI (f_X12_next (upI H 29 47 (iAdd (H.1 29 47) 1))) 29 50 1)).1) = 0 then
                        (0, (f_X12_looksAt 4 ((f_X12_next (upI H 29 47 (iAdd (H.1 29 47) 1))).1 31 1) (upI (f_X12_next (upI H 29 47 (iAdd (H.1 29 47) 1))) 29 50 1)).2)
                      else
                        (1, (f_X12_next (f_X12_code (f_X12_leafOf H) 0 ((f_X12_looksAt 4 ((f_X12_next (upI H 29 47 (iAdd (H.1 29 47) 1))).1 31 1) (upI (f_X12_next (upI H 29 47 (iAdd (H.1 29 47) 1))) 29 50 1)).2.1 29 18) (f_X12_looksAt 4 ((f_X12_next (upI H 29 47 (iAdd (H.1 29 47) 1))).1 31 1) (upI (f_X12_next (upI H 29 47 (iAdd (H.1 29 47) 1))) 29 50 1)).2)))
                else
                  if ((f_X12_next (upI H 29 47 (iAdd (H.1 29 47) 1))).1 29 11) = 3 then
                    if ((f_X12_next (upI H 29 47 (iAdd (H.1 29 47) 1))).1 29 14) < 60 then
                      ((f_X12_bad 1 (upI (f_X12_next (upI H 29 47 (iAdd (H.1 29 47) 1))) 29 50 1)).1, (f_X12_bad 1 (upI (f_X12_next (upI H 29 47 (iAdd (H.1 29 47) 1))) 29 50 1)).2)
                    else
                      if 62 < ((f_X12_next (upI H 29 47 (iAdd (H.1 29 47) 1))).1 29 14) then
                        ((f_X12_bad 1 (upI (f_X12_next (upI H 29 47 (iAdd (H.1 29 47) 1))) 29 50 1)).1, (f_X12_bad 1 (upI (f_X12_next (upI H 29 47 (iAdd (H.1 29 47) 1))) 29 50 1)).2)
                      else
                        if ((f_X12_next (upI (f_X12_next (upI H 29 47 (iAdd (H.1 29 47) 1))) 29 50 1)).1 29 11) = 2 then
                          (1, (f_X12_next (f_X12_code (f_X12_leafOf H) ((f_X12_next (upI H 29 47 (iAdd (H.1 29 47) 1))).1 29 14) ((f_X12_next (upI (f_X12_next (upI H 29 47 (iAdd (H.1 29 47) 1))) 29 50 1)).1 29 14) (f_X12_next (upI (f_X12_next (upI H 29 47 (iAdd (H.1 29 47) 1))) 29 50 1)))))
                        else
                          ((f_X12_bad 1 (f_X12_next (upI (f_X12_next (upI H 29 47 (iAdd (H.1 29 47) 1))) 29 50 1))).1, (f_X12_bad 1 (f_X12_next (upI (f_X12_next (upI H 29 47 (iAdd (H.1 29 47) 1))) 29 50 1))).2)
                  else
                    ((f_X12_bad 1 (upI (f_X12_next (upI H 29 47 (iAdd (H.1 29 47) 1))) 29 50 1)).1, (f_X12_bad 1 (upI (f_X12_next (upI H 29 47 (iAdd (H.1 29 47) 1))) 29 50 1)).2)
            else
              if f_X12_isWord 7237492 H = 0 then
                (1, (upI (upI (upI (f_X12_next (upI H 29 47 (iAdd (H.1 29 47) 1))) 46 ((f_X12_next (upI H 29 47 (iAdd (H.1 29 47) 1))).1 29 48).toNat 23) 29 48 (iAdd ((f_X12_next (upI H 29 47 (iAdd (H.1 29 47) 1))).1 29 48) 1)) 29 49 (iAdd ((f_X12_next (upI H 29 47 (iAdd (H.1 29 47) 1))).1 29 49) 1)))
              else
                (1, (upI (upI (upI (f_X12_next (upI H 29 47 (iAdd (H.1 29 47) 1))) 46 ((f_X12_next (upI H 29 47 (iAdd (H.1 29 47) 1))).1 29 48).toNat 20) 29 48 (iAdd ((f_X12_next (upI H 29 47 (iAdd (H.1 29 47) 1))).1 29 48) 1)) 29 49 (iAdd ((f_X12_next (upI H 29 47 (iAdd (H.1 29 47) 1))).1 29 49) 1)))
          else
            if f_X12_isWord 7237492 H = 0 then
              (1, (upI (upI (upI (f_X12_next (upI H 29 47 (iAdd (H.1 29 47) 1))) 46 ((f_X12_next (upI H 29 47 (iAdd (H.1 29 47) 1))).1 29 48).toNat 23) 29 48 (iAdd ((f_X12_next (upI H 29 47 (iAdd (H.1 29 47) 1))).1 29 48) 1)) 29 49 (iAdd ((f_X12_next (upI H 29 47 (iAdd (H.1 29 47) 1))).1 29 49) 1)))
            else
              (1, (upI (upI (upI (f_X12_next (upI H 29 47 (iAdd (H.1 29 47) 1))) 46 ((f_X12_next (upI H 29 47 (iAdd (H.1 29 47) 1))).1 29 48).toNat 20) 29 48 (iAdd ((f_X12_next (upI H 29 47 (iAdd (H.1 29 47) 1))).1 29 48) 1)) 29 49 (iAdd ((f_X12_next (upI H 29 47 (iAdd (H.1 29 47) 1))).1 29 49) 1)))
  else
    if H.1 29 47 = 20 then
      ((f_X12_bad 4 H).1, (f_X12_bad 4 H).2)
    else
      if 8 < H.1 29 49 then
        ((f_X12_bad 4 H).1, (f_X12_bad 4 H).2)
      else
        if f_X12_isWord 7237492 H = 0 then
          if f_X12_isSign 40 H = 0 then
            if f_X12_leafOf H < 3 then
              (1, (f_X12_code (f_X12_leafOf H) 0 0 (upI (f_X12_next (upI H 29 47 (iAdd (H.1 29 47) 1))) 29 50 1)))
            else
              if f_X12_leafOf H < 6 then
                if f_X12_leafOf H = 3 then
                  if ((f_X12_looksAt 17 ((f_X12_next (upI H 29 47 (iAdd (H.1 29 47) 1))).1 31 3) (upI (f_X12_next (upI H 29 47 (iAdd (H.1 29 47) 1))) 29 50 1)).1) = 0 then
                    (0, (f_X12_looksAt 17 ((f_X12_next (upI H 29 47 (iAdd (H.1 29 47) 1))).1 31 3) (upI (f_X12_next (upI H 29 47 (iAdd (H.1 29 47) 1))) 29 50 1)).2)
                  else
                    (1, (f_X12_next (f_X12_code (f_X12_leafOf H) 0 ((f_X12_looksAt 17 ((f_X12_next (upI H 29 47 (iAdd (H.1 29 47) 1))).1 31 3) (upI (f_X12_next (upI H 29 47 (iAdd (H.1 29 47) 1))) 29 50 1)).2.1 29 18) (f_X12_looksAt 17 ((f_X12_next (upI H 29 47 (iAdd (H.1 29 47) 1))).1 31 3) (upI (f_X12_next (upI H 29 47 (iAdd (H.1 29 47) 1))) 29 50 1)).2)))
                else
                  if f_X12_leafOf H = 4 then
                    if ((f_X12_looksAt 0 ((f_X12_next (upI H 29 47 (iAdd (H.1 29 47) 1))).1 31 0) (upI (f_X12_next (upI H 29 47 (iAdd (H.1 29 47) 1))) 29 50 1)).1) = 0 then
                      (0, (f_X12_looksAt 0 ((f_X12_next (upI H 29 47 (iAdd (H.1 29 47) 1))).1 31 0) (upI (f_X12_next (upI H 29 47 (iAdd (H.1 29 47) 1))) 29 50 1)).2)
                    else
                      (1, (f_X12_next (f_X12_code (f_X12_leafOf H) 0 ((f_X12_looksAt 0 ((f_X12_next (upI H 29 47 (iAdd (H.1 29 47) 1))).1 31 0) (upI (f_X12_next (upI H 29 47 (iAdd (H.1 29 47) 1))) 29 50 1)).2.1 29 18) (f_X12_looksAt 0 ((f_X12_next (upI H 29 47 (iAdd (H.1 29 47) 1))).1 31 0) (upI (f_X12_next (upI H 29 47 (iAdd (H.1 29 47) 1))) 29 50 1)).2)))
                  else
                    if ((f_X12_looksAt 4 ((f_X12_next (upI H 29 47 (iAdd (H.1 29 47) 1))).1 31 1) (upI (f_X12_next (upI H 29 47 (iAdd (H.1 29 47) 1))) 29 50 1)).1) = 0 then
                      (0, (f_X12_looksAt 4 ((f_X12_next (upI H 29 47 (iAdd (H.1 29 47) 1))).1 31 1) (upI (f_X12_next (upI H 29 47 (iAdd (H.1 29 47) 1))) 29 50 1)).2)
                    else
                      (1, (f_X12_next (f_X12_code (f_X12_leafOf H) 0 ((f_X12_looksAt 4 ((f_X12_next (upI H 29 47 (iAdd (H.1 29 47) 1))).1 31 1) (upI (f_X12_next (upI H 29 47 (iAdd (H.1 29 47) 1))) 29 50 1)).2.1 29 18) (f_X12_looksAt 4 ((f_X12_next (upI H 29 47 (iAdd (H.1 29 47) 1))).1 31 1) (upI (f_X12_next (upI H 29 47 (iAdd (H.1 29 47) 1))) 29 50 1)).2)))
              else
                if ((f_X12_next (upI H 29 47 (iAdd (H.1 29 47) 1))).1 29 11) = 3 then
                  if ((f_X12_next (upI H 29 47 (iAdd (H.1 29 47) 1))).1 29 14) < 60 then
                    ((f_X12_bad 1 (upI (f_X12_next (upI H 29 47 (iAdd (H.1 29 47) 1))) 29 50 1)).1, (f_X12_bad 1 (upI (f_X12_next (upI H 29 47 (iAdd (H.1 29 47) 1))) 29 50 1)).2)
                  else
                    if 62 < ((f_X12_next (upI H 29 47 (iAdd (H.1 29 47) 1))).1 29 14) then
                      ((f_X12_bad 1 (upI (f_X12_next (upI H 29 47 (iAdd (H.1 29 47) 1))) 29 50 1)).1, (f_X12_bad 1 (upI (f_X12_next (upI H 29 47 (iAdd (H.1 29 47) 1))) 29 50 1)).2)
                    else
                      if ((f_X12_next (upI (f_X12_next (upI H 29 47 (iAdd (H.1 29 47) 1))) 29 50 1)).1 29 11) = 2 then
                        (1, (f_X12_next (f_X12_code (f_X12_leafOf H) ((f_X12_next (upI H 29 47 (iAdd (H.1 29 47) 1))).1 29 14) ((f_X12_next (upI (f_X12_next (upI H 29 47 (iAdd (H.1 29 47) 1))) 29 50 1)).1 29 14) (f_X12_next (upI (f_X12_next (upI H 29 47 (iAdd (H.1 29 47) 1))) 29 50 1)))))
                      else
                        ((f_X12_bad 1 (f_X12_next (upI (f_X12_next (upI H 29 47 (iAdd (H.1 29 47) 1))) 29 50 1))).1, (f_X12_bad 1 (f_X12_next (upI (f_X12_next (upI H 29 47 (iAdd (H.1 29 47) 1))) 29 50 1))).2)
                else
                  ((f_X12_bad 1 (upI (f_X12_next (upI H 29 47 (iAdd (H.1 29 47) 1))) 29 50 1)).1, (f_X12_bad 1 (upI (f_X12_next (upI H 29 47 (iAdd (H.1 29 47) 1))) 29 50 1)).2)
          else
            if f_X12_isWord 7237492 H = 0 then
              (1, (upI (upI (upI (f_X12_next (upI H 29 47 (iAdd (H.1 29 47) 1))) 46 ((f_X12_next (upI H 29 47 (iAdd (H.1 29 47) 1))).1 29 48).toNat 23) 29 48 (iAdd ((f_X12_next (upI H 29 47 (iAdd (H.1 29 47) 1))).1 29 48) 1)) 29 49 (iAdd ((f_X12_next (upI H 29 47 (iAdd (H.1 29 47) 1))).1 29 49) 1)))
            else
              (1, (upI (upI (upI (f_X12_next (upI H 29 47 (iAdd (H.1 29 47) 1))) 46 ((f_X12_next (upI H 29 47 (iAdd (H.1 29 47) 1))).1 29 48).toNat 20) 29 48 (iAdd ((f_X12_next (upI H 29 47 (iAdd (H.1 29 47) 1))).1 29 48) 1)) 29 49 (iAdd ((f_X12_next (upI H 29 47 (iAdd (H.1 29 47) 1))).1 29 49) 1)))
        else
          if f_X12_isWord 7237492 H = 0 then
            (1, (upI (upI (upI (f_X12_next (upI H 29 47 (iAdd (H.1 29 47) 1))) 46 ((f_X12_next (upI H 29 47 (iAdd (H.1 29 47) 1))).1 29 48).toNat 23) 29 48 (iAdd ((f_X12_next (upI H 29 47 (iAdd (H.1 29 47) 1))).1 29 48) 1)) 29 49 (iAdd ((f_X12_next (upI H 29 47 (iAdd (H.1 29 47) 1))).1 29 49) 1)))
          else
            (1, (upI (upI (upI (f_X12_next (upI H 29 47 (iAdd (H.1 29 47) 1))) 46 ((f_X12_next (upI H 29 47 (iAdd (H.1 29 47) 1))).1 29 48).toNat 20) 29 48 (iAdd ((f_X12_next (upI H 29 47 (iAdd (H.1 29 47) 1))).1 29 48) 1)) 29 49 (iAdd ((f_X12_next (upI H 29 47 (iAdd (H.1 29 47) 1))).1 29 49) 1)))
set_option maxHeartbeats 16000000 in
set_option maxRecDepth 100000 in
theorem sp_X12_operand {g : Nat → Nat}  (H : hH) (hr : RMs H.2.2.1) : SP g rvTab rvInf rvRet 316 rvMth 223 [rf (g 29)] H (some (pt (f_X12_operand H).1)) (f_X12_operand H).2 := by
  have hj : 223 < 316 := by decide
  refine J_SP hj (Nat.le_of_ble_eq_true rfl) ?_
  show J g rvTab rvInf rvRet 316 rvMth 223 _ 0 [rf (g 29), rvU, rvU, rvU, rvU] [] H
  refine J_ld 1 jw hj rfl rfl rfl rfl ?_
  refine J_lc (n := 7237492) 4 jw hj rfl (Or.inr ⟨_, rfl, by decide +kernel, rfl⟩) ?_
  refine J_callV1 jw rfl (Or.inl ⟨_, rfl⟩) rfl rfl (sp_X12_isWord (g := g) 7237492 H) ?_
  refine J_st 8 [rf (g 29), pt (f_X12_isWord 7237492 H), rvU, rvU, rvU] (k := 1) jw hj rfl (Or.inr (Or.inr (Or.inl ⟨_, rfl, rfl, rfl⟩))) rfl ?_
  refine J_ld 9 jw hj rfl rfl rfl rfl ?_
  refine J_cst 11 jw hj rfl rfl rfl ?_
  refine J_callV1 jw rfl (Or.inl ⟨_, rfl⟩) rfl rfl (sp_X12_isSign (g := g) 40 H) ?_
  refine J_st 15 [rf (g 29), pt (f_X12_isWord 7237492 H), pt (f_X12_isSign 40 H), rvU, rvU] (k := 2) jw hj rfl (Or.inr (Or.inr (Or.inl ⟨_, rfl, rfl, rfl⟩))) rfl ?_
  refine J_ld 16 jw hj rfl rfl rfl rfl ?_
  refine J_callV1 jw rfl (Or.inl ⟨_, rfl⟩) rfl rfl (sp_X12_leafOf (g := g) H) ?_
  refine J_st 20 [rf (g 29), pt (f_X12_isWord 7237492 H), pt (f_X12_isSign 40 H), pt (f_X12_leafOf H), rvU] (k := 3) jw hj rfl (Or.inr (Or.inr (Or.inl ⟨_, rfl, rfl, rfl⟩))) rfl ?_
  refine J_ld 21 jw hj rfl rfl rfl rfl ?_
  refine J_ifc (t := 38) jw hj rfl (evn rfl) rfl (fun (h0 : ¬ f_X12_isWord 7237492 H = 0) => ?_) (fun (h0 : f_X12_isWord 7237492 H = 0) => ?_)
  · refine J_ld 39 jw hj rfl rfl rfl rfl ?_
    refine J_gfI jw hj rfl (evn rfl) (by decide) rfl (fun r0 => ?_)
    refine J_cst 44 jw hj rfl rfl rfl ?_
    refine J_icmp (t := 56) jw hj rfl (evn rfl) rfl (fun (h1 : H.1 29 47 = 20) => ?_) (fun (h1 : ¬ H.1 29 47 = 20) => ?_)
    · refine J_ld 57 jw hj rfl rfl rfl rfl ?_
      refine J_cst 58 jw hj rfl rfl rfl ?_
      refine J_callV1 jw rfl (Or.inl ⟨_, rfl⟩) rfl rfl (sp_X12_bad (g := g) 4 H) ?_
      exact J_ret rfl (Or.inl rfl) (fun aw hR => by show _ ∧ _; unfold f_X12_operand; rw [if_neg h0, if_pos h1]; exact ⟨rfl, hR⟩)
    · refine J_ld 48 jw hj rfl rfl rfl rfl ?_
      refine J_gfI jw hj rfl (evn rfl) (by decide) rfl (fun r1 => ?_)
      refine J_cst 53 jw hj rfl rfl rfl ?_
      refine J_icmp (t := 62) jw hj rfl (evn rfl) rfl (fun (h2 : ¬ 8 < H.1 29 49) => ?_) (fun (h2 : 8 < H.1 29 49) => ?_)
      · refine J_ld 63 jw hj rfl rfl rfl rfl ?_
        refine J_dup 64 jw hj rfl rfl ?_
        refine J_gfI jw hj rfl (evn rfl) (by decide) rfl (fun r2 => ?_)
        refine J_cst 68 jw hj rfl rfl rfl ?_
        refine J_bin jw hj rfl rfl ?_
        refine J_pfI jw hj rfl (evn rfl) rfl ?_
        refine J_ld 73 jw hj rfl rfl rfl rfl ?_
        refine J_callV0 jw rfl (Or.inl ⟨_, rfl⟩) rfl rfl (sp_X12_next (g := g) (upI H 29 47 (iAdd (H.1 29 47) 1)) hr.1) ?_
        refine J_ld 77 jw hj rfl rfl rfl rfl ?_
        refine J_ifc (t := 84) jw hj rfl (evn rfl) rfl (fun (h3 : ¬ f_X12_isWord 7237492 H = 0) => ?_) (fun (h3 : f_X12_isWord 7237492 H = 0) => ?_)
        · refine J_ld 85 jw hj rfl rfl rfl rfl ?_
          refine J_gfR (k := 46) jw hj rfl (evn rfl) (by decide) (by decide) (rp_X12_next (upI H 29 47 (iAdd (H.1 29 47) 1)) hr).2 ?_
          refine J_ld 89 jw hj rfl rfl rfl rfl ?_
          refine J_gfI jw hj rfl (evn rfl) (by decide) rfl (fun r3 => ?_)
          refine J_ld 93 jw hj rfl rfl rfl rfl ?_
          refine J_ifc (t := 101) jw hj rfl (evn rfl) rfl (fun (h4 : f_X12_isWord 7237492 H = 0) => ?_) (fun (h4 : ¬ f_X12_isWord 7237492 H = 0) => ?_)
          · refine J_cst 103 jw hj rfl rfl rfl ?_
            refine J_iast jw hj rfl (Or.inl rfl) (fun _ => ?_)
            refine J_ld 105 jw hj rfl rfl rfl rfl ?_
            refine J_dup 106 jw hj rfl rfl ?_
            refine J_gfI jw hj rfl (evn rfl) (by decide) rfl (fun r4 => ?_)
            refine J_cst 110 jw hj rfl rfl rfl ?_
            refine J_bin jw hj rfl rfl ?_
            refine J_pfI jw hj rfl (evn rfl) rfl ?_
            refine J_ld 115 jw hj rfl rfl rfl rfl ?_
            refine J_dup 116 jw hj rfl rfl ?_
            refine J_gfI jw hj rfl (evn rfl) (by decide) rfl (fun r5 => ?_)
            refine J_cst 120 jw hj rfl rfl rfl ?_
            refine J_bin jw hj rfl rfl ?_
            refine J_pfI jw hj rfl (evn rfl) rfl ?_
            refine J_cst 125 jw hj rfl rfl rfl ?_
            exact J_ret rfl (Or.inl rfl) (fun aw hR => by show _ ∧ _; unfold f_X12_operand; rw [if_neg h0, if_neg h1, if_neg h2, if_neg h3, if_pos h4]; exact ⟨rfl, hR⟩)
          · refine J_cst 98 jw hj rfl rfl rfl ?_
            refine J_goto 103 jw hj rfl rfl ?_
            refine J_iast jw hj rfl (Or.inl rfl) (fun _ => ?_)
            refine J_ld 105 jw hj rfl rfl rfl rfl ?_
            refine J_dup 106 jw hj rfl rfl ?_
            refine J_gfI jw hj rfl (evn rfl) (by decide) rfl (fun r6 => ?_)
            refine J_cst 110 jw hj rfl rfl rfl ?_
            refine J_bin jw hj rfl rfl ?_
            refine J_pfI jw hj rfl (evn rfl) rfl ?_
            refine J_ld 115 jw hj rfl rfl rfl rfl ?_
            refine J_dup 116 jw hj rfl rfl ?_
            refine J_gfI jw hj rfl (evn rfl) (by decide) rfl (fun r7 => ?_)
            refine J_cst 120 jw hj rfl rfl rfl ?_
            refine J_bin jw hj rfl rfl ?_
            refine J_pfI jw hj rfl (evn rfl) rfl ?_
            refine J_cst 125 jw hj rfl rfl rfl ?_
            exact J_ret rfl (Or.inl rfl) (fun aw hR => by show _ ∧ _; unfold f_X12_operand; rw [if_neg h0, if_neg h1, if_neg h2, if_neg h3, if_neg h4]; exact ⟨rfl, hR⟩)
        · refine J_ld 81 jw hj rfl rfl rfl rfl ?_
          refine J_ifc (t := 126) jw hj rfl (evn rfl) rfl (fun (h5 : f_X12_isSign 40 H = 0) => ?_) (fun (h5 : ¬ f_X12_isSign 40 H = 0) => ?_)
          · refine J_ld 127 jw hj rfl rfl rfl rfl ?_
            refine J_cst 128 jw hj rfl rfl rfl ?_
            refine J_pfI jw hj rfl (evn rfl) rfl ?_
            refine J_ld 132 jw hj rfl rfl rfl rfl ?_
            refine J_cst 133 jw hj rfl rfl rfl ?_
            refine J_icmp (t := 145) jw hj rfl (evn rfl) rfl (fun (h6 : ¬ f_X12_leafOf H < 3) => ?_) (fun (h6 : f_X12_leafOf H < 3) => ?_)
            · refine J_ld 146 jw hj rfl rfl rfl rfl ?_
              refine J_cst 148 jw hj rfl rfl rfl ?_
              refine J_icmp (t := 226) jw hj rfl (evn rfl) rfl (fun (h7 : ¬ f_X12_leafOf H < 6) => ?_) (fun (h7 : f_X12_leafOf H < 6) => ?_)
              · refine J_ld 227 jw hj rfl rfl rfl rfl ?_
                refine J_gfI jw hj rfl (evn rfl) (by decide) rfl (fun r8 => ?_)
                refine J_cst 231 jw hj rfl rfl rfl ?_
                refine J_icmp (t := 252) jw hj rfl (evn rfl) rfl (fun (h8 : ¬ ((f_X12_next (upI H 29 47 (iAdd (H.1 29 47) 1))).1 29 11) = 3) => ?_) (fun (h8 : ((f_X12_next (upI H 29 47 (iAdd (H.1 29 47) 1))).1 29 11) = 3) => ?_)
                · refine J_ld 253 jw hj rfl rfl rfl rfl ?_
                  refine J_cst 254 jw hj rfl rfl rfl ?_
                  refine J_callV1 jw rfl (Or.inl ⟨_, rfl⟩) rfl rfl (sp_X12_bad (g := g) 1 (upI (f_X12_next (upI H 29 47 (iAdd (H.1 29 47) 1))) 29 50 1)) ?_
                  exact J_ret rfl (Or.inl rfl) (fun aw hR => by show _ ∧ _; unfold f_X12_operand; rw [if_neg h0, if_neg h1, if_neg h2, if_pos h3, if_pos h5, if_neg h6, if_neg h7, if_neg h8]; exact ⟨rfl, hR⟩)
                · refine J_ld 235 jw hj rfl rfl rfl rfl ?_
                  refine J_gfI jw hj rfl (evn rfl) (by decide) rfl (fun r9 => ?_)
                  refine J_cst 240 jw hj rfl rfl rfl ?_
                  refine J_icmp (t := 252) jw hj rfl (evn rfl) rfl (fun (h9 : ((f_X12_next (upI H 29 47 (iAdd (H.1 29 47) 1))).1 29 14) < 60) => ?_) (fun (h9 : ¬ ((f_X12_next (upI H 29 47 (iAdd (H.1 29 47) 1))).1 29 14) < 60) => ?_)
                  · refine J_ld 253 jw hj rfl rfl rfl rfl ?_
                    refine J_cst 254 jw hj rfl rfl rfl ?_
                    refine J_callV1 jw rfl (Or.inl ⟨_, rfl⟩) rfl rfl (sp_X12_bad (g := g) 1 (upI (f_X12_next (upI H 29 47 (iAdd (H.1 29 47) 1))) 29 50 1)) ?_
                    exact J_ret rfl (Or.inl rfl) (fun aw hR => by show _ ∧ _; unfold f_X12_operand; rw [if_neg h0, if_neg h1, if_neg h2, if_pos h3, if_pos h5, if_neg h6, if_neg h7, if_pos h8, if_pos h9]; exact ⟨rfl, hR⟩)
                  · refine J_ld 244 jw hj rfl rfl rfl rfl ?_
                    refine J_gfI jw hj rfl (evn rfl) (by decide) rfl (fun r10 => ?_)
                    refine J_cst 249 jw hj rfl rfl rfl ?_
                    refine J_icmp (t := 258) jw hj rfl (evn rfl) rfl (fun (h10 : ¬ 62 < ((f_X12_next (upI H 29 47 (iAdd (H.1 29 47) 1))).1 29 14)) => ?_) (fun (h10 : 62 < ((f_X12_next (upI H 29 47 (iAdd (H.1 29 47) 1))).1 29 14)) => ?_)
                    · refine J_ld 259 jw hj rfl rfl rfl rfl ?_
                      refine J_gfI jw hj rfl (evn rfl) (by decide) rfl (fun r11 => ?_)
                      refine J_st 264 [rf (g 29), pt (f_X12_isWord 7237492 H), pt (f_X12_isSign 40 H), pt (f_X12_leafOf H), pt ((f_X12_next (upI H 29 47 (iAdd (H.1 29 47) 1))).1 29 14)] (k := 4) jw hj rfl (Or.inl ⟨rfl, rfl⟩) rfl ?_
                      refine J_ld 265 jw hj rfl rfl rfl rfl ?_
                      refine J_callV0 jw rfl (Or.inl ⟨_, rfl⟩) rfl rfl (sp_X12_next (g := g) (upI (f_X12_next (upI H 29 47 (iAdd (H.1 29 47) 1))) 29 50 1) (rp_X12_next (upI H 29 47 (iAdd (H.1 29 47) 1)) hr).1) ?_
                      refine J_ld 269 jw hj rfl rfl rfl rfl ?_
                      refine J_gfI jw hj rfl (evn rfl) (by decide) rfl (fun r12 => ?_)
                      refine J_cst 273 jw hj rfl rfl rfl ?_
                      refine J_icmp (t := 282) jw hj rfl (evn rfl) rfl (fun (h11 : ((f_X12_next (upI (f_X12_next (upI H 29 47 (iAdd (H.1 29 47) 1))) 29 50 1)).1 29 11) = 2) => ?_) (fun (h11 : ¬ ((f_X12_next (upI (f_X12_next (upI H 29 47 (iAdd (H.1 29 47) 1))) 29 50 1)).1 29 11) = 2) => ?_)
                      · refine J_ld 283 jw hj rfl rfl rfl rfl ?_
                        refine J_ld 284 jw hj rfl rfl rfl rfl ?_
                        refine J_ld 286 jw hj rfl rfl rfl rfl ?_
                        refine J_ld 287 jw hj rfl rfl rfl rfl ?_
                        refine J_gfI jw hj rfl (evn rfl) (by decide) rfl (fun r13 => ?_)
                        refine J_callV0 jw rfl (Or.inl ⟨_, rfl⟩) rfl rfl (sp_X12_code (g := g) (f_X12_leafOf H) ((f_X12_next (upI H 29 47 (iAdd (H.1 29 47) 1))).1 29 14) ((f_X12_next (upI (f_X12_next (upI H 29 47 (iAdd (H.1 29 47) 1))) 29 50 1)).1 29 14) (f_X12_next (upI (f_X12_next (upI H 29 47 (iAdd (H.1 29 47) 1))) 29 50 1)) (rp_X12_next (upI (f_X12_next (upI H 29 47 (iAdd (H.1 29 47) 1))) 29 50 1) (rp_X12_next (upI H 29 47 (iAdd (H.1 29 47) 1)) hr))) ?_
                        refine J_ld 294 jw hj rfl rfl rfl rfl ?_
                        refine J_callV0 jw rfl (Or.inl ⟨_, rfl⟩) rfl rfl (sp_X12_next (g := g) (f_X12_code (f_X12_leafOf H) ((f_X12_next (upI H 29 47 (iAdd (H.1 29 47) 1))).1 29 14) ((f_X12_next (upI (f_X12_next (upI H 29 47 (iAdd (H.1 29 47) 1))) 29 50 1)).1 29 14) (f_X12_next (upI (f_X12_next (upI H 29 47 (iAdd (H.1 29 47) 1))) 29 50 1))) (rp_X12_code (f_X12_leafOf H) ((f_X12_next (upI H 29 47 (iAdd (H.1 29 47) 1))).1 29 14) ((f_X12_next (upI (f_X12_next (upI H 29 47 (iAdd (H.1 29 47) 1))) 29 50 1)).1 29 14) (f_X12_next (upI (f_X12_next (upI H 29 47 (iAdd (H.1 29 47) 1))) 29 50 1)) (rp_X12_next (upI (f_X12_next (upI H 29 47 (iAdd (H.1 29 47) 1))) 29 50 1) (rp_X12_next (upI H 29 47 (iAdd (H.1 29 47) 1)) hr))).1) ?_
                        refine J_cst 298 jw hj rfl rfl rfl ?_
                        exact J_ret rfl (Or.inl rfl) (fun aw hR => by show _ ∧ _; unfold f_X12_operand; rw [if_neg h0, if_neg h1, if_neg h2, if_pos h3, if_pos h5, if_neg h6, if_neg h7, if_pos h8, if_neg h9, if_neg h10, if_pos h11]; exact ⟨rfl, hR⟩)
                      · refine J_ld 277 jw hj rfl rfl rfl rfl ?_
                        refine J_cst 278 jw hj rfl rfl rfl ?_
                        refine J_callV1 jw rfl (Or.inl ⟨_, rfl⟩) rfl rfl (sp_X12_bad (g := g) 1 (f_X12_next (upI (f_X12_next (upI H 29 47 (iAdd (H.1 29 47) 1))) 29 50 1))) ?_
                        exact J_ret rfl (Or.inl rfl) (fun aw hR => by show _ ∧ _; unfold f_X12_operand; rw [if_neg h0, if_neg h1, if_neg h2, if_pos h3, if_pos h5, if_neg h6, if_neg h7, if_pos h8, if_neg h9, if_neg h10, if_neg h11]; exact ⟨rfl, hR⟩)
                    · refine J_ld 253 jw hj rfl rfl rfl rfl ?_
                      refine J_cst 254 jw hj rfl rfl rfl ?_
                      refine J_callV1 jw rfl (Or.inl ⟨_, rfl⟩) rfl rfl (sp_X12_bad (g := g) 1 (upI (f_X12_next (upI H 29 47 (iAdd (H.1 29 47) 1))) 29 50 1)) ?_
                      exact J_ret rfl (Or.inl rfl) (fun aw hR => by show _ ∧ _; unfold f_X12_operand; rw [if_neg h0, if_neg h1, if_neg h2, if_pos h3, if_pos h5, if_neg h6, if_neg h7, if_pos h8, if_neg h9, if_pos h10]; exact ⟨rfl, hR⟩)
              · refine J_ld 152 jw hj rfl rfl rfl rfl ?_
                refine J_cst 153 jw hj rfl rfl rfl ?_
                refine J_icmp (t := 171) jw hj rfl (evn rfl) rfl (fun (h12 : ¬ f_X12_leafOf H = 3) => ?_) (fun (h12 : f_X12_leafOf H = 3) => ?_)
                · refine J_ld 172 jw hj rfl rfl rfl rfl ?_
                  refine J_cst 173 jw hj rfl rfl rfl ?_
                  refine J_icmp (t := 190) jw hj rfl (evn rfl) rfl (fun (h13 : ¬ f_X12_leafOf H = 4) => ?_) (fun (h13 : f_X12_leafOf H = 4) => ?_)
                  · refine J_ld 191 jw hj rfl rfl rfl rfl ?_
                    refine J_cst 192 jw hj rfl rfl rfl ?_
                    refine J_ld 193 jw hj rfl rfl rfl rfl ?_
                    refine J_gfR (k := 31) jw hj rfl (evn rfl) (by decide) (by decide) (RMa (rp_X12_next (upI H 29 47 (iAdd (H.1 29 47) 1)) hr).1 rfl) ?_
                    refine J_cst 197 jw hj rfl rfl rfl ?_
                    refine J_iald jw hj rfl (Or.inl rfl) (fun z14 r14 => ?_)
                    refine J_callV1 jw rfl (Or.inl ⟨_, rfl⟩) rfl rfl (sp_X12_looksAt (g := g) 4 ((f_X12_next (upI H 29 47 (iAdd (H.1 29 47) 1))).1 31 1) (upI (f_X12_next (upI H 29 47 (iAdd (H.1 29 47) 1))) 29 50 1) (rp_X12_next (upI H 29 47 (iAdd (H.1 29 47) 1)) hr).1) ?_
                    refine J_st 203 [rf (g 29), pt (f_X12_isWord 7237492 H), pt (f_X12_isSign 40 H), pt (f_X12_leafOf H), pt ((f_X12_looksAt 4 ((f_X12_next (upI H 29 47 (iAdd (H.1 29 47) 1))).1 31 1) (upI (f_X12_next (upI H 29 47 (iAdd (H.1 29 47) 1))) 29 50 1)).1)] (k := 4) jw hj rfl (Or.inl ⟨rfl, rfl⟩) rfl ?_
                    refine J_ld 205 jw hj rfl rfl rfl rfl ?_
                    refine J_ifc (t := 210) jw hj rfl (evn rfl) rfl (fun (h14 : ¬ ((f_X12_looksAt 4 ((f_X12_next (upI H 29 47 (iAdd (H.1 29 47) 1))).1 31 1) (upI (f_X12_next (upI H 29 47 (iAdd (H.1 29 47) 1))) 29 50 1)).1) = 0) => ?_) (fun (h14 : ((f_X12_looksAt 4 ((f_X12_next (upI H 29 47 (iAdd (H.1 29 47) 1))).1 31 1) (upI (f_X12_next (upI H 29 47 (iAdd (H.1 29 47) 1))) 29 50 1)).1) = 0) => ?_)
                    · refine J_ld 211 jw hj rfl rfl rfl rfl ?_
                      refine J_ld 212 jw hj rfl rfl rfl rfl ?_
                      refine J_cst 213 jw hj rfl rfl rfl ?_
                      refine J_ld 214 jw hj rfl rfl rfl rfl ?_
                      refine J_gfI jw hj rfl (evn rfl) (by decide) rfl (fun r15 => ?_)
                      refine J_callV0 jw rfl (Or.inl ⟨_, rfl⟩) rfl rfl (sp_X12_code (g := g) (f_X12_leafOf H) 0 ((f_X12_looksAt 4 ((f_X12_next (upI H 29 47 (iAdd (H.1 29 47) 1))).1 31 1) (upI (f_X12_next (upI H 29 47 (iAdd (H.1 29 47) 1))) 29 50 1)).2.1 29 18) (f_X12_looksAt 4 ((f_X12_next (upI H 29 47 (iAdd (H.1 29 47) 1))).1 31 1) (upI (f_X12_next (upI H 29 47 (iAdd (H.1 29 47) 1))) 29 50 1)).2 (rp_X12_looksAt 4 ((f_X12_next (upI H 29 47 (iAdd (H.1 29 47) 1))).1 31 1) (upI (f_X12_next (upI H 29 47 (iAdd (H.1 29 47) 1))) 29 50 1) (rp_X12_next (upI H 29 47 (iAdd (H.1 29 47) 1)) hr))) ?_
                      refine J_ld 221 jw hj rfl rfl rfl rfl ?_
                      refine J_callV0 jw rfl (Or.inl ⟨_, rfl⟩) rfl rfl (sp_X12_next (g := g) (f_X12_code (f_X12_leafOf H) 0 ((f_X12_looksAt 4 ((f_X12_next (upI H 29 47 (iAdd (H.1 29 47) 1))).1 31 1) (upI (f_X12_next (upI H 29 47 (iAdd (H.1 29 47) 1))) 29 50 1)).2.1 29 18) (f_X12_looksAt 4 ((f_X12_next (upI H 29 47 (iAdd (H.1 29 47) 1))).1 31 1) (upI (f_X12_next (upI H 29 47 (iAdd (H.1 29 47) 1))) 29 50 1)).2) (rp_X12_code (f_X12_leafOf H) 0 ((f_X12_looksAt 4 ((f_X12_next (upI H 29 47 (iAdd (H.1 29 47) 1))).1 31 1) (upI (f_X12_next (upI H 29 47 (iAdd (H.1 29 47) 1))) 29 50 1)).2.1 29 18) (f_X12_looksAt 4 ((f_X12_next (upI H 29 47 (iAdd (H.1 29 47) 1))).1 31 1) (upI (f_X12_next (upI H 29 47 (iAdd (H.1 29 47) 1))) 29 50 1)).2 (rp_X12_looksAt 4 ((f_X12_next (upI H 29 47 (iAdd (H.1 29 47) 1))).1 31 1) (upI (f_X12_next (upI H 29 47 (iAdd (H.1 29 47) 1))) 29 50 1) (rp_X12_next (upI H 29 47 (iAdd (H.1 29 47) 1)) hr))).1) ?_
                      refine J_cst 225 jw hj rfl rfl rfl ?_
                      exact J_ret rfl (Or.inl rfl) (fun aw hR => by show _ ∧ _; unfold f_X12_operand; rw [if_neg h0, if_neg h1, if_neg h2, if_pos h3, if_pos h5, if_neg h6, if_pos h7, if_neg h12, if_neg h13, if_neg h14]; exact ⟨rfl, hR⟩)
                    · refine J_cst 209 jw hj rfl rfl rfl ?_
                      exact J_ret rfl (Or.inl rfl) (fun aw hR => by show _ ∧ _; unfold f_X12_operand; rw [if_neg h0, if_neg h1, if_neg h2, if_pos h3, if_pos h5, if_neg h6, if_pos h7, if_neg h12, if_neg h13, if_pos h14]; exact ⟨rfl, hR⟩)
                  · refine J_ld 177 jw hj rfl rfl rfl rfl ?_
                    refine J_cst 178 jw hj rfl rfl rfl ?_
                    refine J_ld 179 jw hj rfl rfl rfl rfl ?_
                    refine J_gfR (k := 31) jw hj rfl (evn rfl) (by decide) (by decide) (RMa (rp_X12_next (upI H 29 47 (iAdd (H.1 29 47) 1)) hr).1 rfl) ?_
                    refine J_cst 183 jw hj rfl rfl rfl ?_
                    refine J_iald jw hj rfl (Or.inl rfl) (fun z16 r16 => ?_)
                    refine J_callV1 jw rfl (Or.inl ⟨_, rfl⟩) rfl rfl (sp_X12_looksAt (g := g) 0 ((f_X12_next (upI H 29 47 (iAdd (H.1 29 47) 1))).1 31 0) (upI (f_X12_next (upI H 29 47 (iAdd (H.1 29 47) 1))) 29 50 1) (rp_X12_next (upI H 29 47 (iAdd (H.1 29 47) 1)) hr).1) ?_
                    refine J_goto 201 jw hj rfl rfl ?_
                    refine J_st 203 [rf (g 29), pt (f_X12_isWord 7237492 H), pt (f_X12_isSign 40 H), pt (f_X12_leafOf H), pt ((f_X12_looksAt 0 ((f_X12_next (upI H 29 47 (iAdd (H.1 29 47) 1))).1 31 0) (upI (f_X12_next (upI H 29 47 (iAdd (H.1 29 47) 1))) 29 50 1)).1)] (k := 4) jw hj rfl (Or.inl ⟨rfl, rfl⟩) rfl ?_
                    refine J_ld 205 jw hj rfl rfl rfl rfl ?_
                    refine J_ifc (t := 210) jw hj rfl (evn rfl) rfl (fun (h15 : ¬ ((f_X12_looksAt 0 ((f_X12_next (upI H 29 47 (iAdd (H.1 29 47) 1))).1 31 0) (upI (f_X12_next (upI H 29 47 (iAdd (H.1 29 47) 1))) 29 50 1)).1) = 0) => ?_) (fun (h15 : ((f_X12_looksAt 0 ((f_X12_next (upI H 29 47 (iAdd (H.1 29 47) 1))).1 31 0) (upI (f_X12_next (upI H 29 47 (iAdd (H.1 29 47) 1))) 29 50 1)).1) = 0) => ?_)
                    · refine J_ld 211 jw hj rfl rfl rfl rfl ?_
                      refine J_ld 212 jw hj rfl rfl rfl rfl ?_
                      refine J_cst 213 jw hj rfl rfl rfl ?_
                      refine J_ld 214 jw hj rfl rfl rfl rfl ?_
                      refine J_gfI jw hj rfl (evn rfl) (by decide) rfl (fun r17 => ?_)
                      refine J_callV0 jw rfl (Or.inl ⟨_, rfl⟩) rfl rfl (sp_X12_code (g := g) (f_X12_leafOf H) 0 ((f_X12_looksAt 0 ((f_X12_next (upI H 29 47 (iAdd (H.1 29 47) 1))).1 31 0) (upI (f_X12_next (upI H 29 47 (iAdd (H.1 29 47) 1))) 29 50 1)).2.1 29 18) (f_X12_looksAt 0 ((f_X12_next (upI H 29 47 (iAdd (H.1 29 47) 1))).1 31 0) (upI (f_X12_next (upI H 29 47 (iAdd (H.1 29 47) 1))) 29 50 1)).2 (rp_X12_looksAt 0 ((f_X12_next (upI H 29 47 (iAdd (H.1 29 47) 1))).1 31 0) (upI (f_X12_next (upI H 29 47 (iAdd (H.1 29 47) 1))) 29 50 1) (rp_X12_next (upI H 29 47 (iAdd (H.1 29 47) 1)) hr))) ?_
                      refine J_ld 221 jw hj rfl rfl rfl rfl ?_
                      refine J_callV0 jw rfl (Or.inl ⟨_, rfl⟩) rfl rfl (sp_X12_next (g := g) (f_X12_code (f_X12_leafOf H) 0 ((f_X12_looksAt 0 ((f_X12_next (upI H 29 47 (iAdd (H.1 29 47) 1))).1 31 0) (upI (f_X12_next (upI H 29 47 (iAdd (H.1 29 47) 1))) 29 50 1)).2.1 29 18) (f_X12_looksAt 0 ((f_X12_next (upI H 29 47 (iAdd (H.1 29 47) 1))).1 31 0) (upI (f_X12_next (upI H 29 47 (iAdd (H.1 29 47) 1))) 29 50 1)).2) (rp_X12_code (f_X12_leafOf H) 0 ((f_X12_looksAt 0 ((f_X12_next (upI H 29 47 (iAdd (H.1 29 47) 1))).1 31 0) (upI (f_X12_next (upI H 29 47 (iAdd (H.1 29 47) 1))) 29 50 1)).2.1 29 18) (f_X12_looksAt 0 ((f_X12_next (upI H 29 47 (iAdd (H.1 29 47) 1))).1 31 0) (upI (f_X12_next (upI H 29 47 (iAdd (H.1 29 47) 1))) 29 50 1)).2 (rp_X12_looksAt 0 ((f_X12_next (upI H 29 47 (iAdd (H.1 29 47) 1))).1 31 0) (upI (f_X12_next (upI H 29 47 (iAdd (H.1 29 47) 1))) 29 50 1) (rp_X12_next (upI H 29 47 (iAdd (H.1 29 47) 1)) hr))).1) ?_
                      refine J_cst 225 jw hj rfl rfl rfl ?_
                      exact J_ret rfl (Or.inl rfl) (fun aw hR => by show _ ∧ _; unfold f_X12_operand; rw [if_neg h0, if_neg h1, if_neg h2, if_pos h3, if_pos h5, if_neg h6, if_pos h7, if_neg h12, if_pos h13, if_neg h15]; exact ⟨rfl, hR⟩)
                    · refine J_cst 209 jw hj rfl rfl rfl ?_
                      exact J_ret rfl (Or.inl rfl) (fun aw hR => by show _ ∧ _; unfold f_X12_operand; rw [if_neg h0, if_neg h1, if_neg h2, if_pos h3, if_pos h5, if_neg h6, if_pos h7, if_neg h12, if_pos h13, if_pos h15]; exact ⟨rfl, hR⟩)
                · refine J_ld 157 jw hj rfl rfl rfl rfl ?_
                  refine J_cst 159 jw hj rfl rfl rfl ?_
                  refine J_ld 160 jw hj rfl rfl rfl rfl ?_
                  refine J_gfR (k := 31) jw hj rfl (evn rfl) (by decide) (by decide) (RMa (rp_X12_next (upI H 29 47 (iAdd (H.1 29 47) 1)) hr).1 rfl) ?_
                  refine J_cst 164 jw hj rfl rfl rfl ?_
                  refine J_iald jw hj rfl (Or.inl rfl) (fun z18 r18 => ?_)
                  refine J_callV1 jw rfl (Or.inl ⟨_, rfl⟩) rfl rfl (sp_X12_looksAt (g := g) 17 ((f_X12_next (upI H 29 47 (iAdd (H.1 29 47) 1))).1 31 3) (upI (f_X12_next (upI H 29 47 (iAdd (H.1 29 47) 1))) 29 50 1) (rp_X12_next (upI H 29 47 (iAdd (H.1 29 47) 1)) hr).1) ?_
                  refine J_goto 201 jw hj rfl rfl ?_
                  refine J_st 203 [rf (g 29), pt (f_X12_isWord 7237492 H), pt (f_X12_isSign 40 H), pt (f_X12_leafOf H), pt ((f_X12_looksAt 17 ((f_X12_next (upI H 29 47 (iAdd (H.1 29 47) 1))).1 31 3) (upI (f_X12_next (upI H 29 47 (iAdd (H.1 29 47) 1))) 29 50 1)).1)] (k := 4) jw hj rfl (Or.inl ⟨rfl, rfl⟩) rfl ?_
                  refine J_ld 205 jw hj rfl rfl rfl rfl ?_
                  refine J_ifc (t := 210) jw hj rfl (evn rfl) rfl (fun (h16 : ¬ ((f_X12_looksAt 17 ((f_X12_next (upI H 29 47 (iAdd (H.1 29 47) 1))).1 31 3) (upI (f_X12_next (upI H 29 47 (iAdd (H.1 29 47) 1))) 29 50 1)).1) = 0) => ?_) (fun (h16 : ((f_X12_looksAt 17 ((f_X12_next (upI H 29 47 (iAdd (H.1 29 47) 1))).1 31 3) (upI (f_X12_next (upI H 29 47 (iAdd (H.1 29 47) 1))) 29 50 1)).1) = 0) => ?_)
                  · refine J_ld 211 jw hj rfl rfl rfl rfl ?_
                    refine J_ld 212 jw hj rfl rfl rfl rfl ?_
                    refine J_cst 213 jw hj rfl rfl rfl ?_
                    refine J_ld 214 jw hj rfl rfl rfl rfl ?_
                    refine J_gfI jw hj rfl (evn rfl) (by decide) rfl (fun r19 => ?_)
                    refine J_callV0 jw rfl (Or.inl ⟨_, rfl⟩) rfl rfl (sp_X12_code (g := g) (f_X12_leafOf H) 0 ((f_X12_looksAt 17 ((f_X12_next (upI H 29 47 (iAdd (H.1 29 47) 1))).1 31 3) (upI (f_X12_next (upI H 29 47 (iAdd (H.1 29 47) 1))) 29 50 1)).2.1 29 18) (f_X12_looksAt 17 ((f_X12_next (upI H 29 47 (iAdd (H.1 29 47) 1))).1 31 3) (upI (f_X12_next (upI H 29 47 (iAdd (H.1 29 47) 1))) 29 50 1)).2 (rp_X12_looksAt 17 ((f_X12_next (upI H 29 47 (iAdd (H.1 29 47) 1))).1 31 3) (upI (f_X12_next (upI H 29 47 (iAdd (H.1 29 47) 1))) 29 50 1) (rp_X12_next (upI H 29 47 (iAdd (H.1 29 47) 1)) hr))) ?_
                    refine J_ld 221 jw hj rfl rfl rfl rfl ?_
                    refine J_callV0 jw rfl (Or.inl ⟨_, rfl⟩) rfl rfl (sp_X12_next (g := g) (f_X12_code (f_X12_leafOf H) 0 ((f_X12_looksAt 17 ((f_X12_next (upI H 29 47 (iAdd (H.1 29 47) 1))).1 31 3) (upI (f_X12_next (upI H 29 47 (iAdd (H.1 29 47) 1))) 29 50 1)).2.1 29 18) (f_X12_looksAt 17 ((f_X12_next (upI H 29 47 (iAdd (H.1 29 47) 1))).1 31 3) (upI (f_X12_next (upI H 29 47 (iAdd (H.1 29 47) 1))) 29 50 1)).2) (rp_X12_code (f_X12_leafOf H) 0 ((f_X12_looksAt 17 ((f_X12_next (upI H 29 47 (iAdd (H.1 29 47) 1))).1 31 3) (upI (f_X12_next (upI H 29 47 (iAdd (H.1 29 47) 1))) 29 50 1)).2.1 29 18) (f_X12_looksAt 17 ((f_X12_next (upI H 29 47 (iAdd (H.1 29 47) 1))).1 31 3) (upI (f_X12_next (upI H 29 47 (iAdd (H.1 29 47) 1))) 29 50 1)).2 (rp_X12_looksAt 17 ((f_X12_next (upI H 29 47 (iAdd (H.1 29 47) 1))).1 31 3) (upI (f_X12_next (upI H 29 47 (iAdd (H.1 29 47) 1))) 29 50 1) (rp_X12_next (upI H 29 47 (iAdd (H.1 29 47) 1)) hr))).1) ?_
                    refine J_cst 225 jw hj rfl rfl rfl ?_
                    exact J_ret rfl (Or.inl rfl) (fun aw hR => by show _ ∧ _; unfold f_X12_operand; rw [if_neg h0, if_neg h1, if_neg h2, if_pos h3, if_pos h5, if_neg h6, if_pos h7, if_pos h12, if_neg h16]; exact ⟨rfl, hR⟩)
                  · refine J_cst 209 jw hj rfl rfl rfl ?_
                    exact J_ret rfl (Or.inl rfl) (fun aw hR => by show _ ∧ _; unfold f_X12_operand; rw [if_neg h0, if_neg h1, if_neg h2, if_pos h3, if_pos h5, if_neg h6, if_pos h7, if_pos h12, if_pos h16]; exact ⟨rfl, hR⟩)
            · refine J_ld 137 jw hj rfl rfl rfl rfl ?_
              refine J_ld 138 jw hj rfl rfl rfl rfl ?_
              refine J_cst 139 jw hj rfl rfl rfl ?_
              refine J_cst 140 jw hj rfl rfl rfl ?_
              refine J_callV0 jw rfl (Or.inl ⟨_, rfl⟩) rfl rfl (sp_X12_code (g := g) (f_X12_leafOf H) 0 0 (upI (f_X12_next (upI H 29 47 (iAdd (H.1 29 47) 1))) 29 50 1) (rp_X12_next (upI H 29 47 (iAdd (H.1 29 47) 1)) hr)) ?_
              refine J_cst 144 jw hj rfl rfl rfl ?_
              exact J_ret rfl (Or.inl rfl) (fun aw hR => by show _ ∧ _; unfold f_X12_operand; rw [if_neg h0, if_neg h1, if_neg h2, if_pos h3, if_pos h5, if_pos h6]; exact ⟨rfl, hR⟩)
          · refine J_ld 85 jw hj rfl rfl rfl rfl ?_
            refine J_gfR (k := 46) jw hj rfl (evn rfl) (by decide) (by decide) (rp_X12_next (upI H 29 47 (iAdd (H.1 29 47) 1)) hr).2 ?_
            refine J_ld 89 jw hj rfl rfl rfl rfl ?_
            refine J_gfI jw hj rfl (evn rfl) (by decide) rfl (fun r20 => ?_)
            refine J_ld 93 jw hj rfl rfl rfl rfl ?_
            refine J_ifc (t := 101) jw hj rfl (evn rfl) rfl (fun (h17 : f_X12_isWord 7237492 H = 0) => ?_) (fun (h17 : ¬ f_X12_isWord 7237492 H = 0) => ?_)
            · refine J_cst 103 jw hj rfl rfl rfl ?_
              refine J_iast jw hj rfl (Or.inl rfl) (fun _ => ?_)
              refine J_ld 105 jw hj rfl rfl rfl rfl ?_
              refine J_dup 106 jw hj rfl rfl ?_
              refine J_gfI jw hj rfl (evn rfl) (by decide) rfl (fun r21 => ?_)
              refine J_cst 110 jw hj rfl rfl rfl ?_
              refine J_bin jw hj rfl rfl ?_
              refine J_pfI jw hj rfl (evn rfl) rfl ?_
              refine J_ld 115 jw hj rfl rfl rfl rfl ?_
              refine J_dup 116 jw hj rfl rfl ?_
              refine J_gfI jw hj rfl (evn rfl) (by decide) rfl (fun r22 => ?_)
              refine J_cst 120 jw hj rfl rfl rfl ?_
              refine J_bin jw hj rfl rfl ?_
              refine J_pfI jw hj rfl (evn rfl) rfl ?_
              refine J_cst 125 jw hj rfl rfl rfl ?_
              exact J_ret rfl (Or.inl rfl) (fun aw hR => by show _ ∧ _; unfold f_X12_operand; rw [if_neg h0, if_neg h1, if_neg h2, if_pos h3, if_neg h5, if_pos h17]; exact ⟨rfl, hR⟩)
            · refine J_cst 98 jw hj rfl rfl rfl ?_
              refine J_goto 103 jw hj rfl rfl ?_
              refine J_iast jw hj rfl (Or.inl rfl) (fun _ => ?_)
              refine J_ld 105 jw hj rfl rfl rfl rfl ?_
              refine J_dup 106 jw hj rfl rfl ?_
              refine J_gfI jw hj rfl (evn rfl) (by decide) rfl (fun r23 => ?_)
              refine J_cst 110 jw hj rfl rfl rfl ?_
              refine J_bin jw hj rfl rfl ?_
              refine J_pfI jw hj rfl (evn rfl) rfl ?_
              refine J_ld 115 jw hj rfl rfl rfl rfl ?_
              refine J_dup 116 jw hj rfl rfl ?_
              refine J_gfI jw hj rfl (evn rfl) (by decide) rfl (fun r24 => ?_)
              refine J_cst 120 jw hj rfl rfl rfl ?_
              refine J_bin jw hj rfl rfl ?_
              refine J_pfI jw hj rfl (evn rfl) rfl ?_
              refine J_cst 125 jw hj rfl rfl rfl ?_
              exact J_ret rfl (Or.inl rfl) (fun aw hR => by show _ ∧ _; unfold f_X12_operand; rw [if_neg h0, if_neg h1, if_neg h2, if_pos h3, if_neg h5, if_neg h17]; exact ⟨rfl, hR⟩)
      · refine J_ld 57 jw hj rfl rfl rfl rfl ?_
        refine J_cst 58 jw hj rfl rfl rfl ?_
        refine J_callV1 jw rfl (Or.inl ⟨_, rfl⟩) rfl rfl (sp_X12_bad (g := g) 4 H) ?_
        exact J_ret rfl (Or.inl rfl) (fun aw hR => by show _ ∧ _; unfold f_X12_operand; rw [if_neg h0, if_neg h1, if_pos h2]; exact ⟨rfl, hR⟩)
  · refine J_ld 25 jw hj rfl rfl rfl rfl ?_
    refine J_ifc (t := 38) jw hj rfl (evn rfl) rfl (fun (h18 : ¬ f_X12_isSign 40 H = 0) => ?_) (fun (h18 : f_X12_isSign 40 H = 0) => ?_)
    · refine J_ld 39 jw hj rfl rfl rfl rfl ?_
      refine J_gfI jw hj rfl (evn rfl) (by decide) rfl (fun r25 => ?_)
      refine J_cst 44 jw hj rfl rfl rfl ?_
      refine J_icmp (t := 56) jw hj rfl (evn rfl) rfl (fun (h19 : H.1 29 47 = 20) => ?_) (fun (h19 : ¬ H.1 29 47 = 20) => ?_)
      · refine J_ld 57 jw hj rfl rfl rfl rfl ?_
        refine J_cst 58 jw hj rfl rfl rfl ?_
        refine J_callV1 jw rfl (Or.inl ⟨_, rfl⟩) rfl rfl (sp_X12_bad (g := g) 4 H) ?_
        exact J_ret rfl (Or.inl rfl) (fun aw hR => by show _ ∧ _; unfold f_X12_operand; rw [if_pos h0, if_neg h18, if_pos h19]; exact ⟨rfl, hR⟩)
      · refine J_ld 48 jw hj rfl rfl rfl rfl ?_
        refine J_gfI jw hj rfl (evn rfl) (by decide) rfl (fun r26 => ?_)
        refine J_cst 53 jw hj rfl rfl rfl ?_
        refine J_icmp (t := 62) jw hj rfl (evn rfl) rfl (fun (h20 : ¬ 8 < H.1 29 49) => ?_) (fun (h20 : 8 < H.1 29 49) => ?_)
        · refine J_ld 63 jw hj rfl rfl rfl rfl ?_
          refine J_dup 64 jw hj rfl rfl ?_
          refine J_gfI jw hj rfl (evn rfl) (by decide) rfl (fun r27 => ?_)
          refine J_cst 68 jw hj rfl rfl rfl ?_
          refine J_bin jw hj rfl rfl ?_
          refine J_pfI jw hj rfl (evn rfl) rfl ?_
          refine J_ld 73 jw hj rfl rfl rfl rfl ?_
          refine J_callV0 jw rfl (Or.inl ⟨_, rfl⟩) rfl rfl (sp_X12_next (g := g) (upI H 29 47 (iAdd (H.1 29 47) 1)) hr.1) ?_
          refine J_ld 77 jw hj rfl rfl rfl rfl ?_
          refine J_ifc (t := 84) jw hj rfl (evn rfl) rfl (fun (h21 : ¬ f_X12_isWord 7237492 H = 0) => ?_) (fun (h21 : f_X12_isWord 7237492 H = 0) => ?_)
          · refine J_ld 85 jw hj rfl rfl rfl rfl ?_
            refine J_gfR (k := 46) jw hj rfl (evn rfl) (by decide) (by decide) (rp_X12_next (upI H 29 47 (iAdd (H.1 29 47) 1)) hr).2 ?_
            refine J_ld 89 jw hj rfl rfl rfl rfl ?_
            refine J_gfI jw hj rfl (evn rfl) (by decide) rfl (fun r28 => ?_)
            refine J_ld 93 jw hj rfl rfl rfl rfl ?_
            refine J_ifc (t := 101) jw hj rfl (evn rfl) rfl (fun (h22 : f_X12_isWord 7237492 H = 0) => ?_) (fun (h22 : ¬ f_X12_isWord 7237492 H = 0) => ?_)
            · refine J_cst 103 jw hj rfl rfl rfl ?_
              refine J_iast jw hj rfl (Or.inl rfl) (fun _ => ?_)
              refine J_ld 105 jw hj rfl rfl rfl rfl ?_
              refine J_dup 106 jw hj rfl rfl ?_
              refine J_gfI jw hj rfl (evn rfl) (by decide) rfl (fun r29 => ?_)
              refine J_cst 110 jw hj rfl rfl rfl ?_
              refine J_bin jw hj rfl rfl ?_
              refine J_pfI jw hj rfl (evn rfl) rfl ?_
              refine J_ld 115 jw hj rfl rfl rfl rfl ?_
              refine J_dup 116 jw hj rfl rfl ?_
              refine J_gfI jw hj rfl (evn rfl) (by decide) rfl (fun r30 => ?_)
              refine J_cst 120 jw hj rfl rfl rfl ?_
              refine J_bin jw hj rfl rfl ?_
              refine J_pfI jw hj rfl (evn rfl) rfl ?_
              refine J_cst 125 jw hj rfl rfl rfl ?_
              exact J_ret rfl (Or.inl rfl) (fun aw hR => by show _ ∧ _; unfold f_X12_operand; rw [if_pos h0, if_neg h18, if_neg h19, if_neg h20, if_neg h21, if_pos h22]; exact ⟨rfl, hR⟩)
            · refine J_cst 98 jw hj rfl rfl rfl ?_
              refine J_goto 103 jw hj rfl rfl ?_
              refine J_iast jw hj rfl (Or.inl rfl) (fun _ => ?_)
              refine J_ld 105 jw hj rfl rfl rfl rfl ?_
              refine J_dup 106 jw hj rfl rfl ?_
              refine J_gfI jw hj rfl (evn rfl) (by decide) rfl (fun r31 => ?_)
              refine J_cst 110 jw hj rfl rfl rfl ?_
              refine J_bin jw hj rfl rfl ?_
              refine J_pfI jw hj rfl (evn rfl) rfl ?_
              refine J_ld 115 jw hj rfl rfl rfl rfl ?_
              refine J_dup 116 jw hj rfl rfl ?_
              refine J_gfI jw hj rfl (evn rfl) (by decide) rfl (fun r32 => ?_)
              refine J_cst 120 jw hj rfl rfl rfl ?_
              refine J_bin jw hj rfl rfl ?_
              refine J_pfI jw hj rfl (evn rfl) rfl ?_
              refine J_cst 125 jw hj rfl rfl rfl ?_
              exact J_ret rfl (Or.inl rfl) (fun aw hR => by show _ ∧ _; unfold f_X12_operand; rw [if_pos h0, if_neg h18, if_neg h19, if_neg h20, if_neg h21, if_neg h22]; exact ⟨rfl, hR⟩)
          · refine J_ld 81 jw hj rfl rfl rfl rfl ?_
            refine J_ifc (t := 126) jw hj rfl (evn rfl) rfl (fun (h23 : f_X12_isSign 40 H = 0) => ?_) (fun (h23 : ¬ f_X12_isSign 40 H = 0) => ?_)
            · refine J_ld 127 jw hj rfl rfl rfl rfl ?_
              refine J_cst 128 jw hj rfl rfl rfl ?_
              refine J_pfI jw hj rfl (evn rfl) rfl ?_
              refine J_ld 132 jw hj rfl rfl rfl rfl ?_
              refine J_cst 133 jw hj rfl rfl rfl ?_
              refine J_icmp (t := 145) jw hj rfl (evn rfl) rfl (fun (h24 : ¬ f_X12_leafOf H < 3) => ?_) (fun (h24 : f_X12_leafOf H < 3) => ?_)
              · refine J_ld 146 jw hj rfl rfl rfl rfl ?_
                refine J_cst 148 jw hj rfl rfl rfl ?_
                refine J_icmp (t := 226) jw hj rfl (evn rfl) rfl (fun (h25 : ¬ f_X12_leafOf H < 6) => ?_) (fun (h25 : f_X12_leafOf H < 6) => ?_)
                · refine J_ld 227 jw hj rfl rfl rfl rfl ?_
                  refine J_gfI jw hj rfl (evn rfl) (by decide) rfl (fun r33 => ?_)
                  refine J_cst 231 jw hj rfl rfl rfl ?_
                  refine J_icmp (t := 252) jw hj rfl (evn rfl) rfl (fun (h26 : ¬ ((f_X12_next (upI H 29 47 (iAdd (H.1 29 47) 1))).1 29 11) = 3) => ?_) (fun (h26 : ((f_X12_next (upI H 29 47 (iAdd (H.1 29 47) 1))).1 29 11) = 3) => ?_)
                  · refine J_ld 253 jw hj rfl rfl rfl rfl ?_
                    refine J_cst 254 jw hj rfl rfl rfl ?_
                    refine J_callV1 jw rfl (Or.inl ⟨_, rfl⟩) rfl rfl (sp_X12_bad (g := g) 1 (upI (f_X12_next (upI H 29 47 (iAdd (H.1 29 47) 1))) 29 50 1)) ?_
                    exact J_ret rfl (Or.inl rfl) (fun aw hR => by show _ ∧ _; unfold f_X12_operand; rw [if_pos h0, if_neg h18, if_neg h19, if_neg h20, if_pos h21, if_pos h23, if_neg h24, if_neg h25, if_neg h26]; exact ⟨rfl, hR⟩)
                  · refine J_ld 235 jw hj rfl rfl rfl rfl ?_
                    refine J_gfI jw hj rfl (evn rfl) (by decide) rfl (fun r34 => ?_)
                    refine J_cst 240 jw hj rfl rfl rfl ?_
                    refine J_icmp (t := 252) jw hj rfl (evn rfl) rfl (fun (h27 : ((f_X12_next (upI H 29 47 (iAdd (H.1 29 47) 1))).1 29 14) < 60) => ?_) (fun (h27 : ¬ ((f_X12_next (upI H 29 47 (iAdd (H.1 29 47) 1))).1 29 14) < 60) => ?_)
                    · refine J_ld 253 jw hj rfl rfl rfl rfl ?_
                      refine J_cst 254 jw hj rfl rfl rfl ?_
                      refine J_callV1 jw rfl (Or.inl ⟨_, rfl⟩) rfl rfl (sp_X12_bad (g := g) 1 (upI (f_X12_next (upI H 29 47 (iAdd (H.1 29 47) 1))) 29 50 1)) ?_
                      exact J_ret rfl (Or.inl rfl) (fun aw hR => by show _ ∧ _; unfold f_X12_operand; rw [if_pos h0, if_neg h18, if_neg h19, if_neg h20, if_pos h21, if_pos h23, if_neg h24, if_neg h25, if_pos h26, if_pos h27]; exact ⟨rfl, hR⟩)
                    · refine J_ld 244 jw hj rfl rfl rfl rfl ?_
                      refine J_gfI jw hj rfl (evn rfl) (by decide) rfl (fun r35 => ?_)
                      refine J_cst 249 jw hj rfl rfl rfl ?_
                      refine J_icmp (t := 258) jw hj rfl (evn rfl) rfl (fun (h28 : ¬ 62 < ((f_X12_next (upI H 29 47 (iAdd (H.1 29 47) 1))).1 29 14)) => ?_) (fun (h28 : 62 < ((f_X12_next (upI H 29 47 (iAdd (H.1 29 47) 1))).1 29 14)) => ?_)
                      · refine J_ld 259 jw hj rfl rfl rfl rfl ?_
                        refine J_gfI jw hj rfl (evn rfl) (by decide) rfl (fun r36 => ?_)
                        refine J_st 264 [rf (g 29), pt (f_X12_isWord 7237492 H), pt (f_X12_isSign 40 H), pt (f_X12_leafOf H), pt ((f_X12_next (upI H 29 47 (iAdd (H.1 29 47) 1))).1 29 14)] (k := 4) jw hj rfl (Or.inl ⟨rfl, rfl⟩) rfl ?_
                        refine J_ld 265 jw hj rfl rfl rfl rfl ?_
                        refine J_callV0 jw rfl (Or.inl ⟨_, rfl⟩) rfl rfl (sp_X12_next (g := g) (upI (f_X12_next (upI H 29 47 (iAdd (H.1 29 47) 1))) 29 50 1) (rp_X12_next (upI H 29 47 (iAdd (H.1 29 47) 1)) hr).1) ?_
                        refine J_ld 269 jw hj rfl rfl rfl rfl ?_
                        refine J_gfI jw hj rfl (evn rfl) (by decide) rfl (fun r37 => ?_)
                        refine J_cst 273 jw hj rfl rfl rfl ?_
                        refine J_icmp (t := 282) jw hj rfl (evn rfl) rfl (fun (h29 : ((f_X12_next (upI (f_X12_next (upI H 29 47 (iAdd (H.1 29 47) 1))) 29 50 1)).1 29 11) = 2) => ?_) (fun (h29 : ¬ ((f_X12_next (upI (f_X12_next (upI H 29 47 (iAdd (H.1 29 47) 1))) 29 50 1)).1 29 11) = 2) => ?_)
                        · refine J_ld 283 jw hj rfl rfl rfl rfl ?_
                          refine J_ld 284 jw hj rfl rfl rfl rfl ?_
                          refine J_ld 286 jw hj rfl rfl rfl rfl ?_
                          refine J_ld 287 jw hj rfl rfl rfl rfl ?_
                          refine J_gfI jw hj rfl (evn rfl) (by decide) rfl (fun r38 => ?_)
                          refine J_callV0 jw rfl (Or.inl ⟨_, rfl⟩) rfl rfl (sp_X12_code (g := g) (f_X12_leafOf H) ((f_X12_next (upI H 29 47 (iAdd (H.1 29 47) 1))).1 29 14) ((f_X12_next (upI (f_X12_next (upI H 29 47 (iAdd (H.1 29 47) 1))) 29 50 1)).1 29 14) (f_X12_next (upI (f_X12_next (upI H 29 47 (iAdd (H.1 29 47) 1))) 29 50 1)) (rp_X12_next (upI (f_X12_next (upI H 29 47 (iAdd (H.1 29 47) 1))) 29 50 1) (rp_X12_next (upI H 29 47 (iAdd (H.1 29 47) 1)) hr))) ?_
                          refine J_ld 294 jw hj rfl rfl rfl rfl ?_
                          refine J_callV0 jw rfl (Or.inl ⟨_, rfl⟩) rfl rfl (sp_X12_next (g := g) (f_X12_code (f_X12_leafOf H) ((f_X12_next (upI H 29 47 (iAdd (H.1 29 47) 1))).1 29 14) ((f_X12_next (upI (f_X12_next (upI H 29 47 (iAdd (H.1 29 47) 1))) 29 50 1)).1 29 14) (f_X12_next (upI (f_X12_next (upI H 29 47 (iAdd (H.1 29 47) 1))) 29 50 1))) (rp_X12_code (f_X12_leafOf H) ((f_X12_next (upI H 29 47 (iAdd (H.1 29 47) 1))).1 29 14) ((f_X12_next (upI (f_X12_next (upI H 29 47 (iAdd (H.1 29 47) 1))) 29 50 1)).1 29 14) (f_X12_next (upI (f_X12_next (upI H 29 47 (iAdd (H.1 29 47) 1))) 29 50 1)) (rp_X12_next (upI (f_X12_next (upI H 29 47 (iAdd (H.1 29 47) 1))) 29 50 1) (rp_X12_next (upI H 29 47 (iAdd (H.1 29 47) 1)) hr))).1) ?_
                          refine J_cst 298 jw hj rfl rfl rfl ?_
                          exact J_ret rfl (Or.inl rfl) (fun aw hR => by show _ ∧ _; unfold f_X12_operand; rw [if_pos h0, if_neg h18, if_neg h19, if_neg h20, if_pos h21, if_pos h23, if_neg h24, if_neg h25, if_pos h26, if_neg h27, if_neg h28, if_pos h29]; exact ⟨rfl, hR⟩)
                        · refine J_ld 277 jw hj rfl rfl rfl rfl ?_
                          refine J_cst 278 jw hj rfl rfl rfl ?_
                          refine J_callV1 jw rfl (Or.inl ⟨_, rfl⟩) rfl rfl (sp_X12_bad (g := g) 1 (f_X12_next (upI (f_X12_next (upI H 29 47 (iAdd (H.1 29 47) 1))) 29 50 1))) ?_
                          exact J_ret rfl (Or.inl rfl) (fun aw hR => by show _ ∧ _; unfold f_X12_operand; rw [if_pos h0, if_neg h18, if_neg h19, if_neg h20, if_pos h21, if_pos h23, if_neg h24, if_neg h25, if_pos h26, if_neg h27, if_neg h28, if_neg h29]; exact ⟨rfl, hR⟩)
                      · refine J_ld 253 jw hj rfl rfl rfl rfl ?_
                        refine J_cst 254 jw hj rfl rfl rfl ?_
                        refine J_callV1 jw rfl (Or.inl ⟨_, rfl⟩) rfl rfl (sp_X12_bad (g := g) 1 (upI (f_X12_next (upI H 29 47 (iAdd (H.1 29 47) 1))) 29 50 1)) ?_
                        exact J_ret rfl (Or.inl rfl) (fun aw hR => by show _ ∧ _; unfold f_X12_operand; rw [if_pos h0, if_neg h18, if_neg h19, if_neg h20, if_pos h21, if_pos h23, if_neg h24, if_neg h25, if_pos h26, if_neg h27, if_pos h28]; exact ⟨rfl, hR⟩)
                · refine J_ld 152 jw hj rfl rfl rfl rfl ?_
                  refine J_cst 153 jw hj rfl rfl rfl ?_
                  refine J_icmp (t := 171) jw hj rfl (evn rfl) rfl (fun (h30 : ¬ f_X12_leafOf H = 3) => ?_) (fun (h30 : f_X12_leafOf H = 3) => ?_)
                  · refine J_ld 172 jw hj rfl rfl rfl rfl ?_
                    refine J_cst 173 jw hj rfl rfl rfl ?_
                    refine J_icmp (t := 190) jw hj rfl (evn rfl) rfl (fun (h31 : ¬ f_X12_leafOf H = 4) => ?_) (fun (h31 : f_X12_leafOf H = 4) => ?_)
                    · refine J_ld 191 jw hj rfl rfl rfl rfl ?_
                      refine J_cst 192 jw hj rfl rfl rfl ?_
                      refine J_ld 193 jw hj rfl rfl rfl rfl ?_
                      refine J_gfR (k := 31) jw hj rfl (evn rfl) (by decide) (by decide) (RMa (rp_X12_next (upI H 29 47 (iAdd (H.1 29 47) 1)) hr).1 rfl) ?_
                      refine J_cst 197 jw hj rfl rfl rfl ?_
                      refine J_iald jw hj rfl (Or.inl rfl) (fun z39 r39 => ?_)
                      refine J_callV1 jw rfl (Or.inl ⟨_, rfl⟩) rfl rfl (sp_X12_looksAt (g := g) 4 ((f_X12_next (upI H 29 47 (iAdd (H.1 29 47) 1))).1 31 1) (upI (f_X12_next (upI H 29 47 (iAdd (H.1 29 47) 1))) 29 50 1) (rp_X12_next (upI H 29 47 (iAdd (H.1 29 47) 1)) hr).1) ?_
                      refine J_st 203 [rf (g 29), pt (f_X12_isWord 7237492 H), pt (f_X12_isSign 40 H), pt (f_X12_leafOf H), pt ((f_X12_looksAt 4 ((f_X12_next (upI H 29 47 (iAdd (H.1 29 47) 1))).1 31 1) (upI (f_X12_next (upI H 29 47 (iAdd (H.1 29 47) 1))) 29 50 1)).1)] (k := 4) jw hj rfl (Or.inl ⟨rfl, rfl⟩) rfl ?_
                      refine J_ld 205 jw hj rfl rfl rfl rfl ?_
                      refine J_ifc (t := 210) jw hj rfl (evn rfl) rfl (fun (h32 : ¬ ((f_X12_looksAt 4 ((f_X12_next (upI H 29 47 (iAdd (H.1 29 47) 1))).1 31 1) (upI (f_X12_next (upI H 29 47 (iAdd (H.1 29 47) 1))) 29 50 1)).1) = 0) => ?_) (fun (h32 : ((f_X12_looksAt 4 ((f_X12_next (upI H 29 47 (iAdd (H.1 29 47) 1))).1 31 1) (upI (f_X12_next (upI H 29 47 (iAdd (H.1 29 47) 1))) 29 50 1)).1) = 0) => ?_)
                      · refine J_ld 211 jw hj rfl rfl rfl rfl ?_
                        refine J_ld 212 jw hj rfl rfl rfl rfl ?_
                        refine J_cst 213 jw hj rfl rfl rfl ?_
                        refine J_ld 214 jw hj rfl rfl rfl rfl ?_
                        refine J_gfI jw hj rfl (evn rfl) (by decide) rfl (fun r40 => ?_)
                        refine J_callV0 jw rfl (Or.inl ⟨_, rfl⟩) rfl rfl (sp_X12_code (g := g) (f_X12_leafOf H) 0 ((f_X12_looksAt 4 ((f_X12_next (upI H 29 47 (iAdd (H.1 29 47) 1))).1 31 1) (upI (f_X12_next (upI H 29 47 (iAdd (H.1 29 47) 1))) 29 50 1)).2.1 29 18) (f_X12_looksAt 4 ((f_X12_next (upI H 29 47 (iAdd (H.1 29 47) 1))).1 31 1) (upI (f_X12_next (upI H 29 47 (iAdd (H.1 29 47) 1))) 29 50 1)).2 (rp_X12_looksAt 4 ((f_X12_next (upI H 29 47 (iAdd (H.1 29 47) 1))).1 31 1) (upI (f_X12_next (upI H 29 47 (iAdd (H.1 29 47) 1))) 29 50 1) (rp_X12_next (upI H 29 47 (iAdd (H.1 29 47) 1)) hr))) ?_
                        refine J_ld 221 jw hj rfl rfl rfl rfl ?_
                        refine J_callV0 jw rfl (Or.inl ⟨_, rfl⟩) rfl rfl (sp_X12_next (g := g) (f_X12_code (f_X12_leafOf H) 0 ((f_X12_looksAt 4 ((f_X12_next (upI H 29 47 (iAdd (H.1 29 47) 1))).1 31 1) (upI (f_X12_next (upI H 29 47 (iAdd (H.1 29 47) 1))) 29 50 1)).2.1 29 18) (f_X12_looksAt 4 ((f_X12_next (upI H 29 47 (iAdd (H.1 29 47) 1))).1 31 1) (upI (f_X12_next (upI H 29 47 (iAdd (H.1 29 47) 1))) 29 50 1)).2) (rp_X12_code (f_X12_leafOf H) 0 ((f_X12_looksAt 4 ((f_X12_next (upI H 29 47 (iAdd (H.1 29 47) 1))).1 31 1) (upI (f_X12_next (upI H 29 47 (iAdd (H.1 29 47) 1))) 29 50 1)).2.1 29 18) (f_X12_looksAt 4 ((f_X12_next (upI H 29 47 (iAdd (H.1 29 47) 1))).1 31 1) (upI (f_X12_next (upI H 29 47 (iAdd (H.1 29 47) 1))) 29 50 1)).2 (rp_X12_looksAt 4 ((f_X12_next (upI H 29 47 (iAdd (H.1 29 47) 1))).1 31 1) (upI (f_X12_next (upI H 29 47 (iAdd (H.1 29 47) 1))) 29 50 1) (rp_X12_next (upI H 29 47 (iAdd (H.1 29 47) 1)) hr))).1) ?_
                        refine J_cst 225 jw hj rfl rfl rfl ?_
                        exact J_ret rfl (Or.inl rfl) (fun aw hR => by show _ ∧ _; unfold f_X12_operand; rw [if_pos h0, if_neg h18, if_neg h19, if_neg h20, if_pos h21, if_pos h23, if_neg h24, if_pos h25, if_neg h30, if_neg h31, if_neg h32]; exact ⟨rfl, hR⟩)
                      · refine J_cst 209 jw hj rfl rfl rfl ?_
                        exact J_ret rfl (Or.inl rfl) (fun aw hR => by show _ ∧ _; unfold f_X12_operand; rw [if_pos h0, if_neg h18, if_neg h19, if_neg h20, if_pos h21, if_pos h23, if_neg h24, if_pos h25, if_neg h30, if_neg h31, if_pos h32]; exact ⟨rfl, hR⟩)
                    · refine J_ld 177 jw hj rfl rfl rfl rfl ?_
                      refine J_cst 178 jw hj rfl rfl rfl ?_
                      refine J_ld 179 jw hj rfl rfl rfl rfl ?_
                      refine J_gfR (k := 31) jw hj rfl (evn rfl) (by decide) (by decide) (RMa (rp_X12_next (upI H 29 47 (iAdd (H.1 29 47) 1)) hr).1 rfl) ?_
                      refine J_cst 183 jw hj rfl rfl rfl ?_
                      refine J_iald jw hj rfl (Or.inl rfl) (fun z41 r41 => ?_)
                      refine J_callV1 jw rfl (Or.inl ⟨_, rfl⟩) rfl rfl (sp_X12_looksAt (g := g) 0 ((f_X12_next (upI H 29 47 (iAdd (H.1 29 47) 1))).1 31 0) (upI (f_X12_next (upI H 29 47 (iAdd (H.1 29 47) 1))) 29 50 1) (rp_X12_next (upI H 29 47 (iAdd (H.1 29 47) 1)) hr).1) ?_
                      refine J_goto 201 jw hj rfl rfl ?_
                      refine J_st 203 [rf (g 29), pt (f_X12_isWord 7237492 H), pt (f_X12_isSign 40 H), pt (f_X12_leafOf H), pt ((f_X12_looksAt 0 ((f_X12_next (upI H 29 47 (iAdd (H.1 29 47) 1))).1 31 0) (upI (f_X12_next (upI H 29 47 (iAdd (H.1 29 47) 1))) 29 50 1)).1)] (k := 4) jw hj rfl (Or.inl ⟨rfl, rfl⟩) rfl ?_
                      refine J_ld 205 jw hj rfl rfl rfl rfl ?_
                      refine J_ifc (t := 210) jw hj rfl (evn rfl) rfl (fun (h33 : ¬ ((f_X12_looksAt 0 ((f_X12_next (upI H 29 47 (iAdd (H.1 29 47) 1))).1 31 0) (upI (f_X12_next (upI H 29 47 (iAdd (H.1 29 47) 1))) 29 50 1)).1) = 0) => ?_) (fun (h33 : ((f_X12_looksAt 0 ((f_X12_next (upI H 29 47 (iAdd (H.1 29 47) 1))).1 31 0) (upI (f_X12_next (upI H 29 47 (iAdd (H.1 29 47) 1))) 29 50 1)).1) = 0) => ?_)
                      · refine J_ld 211 jw hj rfl rfl rfl rfl ?_
                        refine J_ld 212 jw hj rfl rfl rfl rfl ?_
                        refine J_cst 213 jw hj rfl rfl rfl ?_
                        refine J_ld 214 jw hj rfl rfl rfl rfl ?_
                        refine J_gfI jw hj rfl (evn rfl) (by decide) rfl (fun r42 => ?_)
                        refine J_callV0 jw rfl (Or.inl ⟨_, rfl⟩) rfl rfl (sp_X12_code (g := g) (f_X12_leafOf H) 0 ((f_X12_looksAt 0 ((f_X12_next (upI H 29 47 (iAdd (H.1 29 47) 1))).1 31 0) (upI (f_X12_next (upI H 29 47 (iAdd (H.1 29 47) 1))) 29 50 1)).2.1 29 18) (f_X12_looksAt 0 ((f_X12_next (upI H 29 47 (iAdd (H.1 29 47) 1))).1 31 0) (upI (f_X12_next (upI H 29 47 (iAdd (H.1 29 47) 1))) 29 50 1)).2 (rp_X12_looksAt 0 ((f_X12_next (upI H 29 47 (iAdd (H.1 29 47) 1))).1 31 0) (upI (f_X12_next (upI H 29 47 (iAdd (H.1 29 47) 1))) 29 50 1) (rp_X12_next (upI H 29 47 (iAdd (H.1 29 47) 1)) hr))) ?_
                        refine J_ld 221 jw hj rfl rfl rfl rfl ?_
                        refine J_callV0 jw rfl (Or.inl ⟨_, rfl⟩) rfl rfl (sp_X12_next (g := g) (f_X12_code (f_X12_leafOf H) 0 ((f_X12_looksAt 0 ((f_X12_next (upI H 29 47 (iAdd (H.1 29 47) 1))).1 31 0) (upI (f_X12_next (upI H 29 47 (iAdd (H.1 29 47) 1))) 29 50 1)).2.1 29 18) (f_X12_looksAt 0 ((f_X12_next (upI H 29 47 (iAdd (H.1 29 47) 1))).1 31 0) (upI (f_X12_next (upI H 29 47 (iAdd (H.1 29 47) 1))) 29 50 1)).2) (rp_X12_code (f_X12_leafOf H) 0 ((f_X12_looksAt 0 ((f_X12_next (upI H 29 47 (iAdd (H.1 29 47) 1))).1 31 0) (upI (f_X12_next (upI H 29 47 (iAdd (H.1 29 47) 1))) 29 50 1)).2.1 29 18) (f_X12_looksAt 0 ((f_X12_next (upI H 29 47 (iAdd (H.1 29 47) 1))).1 31 0) (upI (f_X12_next (upI H 29 47 (iAdd (H.1 29 47) 1))) 29 50 1)).2 (rp_X12_looksAt 0 ((f_X12_next (upI H 29 47 (iAdd (H.1 29 47) 1))).1 31 0) (upI (f_X12_next (upI H 29 47 (iAdd (H.1 29 47) 1))) 29 50 1) (rp_X12_next (upI H 29 47 (iAdd (H.1 29 47) 1)) hr))).1) ?_
                        refine J_cst 225 jw hj rfl rfl rfl ?_
                        exact J_ret rfl (Or.inl rfl) (fun aw hR => by show _ ∧ _; unfold f_X12_operand; rw [if_pos h0, if_neg h18, if_neg h19, if_neg h20, if_pos h21, if_pos h23, if_neg h24, if_pos h25, if_neg h30, if_pos h31, if_neg h33]; exact ⟨rfl, hR⟩)
                      · refine J_cst 209 jw hj rfl rfl rfl ?_
                        exact J_ret rfl (Or.inl rfl) (fun aw hR => by show _ ∧ _; unfold f_X12_operand; rw [if_pos h0, if_neg h18, if_neg h19, if_neg h20, if_pos h21, if_pos h23, if_neg h24, if_pos h25, if_neg h30, if_pos h31, if_pos h33]; exact ⟨rfl, hR⟩)
                  · refine J_ld 157 jw hj rfl rfl rfl rfl ?_
                    refine J_cst 159 jw hj rfl rfl rfl ?_
                    refine J_ld 160 jw hj rfl rfl rfl rfl ?_
                    refine J_gfR (k := 31) jw hj rfl (evn rfl) (by decide) (by decide) (RMa (rp_X12_next (upI H 29 47 (iAdd (H.1 29 47) 1)) hr).1 rfl) ?_
                    refine J_cst 164 jw hj rfl rfl rfl ?_
                    refine J_iald jw hj rfl (Or.inl rfl) (fun z43 r43 => ?_)
                    refine J_callV1 jw rfl (Or.inl ⟨_, rfl⟩) rfl rfl (sp_X12_looksAt (g := g) 17 ((f_X12_next (upI H 29 47 (iAdd (H.1 29 47) 1))).1 31 3) (upI (f_X12_next (upI H 29 47 (iAdd (H.1 29 47) 1))) 29 50 1) (rp_X12_next (upI H 29 47 (iAdd (H.1 29 47) 1)) hr).1) ?_
                    refine J_goto 201 jw hj rfl rfl ?_
                    refine J_st 203 [rf (g 29), pt (f_X12_isWord 7237492 H), pt (f_X12_isSign 40 H), pt (f_X12_leafOf H), pt ((f_X12_looksAt 17 ((f_X12_next (upI H 29 47 (iAdd (H.1 29 47) 1))).1 31 3) (upI (f_X12_next (upI H 29 47 (iAdd (H.1 29 47) 1))) 29 50 1)).1)] (k := 4) jw hj rfl (Or.inl ⟨rfl, rfl⟩) rfl ?_
                    refine J_ld 205 jw hj rfl rfl rfl rfl ?_
                    refine J_ifc (t := 210) jw hj rfl (evn rfl) rfl (fun (h34 : ¬ ((f_X12_looksAt 17 ((f_X12_next (upI H 29 47 (iAdd (H.1 29 47) 1))).1 31 3) (upI (f_X12_next (upI H 29 47 (iAdd (H.1 29 47) 1))) 29 50 1)).1) = 0) => ?_) (fun (h34 : ((f_X12_looksAt 17 ((f_X12_next (upI H 29 47 (iAdd (H.1 29 47) 1))).1 31 3) (upI (f_X12_next (upI H 29 47 (iAdd (H.1 29 47) 1))) 29 50 1)).1) = 0) => ?_)
                    · refine J_ld 211 jw hj rfl rfl rfl rfl ?_
                      refine J_ld 212 jw hj rfl rfl rfl rfl ?_
                      refine J_cst 213 jw hj rfl rfl rfl ?_
                      refine J_ld 214 jw hj rfl rfl rfl rfl ?_
                      refine J_gfI jw hj rfl (evn rfl) (by decide) rfl (fun r44 => ?_)
                      refine J_callV0 jw rfl (Or.inl ⟨_, rfl⟩) rfl rfl (sp_X12_code (g := g) (f_X12_leafOf H) 0 ((f_X12_looksAt 17 ((f_X12_next (upI H 29 47 (iAdd (H.1 29 47) 1))).1 31 3) (upI (f_X12_next (upI H 29 47 (iAdd (H.1 29 47) 1))) 29 50 1)).2.1 29 18) (f_X12_looksAt 17 ((f_X12_next (upI H 29 47 (iAdd (H.1 29 47) 1))).1 31 3) (upI (f_X12_next (upI H 29 47 (iAdd (H.1 29 47) 1))) 29 50 1)).2 (rp_X12_looksAt 17 ((f_X12_next (upI H 29 47 (iAdd (H.1 29 47) 1))).1 31 3) (upI (f_X12_next (upI H 29 47 (iAdd (H.1 29 47) 1))) 29 50 1) (rp_X12_next (upI H 29 47 (iAdd (H.1 29 47) 1)) hr))) ?_
                      refine J_ld 221 jw hj rfl rfl rfl rfl ?_
                      refine J_callV0 jw rfl (Or.inl ⟨_, rfl⟩) rfl rfl (sp_X12_next (g := g) (f_X12_code (f_X12_leafOf H) 0 ((f_X12_looksAt 17 ((f_X12_next (upI H 29 47 (iAdd (H.1 29 47) 1))).1 31 3) (upI (f_X12_next (upI H 29 47 (iAdd (H.1 29 47) 1))) 29 50 1)).2.1 29 18) (f_X12_looksAt 17 ((f_X12_next (upI H 29 47 (iAdd (H.1 29 47) 1))).1 31 3) (upI (f_X12_next (upI H 29 47 (iAdd (H.1 29 47) 1))) 29 50 1)).2) (rp_X12_code (f_X12_leafOf H) 0 ((f_X12_looksAt 17 ((f_X12_next (upI H 29 47 (iAdd (H.1 29 47) 1))).1 31 3) (upI (f_X12_next (upI H 29 47 (iAdd (H.1 29 47) 1))) 29 50 1)).2.1 29 18) (f_X12_looksAt 17 ((f_X12_next (upI H 29 47 (iAdd (H.1 29 47) 1))).1 31 3) (upI (f_X12_next (upI H 29 47 (iAdd (H.1 29 47) 1))) 29 50 1)).2 (rp_X12_looksAt 17 ((f_X12_next (upI H 29 47 (iAdd (H.1 29 47) 1))).1 31 3) (upI (f_X12_next (upI H 29 47 (iAdd (H.1 29 47) 1))) 29 50 1) (rp_X12_next (upI H 29 47 (iAdd (H.1 29 47) 1)) hr))).1) ?_
                      refine J_cst 225 jw hj rfl rfl rfl ?_
                      exact J_ret rfl (Or.inl rfl) (fun aw hR => by show _ ∧ _; unfold f_X12_operand; rw [if_pos h0, if_neg h18, if_neg h19, if_neg h20, if_pos h21, if_pos h23, if_neg h24, if_pos h25, if_pos h30, if_neg h34]; exact ⟨rfl, hR⟩)
                    · refine J_cst 209 jw hj rfl rfl rfl ?_
                      exact J_ret rfl (Or.inl rfl) (fun aw hR => by show _ ∧ _; unfold f_X12_operand; rw [if_pos h0, if_neg h18, if_neg h19, if_neg h20, if_pos h21, if_pos h23, if_neg h24, if_pos h25, if_pos h30, if_pos h34]; exact ⟨rfl, hR⟩)
              · refine J_ld 137 jw hj rfl rfl rfl rfl ?_
                refine J_ld 138 jw hj rfl rfl rfl rfl ?_
                refine J_cst 139 jw hj rfl rfl rfl ?_
                refine J_cst 140 jw hj rfl rfl rfl ?_
                refine J_callV0 jw rfl (Or.inl ⟨_, rfl⟩) rfl rfl (sp_X12_code (g := g) (f_X12_leafOf H) 0 0 (upI (f_X12_next (upI H 29 47 (iAdd (H.1 29 47) 1))) 29 50 1) (rp_X12_next (upI H 29 47 (iAdd (H.1 29 47) 1)) hr)) ?_
                refine J_cst 144 jw hj rfl rfl rfl ?_
                exact J_ret rfl (Or.inl rfl) (fun aw hR => by show _ ∧ _; unfold f_X12_operand; rw [if_pos h0, if_neg h18, if_neg h19, if_neg h20, if_pos h21, if_pos h23, if_pos h24]; exact ⟨rfl, hR⟩)
            · refine J_ld 85 jw hj rfl rfl rfl rfl ?_
              refine J_gfR (k := 46) jw hj rfl (evn rfl) (by decide) (by decide) (rp_X12_next (upI H 29 47 (iAdd (H.1 29 47) 1)) hr).2 ?_
              refine J_ld 89 jw hj rfl rfl rfl rfl ?_
              refine J_gfI jw hj rfl (evn rfl) (by decide) rfl (fun r45 => ?_)
              refine J_ld 93 jw hj rfl rfl rfl rfl ?_
              refine J_ifc (t := 101) jw hj rfl (evn rfl) rfl (fun (h35 : f_X12_isWord 7237492 H = 0) => ?_) (fun (h35 : ¬ f_X12_isWord 7237492 H = 0) => ?_)
              · refine J_cst 103 jw hj rfl rfl rfl ?_
                refine J_iast jw hj rfl (Or.inl rfl) (fun _ => ?_)
                refine J_ld 105 jw hj rfl rfl rfl rfl ?_
                refine J_dup 106 jw hj rfl rfl ?_
                refine J_gfI jw hj rfl (evn rfl) (by decide) rfl (fun r46 => ?_)
                refine J_cst 110 jw hj rfl rfl rfl ?_
                refine J_bin jw hj rfl rfl ?_
                refine J_pfI jw hj rfl (evn rfl) rfl ?_
                refine J_ld 115 jw hj rfl rfl rfl rfl ?_
                refine J_dup 116 jw hj rfl rfl ?_
                refine J_gfI jw hj rfl (evn rfl) (by decide) rfl (fun r47 => ?_)
                refine J_cst 120 jw hj rfl rfl rfl ?_
                refine J_bin jw hj rfl rfl ?_
                refine J_pfI jw hj rfl (evn rfl) rfl ?_
                refine J_cst 125 jw hj rfl rfl rfl ?_
                exact J_ret rfl (Or.inl rfl) (fun aw hR => by show _ ∧ _; unfold f_X12_operand; rw [if_pos h0, if_neg h18, if_neg h19, if_neg h20, if_pos h21, if_neg h23, if_pos h35]; exact ⟨rfl, hR⟩)
              · refine J_cst 98 jw hj rfl rfl rfl ?_
                refine J_goto 103 jw hj rfl rfl ?_
                refine J_iast jw hj rfl (Or.inl rfl) (fun _ => ?_)
                refine J_ld 105 jw hj rfl rfl rfl rfl ?_
                refine J_dup 106 jw hj rfl rfl ?_
                refine J_gfI jw hj rfl (evn rfl) (by decide) rfl (fun r48 => ?_)
                refine J_cst 110 jw hj rfl rfl rfl ?_
                refine J_bin jw hj rfl rfl ?_
                refine J_pfI jw hj rfl (evn rfl) rfl ?_
                refine J_ld 115 jw hj rfl rfl rfl rfl ?_
                refine J_dup 116 jw hj rfl rfl ?_
                refine J_gfI jw hj rfl (evn rfl) (by decide) rfl (fun r49 => ?_)
                refine J_cst 120 jw hj rfl rfl rfl ?_
                refine J_bin jw hj rfl rfl ?_
                refine J_pfI jw hj rfl (evn rfl) rfl ?_
                refine J_cst 125 jw hj rfl rfl rfl ?_
                exact J_ret rfl (Or.inl rfl) (fun aw hR => by show _ ∧ _; unfold f_X12_operand; rw [if_pos h0, if_neg h18, if_neg h19, if_neg h20, if_pos h21, if_neg h23, if_neg h35]; exact ⟨rfl, hR⟩)
        · refine J_ld 57 jw hj rfl rfl rfl rfl ?_
          refine J_cst 58 jw hj rfl rfl rfl ?_
          refine J_callV1 jw rfl (Or.inl ⟨_, rfl⟩) rfl rfl (sp_X12_bad (g := g) 4 H) ?_
          exact J_ret rfl (Or.inl rfl) (fun aw hR => by show _ ∧ _; unfold f_X12_operand; rw [if_pos h0, if_neg h18, if_neg h19, if_pos h20]; exact ⟨rfl, hR⟩)
    · refine J_ld 29 jw hj rfl rfl rfl rfl ?_
      refine J_ifc (t := 38) jw hj rfl (evn rfl) rfl (fun (h36 : ¬ f_X12_leafOf H < 0) => ?_) (fun (h36 : f_X12_leafOf H < 0) => ?_)
      · refine J_ld 39 jw hj rfl rfl rfl rfl ?_
        refine J_gfI jw hj rfl (evn rfl) (by decide) rfl (fun r50 => ?_)
        refine J_cst 44 jw hj rfl rfl rfl ?_
        refine J_icmp (t := 56) jw hj rfl (evn rfl) rfl (fun (h37 : H.1 29 47 = 20) => ?_) (fun (h37 : ¬ H.1 29 47 = 20) => ?_)
        · refine J_ld 57 jw hj rfl rfl rfl rfl ?_
          refine J_cst 58 jw hj rfl rfl rfl ?_
          refine J_callV1 jw rfl (Or.inl ⟨_, rfl⟩) rfl rfl (sp_X12_bad (g := g) 4 H) ?_
          exact J_ret rfl (Or.inl rfl) (fun aw hR => by show _ ∧ _; unfold f_X12_operand; rw [if_pos h0, if_pos h18, if_neg h36, if_pos h37]; exact ⟨rfl, hR⟩)
        · refine J_ld 48 jw hj rfl rfl rfl rfl ?_
          refine J_gfI jw hj rfl (evn rfl) (by decide) rfl (fun r51 => ?_)
          refine J_cst 53 jw hj rfl rfl rfl ?_
          refine J_icmp (t := 62) jw hj rfl (evn rfl) rfl (fun (h38 : ¬ 8 < H.1 29 49) => ?_) (fun (h38 : 8 < H.1 29 49) => ?_)
          · refine J_ld 63 jw hj rfl rfl rfl rfl ?_
            refine J_dup 64 jw hj rfl rfl ?_
            refine J_gfI jw hj rfl (evn rfl) (by decide) rfl (fun r52 => ?_)
            refine J_cst 68 jw hj rfl rfl rfl ?_
            refine J_bin jw hj rfl rfl ?_
            refine J_pfI jw hj rfl (evn rfl) rfl ?_
            refine J_ld 73 jw hj rfl rfl rfl rfl ?_
            refine J_callV0 jw rfl (Or.inl ⟨_, rfl⟩) rfl rfl (sp_X12_next (g := g) (upI H 29 47 (iAdd (H.1 29 47) 1)) hr.1) ?_
            refine J_ld 77 jw hj rfl rfl rfl rfl ?_
            refine J_ifc (t := 84) jw hj rfl (evn rfl) rfl (fun (h39 : ¬ f_X12_isWord 7237492 H = 0) => ?_) (fun (h39 : f_X12_isWord 7237492 H = 0) => ?_)
            · refine J_ld 85 jw hj rfl rfl rfl rfl ?_
              refine J_gfR (k := 46) jw hj rfl (evn rfl) (by decide) (by decide) (rp_X12_next (upI H 29 47 (iAdd (H.1 29 47) 1)) hr).2 ?_
              refine J_ld 89 jw hj rfl rfl rfl rfl ?_
              refine J_gfI jw hj rfl (evn rfl) (by decide) rfl (fun r53 => ?_)
              refine J_ld 93 jw hj rfl rfl rfl rfl ?_
              refine J_ifc (t := 101) jw hj rfl (evn rfl) rfl (fun (h40 : f_X12_isWord 7237492 H = 0) => ?_) (fun (h40 : ¬ f_X12_isWord 7237492 H = 0) => ?_)
              · refine J_cst 103 jw hj rfl rfl rfl ?_
                refine J_iast jw hj rfl (Or.inl rfl) (fun _ => ?_)
                refine J_ld 105 jw hj rfl rfl rfl rfl ?_
                refine J_dup 106 jw hj rfl rfl ?_
                refine J_gfI jw hj rfl (evn rfl) (by decide) rfl (fun r54 => ?_)
                refine J_cst 110 jw hj rfl rfl rfl ?_
                refine J_bin jw hj rfl rfl ?_
                refine J_pfI jw hj rfl (evn rfl) rfl ?_
                refine J_ld 115 jw hj rfl rfl rfl rfl ?_
                refine J_dup 116 jw hj rfl rfl ?_
                refine J_gfI jw hj rfl (evn rfl) (by decide) rfl (fun r55 => ?_)
                refine J_cst 120 jw hj rfl rfl rfl ?_
                refine J_bin jw hj rfl rfl ?_
                refine J_pfI jw hj rfl (evn rfl) rfl ?_
                refine J_cst 125 jw hj rfl rfl rfl ?_
                exact J_ret rfl (Or.inl rfl) (fun aw hR => by show _ ∧ _; unfold f_X12_operand; rw [if_pos h0, if_pos h18, if_neg h36, if_neg h37, if_neg h38, if_neg h39, if_pos h40]; exact ⟨rfl, hR⟩)
              · refine J_cst 98 jw hj rfl rfl rfl ?_
                refine J_goto 103 jw hj rfl rfl ?_
                refine J_iast jw hj rfl (Or.inl rfl) (fun _ => ?_)
                refine J_ld 105 jw hj rfl rfl rfl rfl ?_
                refine J_dup 106 jw hj rfl rfl ?_
                refine J_gfI jw hj rfl (evn rfl) (by decide) rfl (fun r56 => ?_)
                refine J_cst 110 jw hj rfl rfl rfl ?_
                refine J_bin jw hj rfl rfl ?_
                refine J_pfI jw hj rfl (evn rfl) rfl ?_
                refine J_ld 115 jw hj rfl rfl rfl rfl ?_
                refine J_dup 116 jw hj rfl rfl ?_
                refine J_gfI jw hj rfl (evn rfl) (by decide) rfl (fun r57 => ?_)
                refine J_cst 120 jw hj rfl rfl rfl ?_
                refine J_bin jw hj rfl rfl ?_
                refine J_pfI jw hj rfl (evn rfl) rfl ?_
                refine J_cst 125 jw hj rfl rfl rfl ?_
                exact J_ret rfl (Or.inl rfl) (fun aw hR => by show _ ∧ _; unfold f_X12_operand; rw [if_pos h0, if_pos h18, if_neg h36, if_neg h37, if_neg h38, if_neg h39, if_neg h40]; exact ⟨rfl, hR⟩)
            · refine J_ld 81 jw hj rfl rfl rfl rfl ?_
              refine J_ifc (t := 126) jw hj rfl (evn rfl) rfl (fun (h41 : f_X12_isSign 40 H = 0) => ?_) (fun (h41 : ¬ f_X12_isSign 40 H = 0) => ?_)
              · refine J_ld 127 jw hj rfl rfl rfl rfl ?_
                refine J_cst 128 jw hj rfl rfl rfl ?_
                refine J_pfI jw hj rfl (evn rfl) rfl ?_
                refine J_ld 132 jw hj rfl rfl rfl rfl ?_
                refine J_cst 133 jw hj rfl rfl rfl ?_
                refine J_icmp (t := 145) jw hj rfl (evn rfl) rfl (fun (h42 : ¬ f_X12_leafOf H < 3) => ?_) (fun (h42 : f_X12_leafOf H < 3) => ?_)
                · refine J_ld 146 jw hj rfl rfl rfl rfl ?_
                  refine J_cst 148 jw hj rfl rfl rfl ?_
                  refine J_icmp (t := 226) jw hj rfl (evn rfl) rfl (fun (h43 : ¬ f_X12_leafOf H < 6) => ?_) (fun (h43 : f_X12_leafOf H < 6) => ?_)
                  · refine J_ld 227 jw hj rfl rfl rfl rfl ?_
                    refine J_gfI jw hj rfl (evn rfl) (by decide) rfl (fun r58 => ?_)
                    refine J_cst 231 jw hj rfl rfl rfl ?_
                    refine J_icmp (t := 252) jw hj rfl (evn rfl) rfl (fun (h44 : ¬ ((f_X12_next (upI H 29 47 (iAdd (H.1 29 47) 1))).1 29 11) = 3) => ?_) (fun (h44 : ((f_X12_next (upI H 29 47 (iAdd (H.1 29 47) 1))).1 29 11) = 3) => ?_)
                    · refine J_ld 253 jw hj rfl rfl rfl rfl ?_
                      refine J_cst 254 jw hj rfl rfl rfl ?_
                      refine J_callV1 jw rfl (Or.inl ⟨_, rfl⟩) rfl rfl (sp_X12_bad (g := g) 1 (upI (f_X12_next (upI H 29 47 (iAdd (H.1 29 47) 1))) 29 50 1)) ?_
                      exact J_ret rfl (Or.inl rfl) (fun aw hR => by show _ ∧ _; unfold f_X12_operand; rw [if_pos h0, if_pos h18, if_neg h36, if_neg h37, if_neg h38, if_pos h39, if_pos h41, if_neg h42, if_neg h43, if_neg h44]; exact ⟨rfl, hR⟩)
                    · refine J_ld 235 jw hj rfl rfl rfl rfl ?_
                      refine J_gfI jw hj rfl (evn rfl) (by decide) rfl (fun r59 => ?_)
                      refine J_cst 240 jw hj rfl rfl rfl ?_
                      refine J_icmp (t := 252) jw hj rfl (evn rfl) rfl (fun (h45 : ((f_X12_next (upI H 29 47 (iAdd (H.1 29 47) 1))).1 29 14) < 60) => ?_) (fun (h45 : ¬ ((f_X12_next (upI H 29 47 (iAdd (H.1 29 47) 1))).1 29 14) < 60) => ?_)
                      · refine J_ld 253 jw hj rfl rfl rfl rfl ?_
                        refine J_cst 254 jw hj rfl rfl rfl ?_
                        refine J_callV1 jw rfl (Or.inl ⟨_, rfl⟩) rfl rfl (sp_X12_bad (g := g) 1 (upI (f_X12_next (upI H 29 47 (iAdd (H.1 29 47) 1))) 29 50 1)) ?_
                        exact J_ret rfl (Or.inl rfl) (fun aw hR => by show _ ∧ _; unfold f_X12_operand; rw [if_pos h0, if_pos h18, if_neg h36, if_neg h37, if_neg h38, if_pos h39, if_pos h41, if_neg h42, if_neg h43, if_pos h44, if_pos h45]; exact ⟨rfl, hR⟩)
                      · refine J_ld 244 jw hj rfl rfl rfl rfl ?_
                        refine J_gfI jw hj rfl (evn rfl) (by decide) rfl (fun r60 => ?_)
                        refine J_cst 249 jw hj rfl rfl rfl ?_
                        refine J_icmp (t := 258) jw hj rfl (evn rfl) rfl (fun (h46 : ¬ 62 < ((f_X12_next (upI H 29 47 (iAdd (H.1 29 47) 1))).1 29 14)) => ?_) (fun (h46 : 62 < ((f_X12_next (upI H 29 47 (iAdd (H.1 29 47) 1))).1 29 14)) => ?_)
                        · refine J_ld 259 jw hj rfl rfl rfl rfl ?_
                          refine J_gfI jw hj rfl (evn rfl) (by decide) rfl (fun r61 => ?_)
                          refine J_st 264 [rf (g 29), pt (f_X12_isWord 7237492 H), pt (f_X12_isSign 40 H), pt (f_X12_leafOf H), pt ((f_X12_next (upI H 29 47 (iAdd (H.1 29 47) 1))).1 29 14)] (k := 4) jw hj rfl (Or.inl ⟨rfl, rfl⟩) rfl ?_
                          refine J_ld 265 jw hj rfl rfl rfl rfl ?_
                          refine J_callV0 jw rfl (Or.inl ⟨_, rfl⟩) rfl rfl (sp_X12_next (g := g) (upI (f_X12_next (upI H 29 47 (iAdd (H.1 29 47) 1))) 29 50 1) (rp_X12_next (upI H 29 47 (iAdd (H.1 29 47) 1)) hr).1) ?_
                          refine J_ld 269 jw hj rfl rfl rfl rfl ?_
                          refine J_gfI jw hj rfl (evn rfl) (by decide) rfl (fun r62 => ?_)
                          refine J_cst 273 jw hj rfl rfl rfl ?_
                          refine J_icmp (t := 282) jw hj rfl (evn rfl) rfl (fun (h47 : ((f_X12_next (upI (f_X12_next (upI H 29 47 (iAdd (H.1 29 47) 1))) 29 50 1)).1 29 11) = 2) => ?_) (fun (h47 : ¬ ((f_X12_next (upI (f_X12_next (upI H 29 47 (iAdd (H.1 29 47) 1))) 29 50 1)).1 29 11) = 2) => ?_)
                          · refine J_ld 283 jw hj rfl rfl rfl rfl ?_
                            refine J_ld 284 jw hj rfl rfl rfl rfl ?_
                            refine J_ld 286 jw hj rfl rfl rfl rfl ?_
                            refine J_ld 287 jw hj rfl rfl rfl rfl ?_
                            refine J_gfI jw hj rfl (evn rfl) (by decide) rfl (fun r63 => ?_)
                            refine J_callV0 jw rfl (Or.inl ⟨_, rfl⟩) rfl rfl (sp_X12_code (g := g) (f_X12_leafOf H) ((f_X12_next (upI H 29 47 (iAdd (H.1 29 47) 1))).1 29 14) ((f_X12_next (upI (f_X12_next (upI H 29 47 (iAdd (H.1 29 47) 1))) 29 50 1)).1 29 14) (f_X12_next (upI (f_X12_next (upI H 29 47 (iAdd (H.1 29 47) 1))) 29 50 1)) (rp_X12_next (upI (f_X12_next (upI H 29 47 (iAdd (H.1 29 47) 1))) 29 50 1) (rp_X12_next (upI H 29 47 (iAdd (H.1 29 47) 1)) hr))) ?_
                            refine J_ld 294 jw hj rfl rfl rfl rfl ?_
                            refine J_callV0 jw rfl (Or.inl ⟨_, rfl⟩) rfl rfl (sp_X12_next (g := g) (f_X12_code (f_X12_leafOf H) ((f_X12_next (upI H 29 47 (iAdd (H.1 29 47) 1))).1 29 14) ((f_X12_next (upI (f_X12_next (upI H 29 47 (iAdd (H.1 29 47) 1))) 29 50 1)).1 29 14) (f_X12_next (upI (f_X12_next (upI H 29 47 (iAdd (H.1 29 47) 1))) 29 50 1))) (rp_X12_code (f_X12_leafOf H) ((f_X12_next (upI H 29 47 (iAdd (H.1 29 47) 1))).1 29 14) ((f_X12_next (upI (f_X12_next (upI H 29 47 (iAdd (H.1 29 47) 1))) 29 50 1)).1 29 14) (f_X12_next (upI (f_X12_next (upI H 29 47 (iAdd (H.1 29 47) 1))) 29 50 1)) (rp_X12_next (upI (f_X12_next (upI H 29 47 (iAdd (H.1 29 47) 1))) 29 50 1) (rp_X12_next (upI H 29 47 (iAdd (H.1 29 47) 1)) hr))).1) ?_
                            refine J_cst 298 jw hj rfl rfl rfl ?_
                            exact J_ret rfl (Or.inl rfl) (fun aw hR => by show _ ∧ _; unfold f_X12_operand; rw [if_pos h0, if_pos h18, if_neg h36, if_neg h37, if_neg h38, if_pos h39, if_pos h41, if_neg h42, if_neg h43, if_pos h44, if_neg h45, if_neg h46, if_pos h47]; exact ⟨rfl, hR⟩)
                          · refine J_ld 277 jw hj rfl rfl rfl rfl ?_
                            refine J_cst 278 jw hj rfl rfl rfl ?_
                            refine J_callV1 jw rfl (Or.inl ⟨_, rfl⟩) rfl rfl (sp_X12_bad (g := g) 1 (f_X12_next (upI (f_X12_next (upI H 29 47 (iAdd (H.1 29 47) 1))) 29 50 1))) ?_
                            exact J_ret rfl (Or.inl rfl) (fun aw hR => by show _ ∧ _; unfold f_X12_operand; rw [if_pos h0, if_pos h18, if_neg h36, if_neg h37, if_neg h38, if_pos h39, if_pos h41, if_neg h42, if_neg h43, if_pos h44, if_neg h45, if_neg h46, if_neg h47]; exact ⟨rfl, hR⟩)
                        · refine J_ld 253 jw hj rfl rfl rfl rfl ?_
                          refine J_cst 254 jw hj rfl rfl rfl ?_
                          refine J_callV1 jw rfl (Or.inl ⟨_, rfl⟩) rfl rfl (sp_X12_bad (g := g) 1 (upI (f_X12_next (upI H 29 47 (iAdd (H.1 29 47) 1))) 29 50 1)) ?_
                          exact J_ret rfl (Or.inl rfl) (fun aw hR => by show _ ∧ _; unfold f_X12_operand; rw [if_pos h0, if_pos h18, if_neg h36, if_neg h37, if_neg h38, if_pos h39, if_pos h41, if_neg h42, if_neg h43, if_pos h44, if_neg h45, if_pos h46]; exact ⟨rfl, hR⟩)
                  · refine J_ld 152 jw hj rfl rfl rfl rfl ?_
                    refine J_cst 153 jw hj rfl rfl rfl ?_
                    refine J_icmp (t := 171) jw hj rfl (evn rfl) rfl (fun (h48 : ¬ f_X12_leafOf H = 3) => ?_) (fun (h48 : f_X12_leafOf H = 3) => ?_)
                    · refine J_ld 172 jw hj rfl rfl rfl rfl ?_
                      refine J_cst 173 jw hj rfl rfl rfl ?_
                      refine J_icmp (t := 190) jw hj rfl (evn rfl) rfl (fun (h49 : ¬ f_X12_leafOf H = 4) => ?_) (fun (h49 : f_X12_leafOf H = 4) => ?_)
                      · refine J_ld 191 jw hj rfl rfl rfl rfl ?_
                        refine J_cst 192 jw hj rfl rfl rfl ?_
                        refine J_ld 193 jw hj rfl rfl rfl rfl ?_
                        refine J_gfR (k := 31) jw hj rfl (evn rfl) (by decide) (by decide) (RMa (rp_X12_next (upI H 29 47 (iAdd (H.1 29 47) 1)) hr).1 rfl) ?_
                        refine J_cst 197 jw hj rfl rfl rfl ?_
                        refine J_iald jw hj rfl (Or.inl rfl) (fun z64 r64 => ?_)
                        refine J_callV1 jw rfl (Or.inl ⟨_, rfl⟩) rfl rfl (sp_X12_looksAt (g := g) 4 ((f_X12_next (upI H 29 47 (iAdd (H.1 29 47) 1))).1 31 1) (upI (f_X12_next (upI H 29 47 (iAdd (H.1 29 47) 1))) 29 50 1) (rp_X12_next (upI H 29 47 (iAdd (H.1 29 47) 1)) hr).1) ?_
                        refine J_st 203 [rf (g 29), pt (f_X12_isWord 7237492 H), pt (f_X12_isSign 40 H), pt (f_X12_leafOf H), pt ((f_X12_looksAt 4 ((f_X12_next (upI H 29 47 (iAdd (H.1 29 47) 1))).1 31 1) (upI (f_X12_next (upI H 29 47 (iAdd (H.1 29 47) 1))) 29 50 1)).1)] (k := 4) jw hj rfl (Or.inl ⟨rfl, rfl⟩) rfl ?_
                        refine J_ld 205 jw hj rfl rfl rfl rfl ?_
                        refine J_ifc (t := 210) jw hj rfl (evn rfl) rfl (fun (h50 : ¬ ((f_X12_looksAt 4 ((f_X12_next (upI H 29 47 (iAdd (H.1 29 47) 1))).1 31 1) (upI (f_X12_next (upI H 29 47 (iAdd (H.1 29 47) 1))) 29 50 1)).1) = 0) => ?_) (fun (h50 : ((f_X12_looksAt 4 ((f_X12_next (upI H 29 47 (iAdd (H.1 29 47) 1))).1 31 1) (upI (f_X12_next (upI H 29 47 (iAdd (H.1 29 47) 1))) 29 50 1)).1) = 0) => ?_)
                        · refine J_ld 211 jw hj rfl rfl rfl rfl ?_
                          refine J_ld 212 jw hj rfl rfl rfl rfl ?_
                          refine J_cst 213 jw hj rfl rfl rfl ?_
                          refine J_ld 214 jw hj rfl rfl rfl rfl ?_
                          refine J_gfI jw hj rfl (evn rfl) (by decide) rfl (fun r65 => ?_)
                          refine J_callV0 jw rfl (Or.inl ⟨_, rfl⟩) rfl rfl (sp_X12_code (g := g) (f_X12_leafOf H) 0 ((f_X12_looksAt 4 ((f_X12_next (upI H 29 47 (iAdd (H.1 29 47) 1))).1 31 1) (upI (f_X12_next (upI H 29 47 (iAdd (H.1 29 47) 1))) 29 50 1)).2.1 29 18) (f_X12_looksAt 4 ((f_X12_next (upI H 29 47 (iAdd (H.1 29 47) 1))).1 31 1) (upI (f_X12_next (upI H 29 47 (iAdd (H.1 29 47) 1))) 29 50 1)).2 (rp_X12_looksAt 4 ((f_X12_next (upI H 29 47 (iAdd (H.1 29 47) 1))).1 31 1) (upI (f_X12_next (upI H 29 47 (iAdd (H.1 29 47) 1))) 29 50 1) (rp_X12_next (upI H 29 47 (iAdd (H.1 29 47) 1)) hr))) ?_
                          refine J_ld 221 jw hj rfl rfl rfl rfl ?_
                          refine J_callV0 jw rfl (Or.inl ⟨_, rfl⟩) rfl rfl (sp_X12_next (g := g) (f_X12_code (f_X12_leafOf H) 0 ((f_X12_looksAt 4 ((f_X12_next (upI H 29 47 (iAdd (H.1 29 47) 1))).1 31 1) (upI (f_X12_next (upI H 29 47 (iAdd (H.1 29 47) 1))) 29 50 1)).2.1 29 18) (f_X12_looksAt 4 ((f_X12_next (upI H 29 47 (iAdd (H.1 29 47) 1))).1 31 1) (upI (f_X12_next (upI H 29 47 (iAdd (H.1 29 47) 1))) 29 50 1)).2) (rp_X12_code (f_X12_leafOf H) 0 ((f_X12_looksAt 4 ((f_X12_next (upI H 29 47 (iAdd (H.1 29 47) 1))).1 31 1) (upI (f_X12_next (upI H 29 47 (iAdd (H.1 29 47) 1))) 29 50 1)).2.1 29 18) (f_X12_looksAt 4 ((f_X12_next (upI H 29 47 (iAdd (H.1 29 47) 1))).1 31 1) (upI (f_X12_next (upI H 29 47 (iAdd (H.1 29 47) 1))) 29 50 1)).2 (rp_X12_looksAt 4 ((f_X12_next (upI H 29 47 (iAdd (H.1 29 47) 1))).1 31 1) (upI (f_X12_next (upI H 29 47 (iAdd (H.1 29 47) 1))) 29 50 1) (rp_X12_next (upI H 29 47 (iAdd (H.1 29 47) 1)) hr))).1) ?_
                          refine J_cst 225 jw hj rfl rfl rfl ?_
                          exact J_ret rfl (Or.inl rfl) (fun aw hR => by show _ ∧ _; unfold f_X12_operand; rw [if_pos h0, if_pos h18, if_neg h36, if_neg h37, if_neg h38, if_pos h39, if_pos h41, if_neg h42, if_pos h43, if_neg h48, if_neg h49, if_neg h50]; exact ⟨rfl, hR⟩)
                        · refine J_cst 209 jw hj rfl rfl rfl ?_
                          exact J_ret rfl (Or.inl rfl) (fun aw hR => by show _ ∧ _; unfold f_X12_operand; rw [if_pos h0, if_pos h18, if_neg h36, if_neg h37, if_neg h38, if_pos h39, if_pos h41, if_neg h42, if_pos h43, if_neg h48, if_neg h49, if_pos h50]; exact ⟨rfl, hR⟩)
                      · refine J_ld 177 jw hj rfl rfl rfl rfl ?_
                        refine J_cst 178 jw hj rfl rfl rfl ?_
                        refine J_ld 179 jw hj rfl rfl rfl rfl ?_
                        refine J_gfR (k := 31) jw hj rfl (evn rfl) (by decide) (by decide) (RMa (rp_X12_next (upI H 29 47 (iAdd (H.1 29 47) 1)) hr).1 rfl) ?_
                        refine J_cst 183 jw hj rfl rfl rfl ?_
                        refine J_iald jw hj rfl (Or.inl rfl) (fun z66 r66 => ?_)
                        refine J_callV1 jw rfl (Or.inl ⟨_, rfl⟩) rfl rfl (sp_X12_looksAt (g := g) 0 ((f_X12_next (upI H 29 47 (iAdd (H.1 29 47) 1))).1 31 0) (upI (f_X12_next (upI H 29 47 (iAdd (H.1 29 47) 1))) 29 50 1) (rp_X12_next (upI H 29 47 (iAdd (H.1 29 47) 1)) hr).1) ?_
                        refine J_goto 201 jw hj rfl rfl ?_
                        refine J_st 203 [rf (g 29), pt (f_X12_isWord 7237492 H), pt (f_X12_isSign 40 H), pt (f_X12_leafOf H), pt ((f_X12_looksAt 0 ((f_X12_next (upI H 29 47 (iAdd (H.1 29 47) 1))).1 31 0) (upI (f_X12_next (upI H 29 47 (iAdd (H.1 29 47) 1))) 29 50 1)).1)] (k := 4) jw hj rfl (Or.inl ⟨rfl, rfl⟩) rfl ?_
                        refine J_ld 205 jw hj rfl rfl rfl rfl ?_
                        refine J_ifc (t := 210) jw hj rfl (evn rfl) rfl (fun (h51 : ¬ ((f_X12_looksAt 0 ((f_X12_next (upI H 29 47 (iAdd (H.1 29 47) 1))).1 31 0) (upI (f_X12_next (upI H 29 47 (iAdd (H.1 29 47) 1))) 29 50 1)).1) = 0) => ?_) (fun (h51 : ((f_X12_looksAt 0 ((f_X12_next (upI H 29 47 (iAdd (H.1 29 47) 1))).1 31 0) (upI (f_X12_next (upI H 29 47 (iAdd (H.1 29 47) 1))) 29 50 1)).1) = 0) => ?_)
                        · refine J_ld 211 jw hj rfl rfl rfl rfl ?_
                          refine J_ld 212 jw hj rfl rfl rfl rfl ?_
                          refine J_cst 213 jw hj rfl rfl rfl ?_
                          refine J_ld 214 jw hj rfl rfl rfl rfl ?_
                          refine J_gfI jw hj rfl (evn rfl) (by decide) rfl (fun r67 => ?_)
                          refine J_callV0 jw rfl (Or.inl ⟨_, rfl⟩) rfl rfl (sp_X12_code (g := g) (f_X12_leafOf H) 0 ((f_X12_looksAt 0 ((f_X12_next (upI H 29 47 (iAdd (H.1 29 47) 1))).1 31 0) (upI (f_X12_next (upI H 29 47 (iAdd (H.1 29 47) 1))) 29 50 1)).2.1 29 18) (f_X12_looksAt 0 ((f_X12_next (upI H 29 47 (iAdd (H.1 29 47) 1))).1 31 0) (upI (f_X12_next (upI H 29 47 (iAdd (H.1 29 47) 1))) 29 50 1)).2 (rp_X12_looksAt 0 ((f_X12_next (upI H 29 47 (iAdd (H.1 29 47) 1))).1 31 0) (upI (f_X12_next (upI H 29 47 (iAdd (H.1 29 47) 1))) 29 50 1) (rp_X12_next (upI H 29 47 (iAdd (H.1 29 47) 1)) hr))) ?_
                          refine J_ld 221 jw hj rfl rfl rfl rfl ?_
                          refine J_callV0 jw rfl (Or.inl ⟨_, rfl⟩) rfl rfl (sp_X12_next (g := g) (f_X12_code (f_X12_leafOf H) 0 ((f_X12_looksAt 0 ((f_X12_next (upI H 29 47 (iAdd (H.1 29 47) 1))).1 31 0) (upI (f_X12_next (upI H 29 47 (iAdd (H.1 29 47) 1))) 29 50 1)).2.1 29 18) (f_X12_looksAt 0 ((f_X12_next (upI H 29 47 (iAdd (H.1 29 47) 1))).1 31 0) (upI (f_X12_next (upI H 29 47 (iAdd (H.1 29 47) 1))) 29 50 1)).2) (rp_X12_code (f_X12_leafOf H) 0 ((f_X12_looksAt 0 ((f_X12_next (upI H 29 47 (iAdd (H.1 29 47) 1))).1 31 0) (upI (f_X12_next (upI H 29 47 (iAdd (H.1 29 47) 1))) 29 50 1)).2.1 29 18) (f_X12_looksAt 0 ((f_X12_next (upI H 29 47 (iAdd (H.1 29 47) 1))).1 31 0) (upI (f_X12_next (upI H 29 47 (iAdd (H.1 29 47) 1))) 29 50 1)).2 (rp_X12_looksAt 0 ((f_X12_next (upI H 29 47 (iAdd (H.1 29 47) 1))).1 31 0) (upI (f_X12_next (upI H 29 47 (iAdd (H.1 29 47) 1))) 29 50 1) (rp_X12_next (upI H 29 47 (iAdd (H.1 29 47) 1)) hr))).1) ?_
                          refine J_cst 225 jw hj rfl rfl rfl ?_
                          exact J_ret rfl (Or.inl rfl) (fun aw hR => by show _ ∧ _; unfold f_X12_operand; rw [if_pos h0, if_pos h18, if_neg h36, if_neg h37, if_neg h38, if_pos h39, if_pos h41, if_neg h42, if_pos h43, if_neg h48, if_pos h49, if_neg h51]; exact ⟨rfl, hR⟩)
                        · refine J_cst 209 jw hj rfl rfl rfl ?_
                          exact J_ret rfl (Or.inl rfl) (fun aw hR => by show _ ∧ _; unfold f_X12_operand; rw [if_pos h0, if_pos h18, if_neg h36, if_neg h37, if_neg h38, if_pos h39, if_pos h41, if_neg h42, if_pos h43, if_neg h48, if_pos h49, if_pos h51]; exact ⟨rfl, hR⟩)
                    · refine J_ld 157 jw hj rfl rfl rfl rfl ?_
                      refine J_cst 159 jw hj rfl rfl rfl ?_
                      refine J_ld 160 jw hj rfl rfl rfl rfl ?_
                      refine J_gfR (k := 31) jw hj rfl (evn rfl) (by decide) (by decide) (RMa (rp_X12_next (upI H 29 47 (iAdd (H.1 29 47) 1)) hr).1 rfl) ?_
                      refine J_cst 164 jw hj rfl rfl rfl ?_
                      refine J_iald jw hj rfl (Or.inl rfl) (fun z68 r68 => ?_)
                      refine J_callV1 jw rfl (Or.inl ⟨_, rfl⟩) rfl rfl (sp_X12_looksAt (g := g) 17 ((f_X12_next (upI H 29 47 (iAdd (H.1 29 47) 1))).1 31 3) (upI (f_X12_next (upI H 29 47 (iAdd (H.1 29 47) 1))) 29 50 1) (rp_X12_next (upI H 29 47 (iAdd (H.1 29 47) 1)) hr).1) ?_
                      refine J_goto 201 jw hj rfl rfl ?_
                      refine J_st 203 [rf (g 29), pt (f_X12_isWord 7237492 H), pt (f_X12_isSign 40 H), pt (f_X12_leafOf H), pt ((f_X12_looksAt 17 ((f_X12_next (upI H 29 47 (iAdd (H.1 29 47) 1))).1 31 3) (upI (f_X12_next (upI H 29 47 (iAdd (H.1 29 47) 1))) 29 50 1)).1)] (k := 4) jw hj rfl (Or.inl ⟨rfl, rfl⟩) rfl ?_
                      refine J_ld 205 jw hj rfl rfl rfl rfl ?_
                      refine J_ifc (t := 210) jw hj rfl (evn rfl) rfl (fun (h52 : ¬ ((f_X12_looksAt 17 ((f_X12_next (upI H 29 47 (iAdd (H.1 29 47) 1))).1 31 3) (upI (f_X12_next (upI H 29 47 (iAdd (H.1 29 47) 1))) 29 50 1)).1) = 0) => ?_) (fun (h52 : ((f_X12_looksAt 17 ((f_X12_next (upI H 29 47 (iAdd (H.1 29 47) 1))).1 31 3) (upI (f_X12_next (upI H 29 47 (iAdd (H.1 29 47) 1))) 29 50 1)).1) = 0) => ?_)
                      · refine J_ld 211 jw hj rfl rfl rfl rfl ?_
                        refine J_ld 212 jw hj rfl rfl rfl rfl ?_
                        refine J_cst 213 jw hj rfl rfl rfl ?_
                        refine J_ld 214 jw hj rfl rfl rfl rfl ?_
                        refine J_gfI jw hj rfl (evn rfl) (by decide) rfl (fun r69 => ?_)
                        refine J_callV0 jw rfl (Or.inl ⟨_, rfl⟩) rfl rfl (sp_X12_code (g := g) (f_X12_leafOf H) 0 ((f_X12_looksAt 17 ((f_X12_next (upI H 29 47 (iAdd (H.1 29 47) 1))).1 31 3) (upI (f_X12_next (upI H 29 47 (iAdd (H.1 29 47) 1))) 29 50 1)).2.1 29 18) (f_X12_looksAt 17 ((f_X12_next (upI H 29 47 (iAdd (H.1 29 47) 1))).1 31 3) (upI (f_X12_next (upI H 29 47 (iAdd (H.1 29 47) 1))) 29 50 1)).2 (rp_X12_looksAt 17 ((f_X12_next (upI H 29 47 (iAdd (H.1 29 47) 1))).1 31 3) (upI (f_X12_next (upI H 29 47 (iAdd (H.1 29 47) 1))) 29 50 1) (rp_X12_next (upI H 29 47 (iAdd (H.1 29 47) 1)) hr))) ?_
                        refine J_ld 221 jw hj rfl rfl rfl rfl ?_
                        refine J_callV0 jw rfl (Or.inl ⟨_, rfl⟩) rfl rfl (sp_X12_next (g := g) (f_X12_code (f_X12_leafOf H) 0 ((f_X12_looksAt 17 ((f_X12_next (upI H 29 47 (iAdd (H.1 29 47) 1))).1 31 3) (upI (f_X12_next (upI H 29 47 (iAdd (H.1 29 47) 1))) 29 50 1)).2.1 29 18) (f_X12_looksAt 17 ((f_X12_next (upI H 29 47 (iAdd (H.1 29 47) 1))).1 31 3) (upI (f_X12_next (upI H 29 47 (iAdd (H.1 29 47) 1))) 29 50 1)).2) (rp_X12_code (f_X12_leafOf H) 0 ((f_X12_looksAt 17 ((f_X12_next (upI H 29 47 (iAdd (H.1 29 47) 1))).1 31 3) (upI (f_X12_next (upI H 29 47 (iAdd (H.1 29 47) 1))) 29 50 1)).2.1 29 18) (f_X12_looksAt 17 ((f_X12_next (upI H 29 47 (iAdd (H.1 29 47) 1))).1 31 3) (upI (f_X12_next (upI H 29 47 (iAdd (H.1 29 47) 1))) 29 50 1)).2 (rp_X12_looksAt 17 ((f_X12_next (upI H 29 47 (iAdd (H.1 29 47) 1))).1 31 3) (upI (f_X12_next (upI H 29 47 (iAdd (H.1 29 47) 1))) 29 50 1) (rp_X12_next (upI H 29 47 (iAdd (H.1 29 47) 1)) hr))).1) ?_
                        refine J_cst 225 jw hj rfl rfl rfl ?_
                        exact J_ret rfl (Or.inl rfl) (fun aw hR => by show _ ∧ _; unfold f_X12_operand; rw [if_pos h0, if_pos h18, if_neg h36, if_neg h37, if_neg h38, if_pos h39, if_pos h41, if_neg h42, if_pos h43, if_pos h48, if_neg h52]; exact ⟨rfl, hR⟩)
                      · refine J_cst 209 jw hj rfl rfl rfl ?_
                        exact J_ret rfl (Or.inl rfl) (fun aw hR => by show _ ∧ _; unfold f_X12_operand; rw [if_pos h0, if_pos h18, if_neg h36, if_neg h37, if_neg h38, if_pos h39, if_pos h41, if_neg h42, if_pos h43, if_pos h48, if_pos h52]; exact ⟨rfl, hR⟩)
                · refine J_ld 137 jw hj rfl rfl rfl rfl ?_
                  refine J_ld 138 jw hj rfl rfl rfl rfl ?_
                  refine J_cst 139 jw hj rfl rfl rfl ?_
                  refine J_cst 140 jw hj rfl rfl rfl ?_
                  refine J_callV0 jw rfl (Or.inl ⟨_, rfl⟩) rfl rfl (sp_X12_code (g := g) (f_X12_leafOf H) 0 0 (upI (f_X12_next (upI H 29 47 (iAdd (H.1 29 47) 1))) 29 50 1) (rp_X12_next (upI H 29 47 (iAdd (H.1 29 47) 1)) hr)) ?_
                  refine J_cst 144 jw hj rfl rfl rfl ?_
                  exact J_ret rfl (Or.inl rfl) (fun aw hR => by show _ ∧ _; unfold f_X12_operand; rw [if_pos h0, if_pos h18, if_neg h36, if_neg h37, if_neg h38, if_pos h39, if_pos h41, if_pos h42]; exact ⟨rfl, hR⟩)
              · refine J_ld 85 jw hj rfl rfl rfl rfl ?_
                refine J_gfR (k := 46) jw hj rfl (evn rfl) (by decide) (by decide) (rp_X12_next (upI H 29 47 (iAdd (H.1 29 47) 1)) hr).2 ?_
                refine J_ld 89 jw hj rfl rfl rfl rfl ?_
                refine J_gfI jw hj rfl (evn rfl) (by decide) rfl (fun r70 => ?_)
                refine J_ld 93 jw hj rfl rfl rfl rfl ?_
                refine J_ifc (t := 101) jw hj rfl (evn rfl) rfl (fun (h53 : f_X12_isWord 7237492 H = 0) => ?_) (fun (h53 : ¬ f_X12_isWord 7237492 H = 0) => ?_)
                · refine J_cst 103 jw hj rfl rfl rfl ?_
                  refine J_iast jw hj rfl (Or.inl rfl) (fun _ => ?_)
                  refine J_ld 105 jw hj rfl rfl rfl rfl ?_
                  refine J_dup 106 jw hj rfl rfl ?_
                  refine J_gfI jw hj rfl (evn rfl) (by decide) rfl (fun r71 => ?_)
                  refine J_cst 110 jw hj rfl rfl rfl ?_
                  refine J_bin jw hj rfl rfl ?_
                  refine J_pfI jw hj rfl (evn rfl) rfl ?_
                  refine J_ld 115 jw hj rfl rfl rfl rfl ?_
                  refine J_dup 116 jw hj rfl rfl ?_
                  refine J_gfI jw hj rfl (evn rfl) (by decide) rfl (fun r72 => ?_)
                  refine J_cst 120 jw hj rfl rfl rfl ?_
                  refine J_bin jw hj rfl rfl ?_
                  refine J_pfI jw hj rfl (evn rfl) rfl ?_
                  refine J_cst 125 jw hj rfl rfl rfl ?_
                  exact J_ret rfl (Or.inl rfl) (fun aw hR => by show _ ∧ _; unfold f_X12_operand; rw [if_pos h0, if_pos h18, if_neg h36, if_neg h37, if_neg h38, if_pos h39, if_neg h41, if_pos h53]; exact ⟨rfl, hR⟩)
                · refine J_cst 98 jw hj rfl rfl rfl ?_
                  refine J_goto 103 jw hj rfl rfl ?_
                  refine J_iast jw hj rfl (Or.inl rfl) (fun _ => ?_)
                  refine J_ld 105 jw hj rfl rfl rfl rfl ?_
                  refine J_dup 106 jw hj rfl rfl ?_
                  refine J_gfI jw hj rfl (evn rfl) (by decide) rfl (fun r73 => ?_)
                  refine J_cst 110 jw hj rfl rfl rfl ?_
                  refine J_bin jw hj rfl rfl ?_
                  refine J_pfI jw hj rfl (evn rfl) rfl ?_
                  refine J_ld 115 jw hj rfl rfl rfl rfl ?_
                  refine J_dup 116 jw hj rfl rfl ?_
                  refine J_gfI jw hj rfl (evn rfl) (by decide) rfl (fun r74 => ?_)
                  refine J_cst 120 jw hj rfl rfl rfl ?_
                  refine J_bin jw hj rfl rfl ?_
                  refine J_pfI jw hj rfl (evn rfl) rfl ?_
                  refine J_cst 125 jw hj rfl rfl rfl ?_
                  exact J_ret rfl (Or.inl rfl) (fun aw hR => by show _ ∧ _; unfold f_X12_operand; rw [if_pos h0, if_pos h18, if_neg h36, if_neg h37, if_neg h38, if_pos h39, if_neg h41, if_neg h53]; exact ⟨rfl, hR⟩)
          · refine J_ld 57 jw hj rfl rfl rfl rfl ?_
            refine J_cst 58 jw hj rfl rfl rfl ?_
            refine J_callV1 jw rfl (Or.inl ⟨_, rfl⟩) rfl rfl (sp_X12_bad (g := g) 4 H) ?_
            exact J_ret rfl (Or.inl rfl) (fun aw hR => by show _ ∧ _; unfold f_X12_operand; rw [if_pos h0, if_pos h18, if_neg h36, if_neg h37, if_pos h38]; exact ⟨rfl, hR⟩)
      · refine J_ld 33 jw hj rfl rfl rfl rfl ?_
        refine J_cst 34 jw hj rfl rfl rfl ?_
        refine J_callV1 jw rfl (Or.inl ⟨_, rfl⟩) rfl rfl (sp_X12_bad (g := g) 1 H) ?_
        exact J_ret rfl (Or.inl rfl) (fun aw hR => by show _ ∧ _; unfold f_X12_operand; rw [if_pos h0, if_pos h18, if_pos h36]; exact ⟨rfl, hR⟩)
theorem rp_X12_operand {P : (Nat → Nat → Option Nat) → Prop}  (H : hH) (hr : P H.2.2.1) : P (f_X12_operand H).2.2.2.1 := by
  unfold f_X12_operand
  by_cases q1 : f_X12_isWord 7237492 H = 0
  · rw [if_pos q1]
    by_cases q2 : f_X12_isSign 40 H = 0
    · rw [if_pos q2]
      by_cases q3 : f_X12_leafOf H < 0
      · rw [if_pos q3]
        exact (rp_X12_bad 1 H hr)
      · rw [if_neg q3]
        by_cases q4 : H.1 29 47 = 20
        · rw [if_pos q4]
          exact (rp_X12_bad 4 H hr)
        · rw [if_neg q4]
          by_cases q5 : 8 < H.1 29 49
          · rw [if_pos q5]
            exact (rp_X12_bad 4 H hr)
          · rw [if_neg q5]
            by_cases q6 : f_X12_isWord 7237492 H = 0
            · rw [if_pos q6]
              by_cases q7 : f_X12_isSign 40 H = 0
              · rw [if_pos q7]
                by_cases q8 : f_X12_leafOf H < 3
                · rw [if_pos q8]
                  exact (rp_X12_code (f_X12_leafOf H) 0 0 (upI (f_X12_next (upI H 29 47 (iAdd (H.1 29 47) 1))) 29 50 1) (rp_X12_next (upI H 29 47 (iAdd (H.1 29 47) 1)) hr))
                · rw [if_neg q8]
                  by_cases q9 : f_X12_leafOf H < 6
                  · rw [if_pos q9]
                    by_cases q10 : f_X12_leafOf H = 3
                    · rw [if_pos q10]
                      by_cases q11 : ((f_X12_looksAt 17 ((f_X12_next (upI H 29 47 (iAdd (H.1 29 47) 1))).1 31 3) (upI (f_X12_next (upI H 29 47 (iAdd (H.1 29 47) 1))) 29 50 1)).1) = 0
                      · rw [if_pos q11]
                        exact (rp_X12_looksAt 17 ((f_X12_next (upI H 29 47 (iAdd (H.1 29 47) 1))).1 31 3) (upI (f_X12_next (upI H 29 47 (iAdd (H.1 29 47) 1))) 29 50 1) (rp_X12_next (upI H 29 47 (iAdd (H.1 29 47) 1)) hr))
                      · rw [if_neg q11]
                        exact (rp_X12_next (f_X12_code (f_X12_leafOf H) 0 ((f_X12_looksAt 17 ((f_X12_next (upI H 29 47 (iAdd (H.1 29 47) 1))).1 31 3) (upI (f_X12_next (upI H 29 47 (iAdd (H.1 29 47) 1))) 29 50 1)).2.1 29 18) (f_X12_looksAt 17 ((f_X12_next (upI H 29 47 (iAdd (H.1 29 47) 1))).1 31 3) (upI (f_X12_next (upI H 29 47 (iAdd (H.1 29 47) 1))) 29 50 1)).2) (rp_X12_code (f_X12_leafOf H) 0 ((f_X12_looksAt 17 ((f_X12_next (upI H 29 47 (iAdd (H.1 29 47) 1))).1 31 3) (upI (f_X12_next (upI H 29 47 (iAdd (H.1 29 47) 1))) 29 50 1)).2.1 29 18) (f_X12_looksAt 17 ((f_X12_next (upI H 29 47 (iAdd (H.1 29 47) 1))).1 31 3) (upI (f_X12_next (upI H 29 47 (iAdd (H.1 29 47) 1))) 29 50 1)).2 (rp_X12_looksAt 17 ((f_X12_next (upI H 29 47 (iAdd (H.1 29 47) 1))).1 31 3) (upI (f_X12_next (upI H 29 47 (iAdd (H.1 29 47) 1))) 29 50 1) (rp_X12_next (upI H 29 47 (iAdd (H.1 29 47) 1)) hr))))
                    · rw [if_neg q10]
                      by_cases q11 : f_X12_leafOf H = 4
                      · rw [if_pos q11]
                        by_cases q12 : ((f_X12_looksAt 0 ((f_X12_next (upI H 29 47 (iAdd (H.1 29 47) 1))).1 31 0) (upI (f_X12_next (upI H 29 47 (iAdd (H.1 29 47) 1))) 29 50 1)).1) = 0
                        · rw [if_pos q12]
                          exact (rp_X12_looksAt 0 ((f_X12_next (upI H 29 47 (iAdd (H.1 29 47) 1))).1 31 0) (upI (f_X12_next (upI H 29 47 (iAdd (H.1 29 47) 1))) 29 50 1) (rp_X12_next (upI H 29 47 (iAdd (H.1 29 47) 1)) hr))
                        · rw [if_neg q12]
                          exact (rp_X12_next (f_X12_code (f_X12_leafOf H) 0 ((f_X12_looksAt 0 ((f_X12_next (upI H 29 47 (iAdd (H.1 29 47) 1))).1 31 0) (upI (f_X12_next (upI H 29 47 (iAdd (H.1 29 47) 1))) 29 50 1)).2.1 29 18) (f_X12_looksAt 0 ((f_X12_next (upI H 29 47 (iAdd (H.1 29 47) 1))).1 31 0) (upI (f_X12_next (upI H 29 47 (iAdd (H.1 29 47) 1))) 29 50 1)).2) (rp_X12_code (f_X12_leafOf H) 0 ((f_X12_looksAt 0 ((f_X12_next (upI H 29 47 (iAdd (H.1 29 47) 1))).1 31 0) (upI (f_X12_next (upI H 29 47 (iAdd (H.1 29 47) 1))) 29 50 1)).2.1 29 18) (f_X12_looksAt 0 ((f_X12_next (upI H 29 47 (iAdd (H.1 29 47) 1))).1 31 0) (upI (f_X12_next (upI H 29 47 (iAdd (H.1 29 47) 1))) 29 50 1)).2 (rp_X12_looksAt 0 ((f_X12_next (upI H 29 47 (iAdd (H.1 29 47) 1))).1 31 0) (upI (f_X12_next (upI H 29 47 (iAdd (H.1 29 47) 1))) 29 50 1) (rp_X12_next (upI H 29 47 (iAdd (H.1 29 47) 1)) hr))))
                      · rw [if_neg q11]
                        by_cases q12 : ((f_X12_looksAt 4 ((f_X12_next (upI H 29 47 (iAdd (H.1 29 47) 1))).1 31 1) (upI (f_X12_next (upI H 29 47 (iAdd (H.1 29 47) 1))) 29 50 1)).1) = 0
                        · rw [if_pos q12]
                          exact (rp_X12_looksAt 4 ((f_X12_next (upI H 29 47 (iAdd (H.1 29 47) 1))).1 31 1) (upI (f_X12_next (upI H 29 47 (iAdd (H.1 29 47) 1))) 29 50 1) (rp_X12_next (upI H 29 47 (iAdd (H.1 29 47) 1)) hr))
                        · rw [if_neg q12]
                          exact (rp_X12_next (f_X12_code (f_X12_leafOf H) 0 ((f_X12_looksAt 4 ((f_X12_next (upI H 29 47 (iAdd (H.1 29 47) 1))).1 31 1) (upI (f_X12_next (upI H 29 47 (iAdd (H.1 29 47) 1))) 29 50 1)).2.1 29 18) (f_X12_looksAt 4 ((f_X12_next (upI H 29 47 (iAdd (H.1 29 47) 1))).1 31 1) (upI (f_X12_next (upI H 29 47 (iAdd (H.1 29 47) 1))) 29 50 1)).2) (rp_X12_code (f_X12_leafOf H) 0 ((f_X12_looksAt 4 ((f_X12_next (upI H 29 47 (iAdd (H.1 29 47) 1))).1 31 1) (upI (f_X12_next (upI H 29 47 (iAdd (H.1 29 47) 1))) 29 50 1)).2.1 29 18) (f_X12_looksAt 4 ((f_X12_next (upI H 29 47 (iAdd (H.1 29 47) 1))).1 31 1) (upI (f_X12_next (upI H 29 47 (iAdd (H.1 29 47) 1))) 29 50 1)).2 (rp_X12_looksAt 4 ((f_X12_next (upI H 29 47 (iAdd (H.1 29 47) 1))).1 31 1) (upI (f_X12_next (upI H 29 47 (iAdd (H.1 29 47) 1))) 29 50 1) (rp_X12_next (upI H 29 47 (iAdd (H.1 29 47) 1)) hr))))
                  · rw [if_neg q9]
                    by_cases q10 : ((f_X12_next (upI H 29 47 (iAdd (H.1 29 47) 1))).1 29 11) = 3
                    · rw [if_pos q10]
                      by_cases q11 : ((f_X12_next (upI H 29 47 (iAdd (H.1 29 47) 1))).1 29 14) < 60
                      · rw [if_pos q11]
                        exact (rp_X12_bad 1 (upI (f_X12_next (upI H 29 47 (iAdd (H.1 29 47) 1))) 29 50 1) (rp_X12_next (upI H 29 47 (iAdd (H.1 29 47) 1)) hr))
                      · rw [if_neg q11]
                        by_cases q12 : 62 < ((f_X12_next (upI H 29 47 (iAdd (H.1 29 47) 1))).1 29 14)
                        · rw [if_pos q12]
                          exact (rp_X12_bad 1 (upI (f_X12_next (upI H 29 47 (iAdd (H.1 29 47) 1))) 29 50 1) (rp_X12_next (upI H 29 47 (iAdd (H.1 29 47) 1)) hr))
                        · rw [if_neg q12]
                          by_cases q13 : ((f_X12_next (upI (f_X12_next (upI H 29 47 (iAdd (H.1 29 47) 1))) 29 50 1)).1 29 11) = 2
                          · rw [if_pos q13]
                            exact (rp_X12_next (f_X12_code (f_X12_leafOf H) ((f_X12_next (upI H 29 47 (iAdd (H.1 29 47) 1))).1 29 14) ((f_X12_next (upI (f_X12_next (upI H 29 47 (iAdd (H.1 29 47) 1))) 29 50 1)).1 29 14) (f_X12_next (upI (f_X12_next (upI H 29 47 (iAdd (H.1 29 47) 1))) 29 50 1))) (rp_X12_code (f_X12_leafOf H) ((f_X12_next (upI H 29 47 (iAdd (H.1 29 47) 1))).1 29 14) ((f_X12_next (upI (f_X12_next (upI H 29 47 (iAdd (H.1 29 47) 1))) 29 50 1)).1 29 14) (f_X12_next (upI (f_X12_next (upI H 29 47 (iAdd (H.1 29 47) 1))) 29 50 1)) (rp_X12_next (upI (f_X12_next (upI H 29 47 (iAdd (H.1 29 47) 1))) 29 50 1) (rp_X12_next (upI H 29 47 (iAdd (H.1 29 47) 1)) hr))))
                          · rw [if_neg q13]
                            exact (rp_X12_bad 1 (f_X12_next (upI (f_X12_next (upI H 29 47 (iAdd (H.1 29 47) 1))) 29 50 1)) (rp_X12_next (upI (f_X12_next (upI H 29 47 (iAdd (H.1 29 47) 1))) 29 50 1) (rp_X12_next (upI H 29 47 (iAdd (H.1 29 47) 1)) hr)))
                    · rw [if_neg q10]
                      exact (rp_X12_bad 1 (upI (f_X12_next (upI H 29 47 (iAdd (H.1 29 47) 1))) 29 50 1) (rp_X12_next (upI H 29 47 (iAdd (H.1 29 47) 1)) hr))
              · rw [if_neg q7]
                by_cases q8 : f_X12_isWord 7237492 H = 0
                · rw [if_pos q8]
                  exact (rp_X12_next (upI H 29 47 (iAdd (H.1 29 47) 1)) hr)
                · rw [if_neg q8]
                  exact (rp_X12_next (upI H 29 47 (iAdd (H.1 29 47) 1)) hr)
            · rw [if_neg q6]
              by_cases q7 : f_X12_isWord 7237492 H = 0
              · rw [if_pos q7]
                exact (rp_X12_next (upI H 29 47 (iAdd (H.1 29 47) 1)) hr)
              · rw [if_neg q7]
                exact (rp_X12_next (upI H 29 47 (iAdd (H.1 29 47) 1)) hr)
    · rw [if_neg q2]
      by_cases q3 : H.1 29 47 = 20
      · rw [if_pos q3]
        exact (rp_X12_bad 4 H hr)
      · rw [if_neg q3]
        by_cases q4 : 8 < H.1 29 49
        · rw [if_pos q4]
          exact (rp_X12_bad 4 H hr)
        · rw [if_neg q4]
          by_cases q5 : f_X12_isWord 7237492 H = 0
          · rw [if_pos q5]
            by_cases q6 : f_X12_isSign 40 H = 0
            · rw [if_pos q6]
              by_cases q7 : f_X12_leafOf H < 3
              · rw [if_pos q7]
                exact (rp_X12_code (f_X12_leafOf H) 0 0 (upI (f_X12_next (upI H 29 47 (iAdd (H.1 29 47) 1))) 29 50 1) (rp_X12_next (upI H 29 47 (iAdd (H.1 29 47) 1)) hr))
              · rw [if_neg q7]
                by_cases q8 : f_X12_leafOf H < 6
                · rw [if_pos q8]
                  by_cases q9 : f_X12_leafOf H = 3
                  · rw [if_pos q9]
                    by_cases q10 : ((f_X12_looksAt 17 ((f_X12_next (upI H 29 47 (iAdd (H.1 29 47) 1))).1 31 3) (upI (f_X12_next (upI H 29 47 (iAdd (H.1 29 47) 1))) 29 50 1)).1) = 0
                    · rw [if_pos q10]
                      exact (rp_X12_looksAt 17 ((f_X12_next (upI H 29 47 (iAdd (H.1 29 47) 1))).1 31 3) (upI (f_X12_next (upI H 29 47 (iAdd (H.1 29 47) 1))) 29 50 1) (rp_X12_next (upI H 29 47 (iAdd (H.1 29 47) 1)) hr))
                    · rw [if_neg q10]
                      exact (rp_X12_next (f_X12_code (f_X12_leafOf H) 0 ((f_X12_looksAt 17 ((f_X12_next (upI H 29 47 (iAdd (H.1 29 47) 1))).1 31 3) (upI (f_X12_next (upI H 29 47 (iAdd (H.1 29 47) 1))) 29 50 1)).2.1 29 18) (f_X12_looksAt 17 ((f_X12_next (upI H 29 47 (iAdd (H.1 29 47) 1))).1 31 3) (upI (f_X12_next (upI H 29 47 (iAdd (H.1 29 47) 1))) 29 50 1)).2) (rp_X12_code (f_X12_leafOf H) 0 ((f_X12_looksAt 17 ((f_X12_next (upI H 29 47 (iAdd (H.1 29 47) 1))).1 31 3) (upI (f_X12_next (upI H 29 47 (iAdd (H.1 29 47) 1))) 29 50 1)).2.1 29 18) (f_X12_looksAt 17 ((f_X12_next (upI H 29 47 (iAdd (H.1 29 47) 1))).1 31 3) (upI (f_X12_next (upI H 29 47 (iAdd (H.1 29 47) 1))) 29 50 1)).2 (rp_X12_looksAt 17 ((f_X12_next (upI H 29 47 (iAdd (H.1 29 47) 1))).1 31 3) (upI (f_X12_next (upI H 29 47 (iAdd (H.1 29 47) 1))) 29 50 1) (rp_X12_next (upI H 29 47 (iAdd (H.1 29 47) 1)) hr))))
                  · rw [if_neg q9]
                    by_cases q10 : f_X12_leafOf H = 4
                    · rw [if_pos q10]
                      by_cases q11 : ((f_X12_looksAt 0 ((f_X12_next (upI H 29 47 (iAdd (H.1 29 47) 1))).1 31 0) (upI (f_X12_next (upI H 29 47 (iAdd (H.1 29 47) 1))) 29 50 1)).1) = 0
                      · rw [if_pos q11]
                        exact (rp_X12_looksAt 0 ((f_X12_next (upI H 29 47 (iAdd (H.1 29 47) 1))).1 31 0) (upI (f_X12_next (upI H 29 47 (iAdd (H.1 29 47) 1))) 29 50 1) (rp_X12_next (upI H 29 47 (iAdd (H.1 29 47) 1)) hr))
                      · rw [if_neg q11]
                        exact (rp_X12_next (f_X12_code (f_X12_leafOf H) 0 ((f_X12_looksAt 0 ((f_X12_next (upI H 29 47 (iAdd (H.1 29 47) 1))).1 31 0) (upI (f_X12_next (upI H 29 47 (iAdd (H.1 29 47) 1))) 29 50 1)).2.1 29 18) (f_X12_looksAt 0 ((f_X12_next (upI H 29 47 (iAdd (H.1 29 47) 1))).1 31 0) (upI (f_X12_next (upI H 29 47 (iAdd (H.1 29 47) 1))) 29 50 1)).2) (rp_X12_code (f_X12_leafOf H) 0 ((f_X12_looksAt 0 ((f_X12_next (upI H 29 47 (iAdd (H.1 29 47) 1))).1 31 0) (upI (f_X12_next (upI H 29 47 (iAdd (H.1 29 47) 1))) 29 50 1)).2.1 29 18) (f_X12_looksAt 0 ((f_X12_next (upI H 29 47 (iAdd (H.1 29 47) 1))).1 31 0) (upI (f_X12_next (upI H 29 47 (iAdd (H.1 29 47) 1))) 29 50 1)).2 (rp_X12_looksAt 0 ((f_X12_next (upI H 29 47 (iAdd (H.1 29 47) 1))).1 31 0) (upI (f_X12_next (upI H 29 47 (iAdd (H.1 29 47) 1))) 29 50 1) (rp_X12_next (upI H 29 47 (iAdd (H.1 29 47) 1)) hr))))
                    · rw [if_neg q10]
                      by_cases q11 : ((f_X12_looksAt 4 ((f_X12_next (upI H 29 47 (iAdd (H.1 29 47) 1))).1 31 1) (upI (f_X12_next (upI H 29 47 (iAdd (H.1 29 47) 1))) 29 50 1)).1) = 0
                      · rw [if_pos q11]
                        exact (rp_X12_looksAt 4 ((f_X12_next (upI H 29 47 (iAdd (H.1 29 47) 1))).1 31 1) (upI (f_X12_next (upI H 29 47 (iAdd (H.1 29 47) 1))) 29 50 1) (rp_X12_next (upI H 29 47 (iAdd (H.1 29 47) 1)) hr))
                      · rw [if_neg q11]
                        exact (rp_X12_next (f_X12_code (f_X12_leafOf H) 0 ((f_X12_looksAt 4 ((f_X12_next (upI H 29 47 (iAdd (H.1 29 47) 1))).1 31 1) (upI (f_X12_next (upI H 29 47 (iAdd (H.1 29 47) 1))) 29 50 1)).2.1 29 18) (f_X12_looksAt 4 ((f_X12_next (upI H 29 47 (iAdd (H.1 29 47) 1))).1 31 1) (upI (f_X12_next (upI H 29 47 (iAdd (H.1 29 47) 1))) 29 50 1)).2) (rp_X12_code (f_X12_leafOf H) 0 ((f_X12_looksAt 4 ((f_X12_next (upI H 29 47 (iAdd (H.1 29 47) 1))).1 31 1) (upI (f_X12_next (upI H 29 47 (iAdd (H.1 29 47) 1))) 29 50 1)).2.1 29 18) (f_X12_looksAt 4 ((f_X12_next (upI H 29 47 (iAdd (H.1 29 47) 1))).1 31 1) (upI (f_X12_next (upI H 29 47 (iAdd (H.1 29 47) 1))) 29 50 1)).2 (rp_X12_looksAt 4 ((f_X12_next (upI H 29 47 (iAdd (H.1 29 47) 1))).1 31 1) (upI (f_X12_next (upI H 29 47 (iAdd (H.1 29 47) 1))) 29 50 1) (rp_X12_next (upI H 29 47 (iAdd (H.1 29 47) 1)) hr))))
                · rw [if_neg q8]
                  by_cases q9 : ((f_X12_next (upI H 29 47 (iAdd (H.1 29 47) 1))).1 29 11) = 3
                  · rw [if_pos q9]
                    by_cases q10 : ((f_X12_next (upI H 29 47 (iAdd (H.1 29 47) 1))).1 29 14) < 60
                    · rw [if_pos q10]
                      exact (rp_X12_bad 1 (upI (f_X12_next (upI H 29 47 (iAdd (H.1 29 47) 1))) 29 50 1) (rp_X12_next (upI H 29 47 (iAdd (H.1 29 47) 1)) hr))
                    · rw [if_neg q10]
                      by_cases q11 : 62 < ((f_X12_next (upI H 29 47 (iAdd (H.1 29 47) 1))).1 29 14)
                      · rw [if_pos q11]
                        exact (rp_X12_bad 1 (upI (f_X12_next (upI H 29 47 (iAdd (H.1 29 47) 1))) 29 50 1) (rp_X12_next (upI H 29 47 (iAdd (H.1 29 47) 1)) hr))
                      · rw [if_neg q11]
                        by_cases q12 : ((f_X12_next (upI (f_X12_next (upI H 29 47 (iAdd (H.1 29 47) 1))) 29 50 1)).1 29 11) = 2
                        · rw [if_pos q12]
                          exact (rp_X12_next (f_X12_code (f_X12_leafOf H) ((f_X12_next (upI H 29 47 (iAdd (H.1 29 47) 1))).1 29 14) ((f_X12_next (upI (f_X12_next (upI H 29 47 (iAdd (H.1 29 47) 1))) 29 50 1)).1 29 14) (f_X12_next (upI (f_X12_next (upI H 29 47 (iAdd (H.1 29 47) 1))) 29 50 1))) (rp_X12_code (f_X12_leafOf H) ((f_X12_next (upI H 29 47 (iAdd (H.1 29 47) 1))).1 29 14) ((f_X12_next (upI (f_X12_next (upI H 29 47 (iAdd (H.1 29 47) 1))) 29 50 1)).1 29 14) (f_X12_next (upI (f_X12_next (upI H 29 47 (iAdd (H.1 29 47) 1))) 29 50 1)) (rp_X12_next (upI (f_X12_next (upI H 29 47 (iAdd (H.1 29 47) 1))) 29 50 1) (rp_X12_next (upI H 29 47 (iAdd (H.1 29 47) 1)) hr))))
                        · rw [if_neg q12]
                          exact (rp_X12_bad 1 (f_X12_next (upI (f_X12_next (upI H 29 47 (iAdd (H.1 29 47) 1))) 29 50 1)) (rp_X12_next (upI (f_X12_next (upI H 29 47 (iAdd (H.1 29 47) 1))) 29 50 1) (rp_X12_next (upI H 29 47 (iAdd (H.1 29 47) 1)) hr)))
                  · rw [if_neg q9]
                    exact (rp_X12_bad 1 (upI (f_X12_next (upI H 29 47 (iAdd (H.1 29 47) 1))) 29 50 1) (rp_X12_next (upI H 29 47 (iAdd (H.1 29 47) 1)) hr))
            · rw [if_neg q6]
              by_cases q7 : f_X12_isWord 7237492 H = 0
              · rw [if_pos q7]
                exact (rp_X12_next (upI H 29 47 (iAdd (H.1 29 47) 1)) hr)
              · rw [if_neg q7]
                exact (rp_X12_next (upI H 29 47 (iAdd (H.1 29 47) 1)) hr)
          · rw [if_neg q5]
            by_cases q6 : f_X12_isWord 7237492 H = 0
            · rw [if_pos q6]
              exact (rp_X12_next (upI H 29 47 (iAdd (H.1 29 47) 1)) hr)
            · rw [if_neg q6]
              exact (rp_X12_next (upI H 29 47 (iAdd (H.1 29 47) 1)) hr)
  · rw [if_neg q1]
    by_cases q2 : H.1 29 47 = 20
    · rw [if_pos q2]
      exact (rp_X12_bad 4 H hr)
    · rw [if_neg q2]
      by_cases q3 : 8 < H.1 29 49
      · rw [if_pos q3]
        exact (rp_X12_bad 4 H hr)
      · rw [if_neg q3]
        by_cases q4 : f_X12_isWord 7237492 H = 0
        · rw [if_pos q4]
          by_cases q5 : f_X12_isSign 40 H = 0
          · rw [if_pos q5]
            by_cases q6 : f_X12_leafOf H < 3
            · rw [if_pos q6]
              exact (rp_X12_code (f_X12_leafOf H) 0 0 (upI (f_X12_next (upI H 29 47 (iAdd (H.1 29 47) 1))) 29 50 1) (rp_X12_next (upI H 29 47 (iAdd (H.1 29 47) 1)) hr))
            · rw [if_neg q6]
              by_cases q7 : f_X12_leafOf H < 6
              · rw [if_pos q7]
                by_cases q8 : f_X12_leafOf H = 3
                · rw [if_pos q8]
                  by_cases q9 : ((f_X12_looksAt 17 ((f_X12_next (upI H 29 47 (iAdd (H.1 29 47) 1))).1 31 3) (upI (f_X12_next (upI H 29 47 (iAdd (H.1 29 47) 1))) 29 50 1)).1) = 0
                  · rw [if_pos q9]
                    exact (rp_X12_looksAt 17 ((f_X12_next (upI H 29 47 (iAdd (H.1 29 47) 1))).1 31 3) (upI (f_X12_next (upI H 29 47 (iAdd (H.1 29 47) 1))) 29 50 1) (rp_X12_next (upI H 29 47 (iAdd (H.1 29 47) 1)) hr))
                  · rw [if_neg q9]
                    exact (rp_X12_next (f_X12_code (f_X12_leafOf H) 0 ((f_X12_looksAt 17 ((f_X12_next (upI H 29 47 (iAdd (H.1 29 47) 1))).1 31 3) (upI (f_X12_next (upI H 29 47 (iAdd (H.1 29 47) 1))) 29 50 1)).2.1 29 18) (f_X12_looksAt 17 ((f_X12_next (upI H 29 47 (iAdd (H.1 29 47) 1))).1 31 3) (upI (f_X12_next (upI H 29 47 (iAdd (H.1 29 47) 1))) 29 50 1)).2) (rp_X12_code (f_X12_leafOf H) 0 ((f_X12_looksAt 17 ((f_X12_next (upI H 29 47 (iAdd (H.1 29 47) 1))).1 31 3) (upI (f_X12_next (upI H 29 47 (iAdd (H.1 29 47) 1))) 29 50 1)).2.1 29 18) (f_X12_looksAt 17 ((f_X12_next (upI H 29 47 (iAdd (H.1 29 47) 1))).1 31 3) (upI (f_X12_next (upI H 29 47 (iAdd (H.1 29 47) 1))) 29 50 1)).2 (rp_X12_looksAt 17 ((f_X12_next (upI H 29 47 (iAdd (H.1 29 47) 1))).1 31 3) (upI (f_X12_next (upI H 29 47 (iAdd (H.1 29 47) 1))) 29 50 1) (rp_X12_next (upI H 29 47 (iAdd (H.1 29 47) 1)) hr))))
                · rw [if_neg q8]
                  by_cases q9 : f_X12_leafOf H = 4
                  · rw [if_pos q9]
                    by_cases q10 : ((f_X12_looksAt 0 ((f_X12_next (upI H 29 47 (iAdd (H.1 29 47) 1))).1 31 0) (upI (f_X12_next (upI H 29 47 (iAdd (H.1 29 47) 1))) 29 50 1)).1) = 0
                    · rw [if_pos q10]
                      exact (rp_X12_looksAt 0 ((f_X12_next (upI H 29 47 (iAdd (H.1 29 47) 1))).1 31 0) (upI (f_X12_next (upI H 29 47 (iAdd (H.1 29 47) 1))) 29 50 1) (rp_X12_next (upI H 29 47 (iAdd (H.1 29 47) 1)) hr))
                    · rw [if_neg q10]
                      exact (rp_X12_next (f_X12_code (f_X12_leafOf H) 0 ((f_X12_looksAt 0 ((f_X12_next (upI H 29 47 (iAdd (H.1 29 47) 1))).1 31 0) (upI (f_X12_next (upI H 29 47 (iAdd (H.1 29 47) 1))) 29 50 1)).2.1 29 18) (f_X12_looksAt 0 ((f_X12_next (upI H 29 47 (iAdd (H.1 29 47) 1))).1 31 0) (upI (f_X12_next (upI H 29 47 (iAdd (H.1 29 47) 1))) 29 50 1)).2) (rp_X12_code (f_X12_leafOf H) 0 ((f_X12_looksAt 0 ((f_X12_next (upI H 29 47 (iAdd (H.1 29 47) 1))).1 31 0) (upI (f_X12_next (upI H 29 47 (iAdd (H.1 29 47) 1))) 29 50 1)).2.1 29 18) (f_X12_looksAt 0 ((f_X12_next (upI H 29 47 (iAdd (H.1 29 47) 1))).1 31 0) (upI (f_X12_next (upI H 29 47 (iAdd (H.1 29 47) 1))) 29 50 1)).2 (rp_X12_looksAt 0 ((f_X12_next (upI H 29 47 (iAdd (H.1 29 47) 1))).1 31 0) (upI (f_X12_next (upI H 29 47 (iAdd (H.1 29 47) 1))) 29 50 1) (rp_X12_next (upI H 29 47 (iAdd (H.1 29 47) 1)) hr))))
                  · rw [if_neg q9]
                    by_cases q10 : ((f_X12_looksAt 4 ((f_X12_next (upI H 29 47 (iAdd (H.1 29 47) 1))).1 31 1) (upI (f_X12_next (upI H 29 47 (iAdd (H.1 29 47) 1))) 29 50 1)).1) = 0
                    · rw [if_pos q10]
                      exact (rp_X12_looksAt 4 ((f_X12_next (upI H 29 47 (iAdd (H.1 29 47) 1))).1 31 1) (upI (f_X12_next (upI H 29 47 (iAdd (H.1 29 47) 1))) 29 50 1) (rp_X12_next (upI H 29 47 (iAdd (H.1 29 47) 1)) hr))
                    · rw [if_neg q10]
                      exact (rp_X12_next (f_X12_code (f_X12_leafOf H) 0 ((f_X12_looksAt 4 ((f_X12_next (upI H 29 47 (iAdd (H.1 29 47) 1))).1 31 1) (upI (f_X12_next (upI H 29 47 (iAdd (H.1 29 47) 1))) 29 50 1)).2.1 29 18) (f_X12_looksAt 4 ((f_X12_next (upI H 29 47 (iAdd (H.1 29 47) 1))).1 31 1) (upI (f_X12_next (upI H 29 47 (iAdd (H.1 29 47) 1))) 29 50 1)).2) (rp_X12_code (f_X12_leafOf H) 0 ((f_X12_looksAt 4 ((f_X12_next (upI H 29 47 (iAdd (H.1 29 47) 1))).1 31 1) (upI (f_X12_next (upI H 29 47 (iAdd (H.1 29 47) 1))) 29 50 1)).2.1 29 18) (f_X12_looksAt 4 ((f_X12_next (upI H 29 47 (iAdd (H.1 29 47) 1))).1 31 1) (upI (f_X12_next (upI H 29 47 (iAdd (H.1 29 47) 1))) 29 50 1)).2 (rp_X12_looksAt 4 ((f_X12_next (upI H 29 47 (iAdd (H.1 29 47) 1))).1 31 1) (upI (f_X12_next (upI H 29 47 (iAdd (H.1 29 47) 1))) 29 50 1) (rp_X12_next (upI H 29 47 (iAdd (H.1 29 47) 1)) hr))))
              · rw [if_neg q7]
                by_cases q8 : ((f_X12_next (upI H 29 47 (iAdd (H.1 29 47) 1))).1 29 11) = 3
                · rw [if_pos q8]
                  by_cases q9 : ((f_X12_next (upI H 29 47 (iAdd (H.1 29 47) 1))).1 29 14) < 60
                  · rw [if_pos q9]
                    exact (rp_X12_bad 1 (upI (f_X12_next (upI H 29 47 (iAdd (H.1 29 47) 1))) 29 50 1) (rp_X12_next (upI H 29 47 (iAdd (H.1 29 47) 1)) hr))
                  · rw [if_neg q9]
                    by_cases q10 : 62 < ((f_X12_next (upI H 29 47 (iAdd (H.1 29 47) 1))).1 29 14)
                    · rw [if_pos q10]
                      exact (rp_X12_bad 1 (upI (f_X12_next (upI H 29 47 (iAdd (H.1 29 47) 1))) 29 50 1) (rp_X12_next (upI H 29 47 (iAdd (H.1 29 47) 1)) hr))
                    · rw [if_neg q10]
                      by_cases q11 : ((f_X12_next (upI (f_X12_next (upI H 29 47 (iAdd (H.1 29 47) 1))) 29 50 1)).1 29 11) = 2
                      · rw [if_pos q11]
                        exact (rp_X12_next (f_X12_code (f_X12_leafOf H) ((f_X12_next (upI H 29 47 (iAdd (H.1 29 47) 1))).1 29 14) ((f_X12_next (upI (f_X12_next (upI H 29 47 (iAdd (H.1 29 47) 1))) 29 50 1)).1 29 14) (f_X12_next (upI (f_X12_next (upI H 29 47 (iAdd (H.1 29 47) 1))) 29 50 1))) (rp_X12_code (f_X12_leafOf H) ((f_X12_next (upI H 29 47 (iAdd (H.1 29 47) 1))).1 29 14) ((f_X12_next (upI (f_X12_next (upI H 29 47 (iAdd (H.1 29 47) 1))) 29 50 1)).1 29 14) (f_X12_next (upI (f_X12_next (upI H 29 47 (iAdd (H.1 29 47) 1))) 29 50 1)) (rp_X12_next (upI (f_X12_next (upI H 29 47 (iAdd (H.1 29 47) 1))) 29 50 1) (rp_X12_next (upI H 29 47 (iAdd (H.1 29 47) 1)) hr))))
                      · rw [if_neg q11]
                        exact (rp_X12_bad 1 (f_X12_next (upI (f_X12_next (upI H 29 47 (iAdd (H.1 29 47) 1))) 29 50 1)) (rp_X12_next (upI (f_X12_next (upI H 29 47 (iAdd (H.1 29 47) 1))) 29 50 1) (rp_X12_next (upI H 29 47 (iAdd (H.1 29 47) 1)) hr)))
                · rw [if_neg q8]
                  exact (rp_X12_bad 1 (upI (f_X12_next (upI H 29 47 (iAdd (H.1 29 47) 1))) 29 50 1) (rp_X12_next (upI H 29 47 (iAdd (H.1 29 47) 1)) hr))
          · rw [if_neg q5]
            by_cases q6 : f_X12_isWord 7237492 H = 0
            · rw [if_pos q6]
              exact (rp_X12_next (upI H 29 47 (iAdd (H.1 29 47) 1)) hr)
            · rw [if_neg q6]
              exact (rp_X12_next (upI H 29 47 (iAdd (H.1 29 47) 1)) hr)
        · rw [if_neg q4]
          by_cases q5 : f_X12_isWord 7237492 H = 0
          · rw [if_pos q5]
            exact (rp_X12_next (upI H 29 47 (iAdd (H.1 29 47) 1)) hr)
          · rw [if_neg q5]
            exact (rp_X12_next (upI H 29 47 (iAdd (H.1 29 47) 1)) hr)
def f_X12_behind  (H : hH) : Int × hH :=
  if f_X12_isWord 6385252 (f_X12_nots H) = 0 then
    if f_X12_isWord 28530 (f_X12_nots H) = 0 then
      if f_X12_isSign 41 (f_X12_joins 22 (f_X12_nots H)) = 0 then
        ((f_X12_bad 1 (f_X12_joins 22 (f_X12_nots H))).1, (f_X12_bad 1 (f_X12_joins 22 (f_X12_nots H))).2)
      else
        if ((f_X12_joins 22 (f_X12_nots H)).1 29 48) = 0 then
          ((f_X12_bad 1 (f_X12_joins 22 (f_X12_nots H))).1, (f_X12_bad 1 (f_X12_joins 22 (f_X12_nots H))).2)
        else
          (1, (f_X12_next (upI (upI (f_X12_joins 22 (f_X12_nots H)) 29 48 (iSub ((f_X12_joins 22 (f_X12_nots H)).1 29 48) 1)) 29 49 (iSub ((f_X12_joins 22 (f_X12_nots H)).1 29 49) 1))))
    else
      if f_X12_isWord 6385252 (f_X12_nots H) = 0 then
        if f_X12_isWord 6385252 (f_X12_joins 22 (f_X12_nots H)) = 0 then
          (1, (f_X12_next (upI (upI (upI (f_X12_joins 22 (f_X12_nots H)) 46 ((f_X12_joins 22 (f_X12_nots H)).1 29 48).toNat 22) 29 48 (iAdd ((f_X12_joins 22 (f_X12_nots H)).1 29 48) 1)) 29 50 0)))
        else
          (1, (f_X12_next (upI (upI (upI (f_X12_joins 22 (f_X12_nots H)) 46 ((f_X12_joins 22 (f_X12_nots H)).1 29 48).toNat 21) 29 48 (iAdd ((f_X12_joins 22 (f_X12_nots H)).1 29 48) 1)) 29 50 0)))
      else
        if f_X12_isWord 6385252 (f_X12_joins 21 (f_X12_nots H)) = 0 then
          (1, (f_X12_next (upI (upI (upI (f_X12_joins 21 (f_X12_nots H)) 46 ((f_X12_joins 21 (f_X12_nots H)).1 29 48).toNat 22) 29 48 (iAdd ((f_X12_joins 21 (f_X12_nots H)).1 29 48) 1)) 29 50 0)))
        else
          (1, (f_X12_next (upI (upI (upI (f_X12_joins 21 (f_X12_nots H)) 46 ((f_X12_joins 21 (f_X12_nots H)).1 29 48).toNat 21) 29 48 (iAdd ((f_X12_joins 21 (f_X12_nots H)).1 29 48) 1)) 29 50 0)))
  else
    if f_X12_isWord 6385252 (f_X12_nots H) = 0 then
      if f_X12_isWord 6385252 (f_X12_joins 22 (f_X12_nots H)) = 0 then
        (1, (f_X12_next (upI (upI (upI (f_X12_joins 22 (f_X12_nots H)) 46 ((f_X12_joins 22 (f_X12_nots H)).1 29 48).toNat 22) 29 48 (iAdd ((f_X12_joins 22 (f_X12_nots H)).1 29 48) 1)) 29 50 0)))
      else
        (1, (f_X12_next (upI (upI (upI (f_X12_joins 22 (f_X12_nots H)) 46 ((f_X12_joins 22 (f_X12_nots H)).1 29 48).toNat 21) 29 48 (iAdd ((f_X12_joins 22 (f_X12_nots H)).1 29 48) 1)) 29 50 0)))
    else
      if f_X12_isWord 6385252 (f_X12_joins 21 (f_X12_nots H)) = 0 then
        (1, (f_X12_next (upI (upI (upI (f_X12_joins 21 (f_X12_nots H)) 46 ((f_X12_joins 21 (f_X12_nots H)).1 29 48).toNat 22) 29 48 (iAdd ((f_X12_joins 21 (f_X12_nots H)).1 29 48) 1)) 29 50 0)))
      else
        (1, (f_X12_next (upI (upI (upI (f_X12_joins 21 (f_X12_nots H)) 46 ((f_X12_joins 21 (f_X12_nots H)).1 29 48).toNat 21) 29 48 (iAdd ((f_X12_joins 21 (f_X12_nots H)).1 29 48) 1)) 29 50 0)))
set_option maxHeartbeats 16000000 in
set_option maxRecDepth 100000 in
theorem sp_X12_behind {g : Nat → Nat}  (H : hH) (hr : RMs H.2.2.1) : SP g rvTab rvInf rvRet 316 rvMth 225 [rf (g 29)] H (some (pt (f_X12_behind H).1)) (f_X12_behind H).2 := by
  have hj : 225 < 316 := by decide
  refine J_SP hj (Nat.le_of_ble_eq_true rfl) ?_
  show J g rvTab rvInf rvRet 316 rvMth 225 _ 0 [rf (g 29)] [] H
  refine J_ld 1 jw hj rfl rfl rfl rfl ?_
  refine J_callV0 jw rfl (Or.inl ⟨_, rfl⟩) rfl rfl (sp_X12_nots (g := g) H hr) ?_
  refine J_ld 5 jw hj rfl rfl rfl rfl ?_
  refine J_lc (n := 6385252) 8 jw hj rfl (Or.inr ⟨_, rfl, by decide +kernel, rfl⟩) ?_
  refine J_callV1 jw rfl (Or.inl ⟨_, rfl⟩) rfl rfl (sp_X12_isWord (g := g) 6385252 (f_X12_nots H)) ?_
  refine J_ifc (t := 24) jw hj rfl (evn rfl) rfl (fun (h0 : ¬ f_X12_isWord 6385252 (f_X12_nots H) = 0) => ?_) (fun (h0 : f_X12_isWord 6385252 (f_X12_nots H) = 0) => ?_)
  · refine J_ld 25 jw hj rfl rfl rfl rfl ?_
    refine J_ld 26 jw hj rfl rfl rfl rfl ?_
    refine J_lc (n := 6385252) 29 jw hj rfl (Or.inr ⟨_, rfl, by decide +kernel, rfl⟩) ?_
    refine J_callV1 jw rfl (Or.inl ⟨_, rfl⟩) rfl rfl (sp_X12_isWord (g := g) 6385252 (f_X12_nots H)) ?_
    refine J_ifc (t := 40) jw hj rfl (evn rfl) rfl (fun (h1 : f_X12_isWord 6385252 (f_X12_nots H) = 0) => ?_) (fun (h1 : ¬ f_X12_isWord 6385252 (f_X12_nots H) = 0) => ?_)
    · refine J_cst 42 jw hj rfl rfl rfl ?_
      refine J_callV0 jw rfl (Or.inl ⟨_, rfl⟩) rfl rfl (sp_X12_joins (g := g) 22 (f_X12_nots H) (rp_X12_nots H hr)) ?_
      refine J_ld 46 jw hj rfl rfl rfl rfl ?_
      refine J_gfR (k := 46) jw hj rfl (evn rfl) (by decide) (by decide) (rp_X12_joins 22 (f_X12_nots H) (rp_X12_nots H hr)).2 ?_
      refine J_ld 50 jw hj rfl rfl rfl rfl ?_
      refine J_gfI jw hj rfl (evn rfl) (by decide) rfl (fun r0 => ?_)
      refine J_ld 54 jw hj rfl rfl rfl rfl ?_
      refine J_lc (n := 6385252) 57 jw hj rfl (Or.inr ⟨_, rfl, by decide +kernel, rfl⟩) ?_
      refine J_callV1 jw rfl (Or.inl ⟨_, rfl⟩) rfl rfl (sp_X12_isWord (g := g) 6385252 (f_X12_joins 22 (f_X12_nots H))) ?_
      refine J_ifc (t := 68) jw hj rfl (evn rfl) rfl (fun (h2 : f_X12_isWord 6385252 (f_X12_joins 22 (f_X12_nots H)) = 0) => ?_) (fun (h2 : ¬ f_X12_isWord 6385252 (f_X12_joins 22 (f_X12_nots H)) = 0) => ?_)
      · refine J_cst 70 jw hj rfl rfl rfl ?_
        refine J_iast jw hj rfl (Or.inl rfl) (fun _ => ?_)
        refine J_ld 72 jw hj rfl rfl rfl rfl ?_
        refine J_dup 73 jw hj rfl rfl ?_
        refine J_gfI jw hj rfl (evn rfl) (by decide) rfl (fun r1 => ?_)
        refine J_cst 77 jw hj rfl rfl rfl ?_
        refine J_bin jw hj rfl rfl ?_
        refine J_pfI jw hj rfl (evn rfl) rfl ?_
        refine J_ld 82 jw hj rfl rfl rfl rfl ?_
        refine J_cst 83 jw hj rfl rfl rfl ?_
        refine J_pfI jw hj rfl (evn rfl) rfl ?_
        refine J_ld 87 jw hj rfl rfl rfl rfl ?_
        refine J_callV0 jw rfl (Or.inl ⟨_, rfl⟩) rfl rfl (sp_X12_next (g := g) (upI (upI (upI (f_X12_joins 22 (f_X12_nots H)) 46 ((f_X12_joins 22 (f_X12_nots H)).1 29 48).toNat 22) 29 48 (iAdd ((f_X12_joins 22 (f_X12_nots H)).1 29 48) 1)) 29 50 0) (rp_X12_joins 22 (f_X12_nots H) (rp_X12_nots H hr)).1) ?_
        refine J_cst 91 jw hj rfl rfl rfl ?_
        exact J_ret rfl (Or.inl rfl) (fun aw hR => by show _ ∧ _; unfold f_X12_behind; rw [if_neg h0, if_pos h1, if_pos h2]; exact ⟨rfl, hR⟩)
      · refine J_cst 65 jw hj rfl rfl rfl ?_
        refine J_goto 70 jw hj rfl rfl ?_
        refine J_iast jw hj rfl (Or.inl rfl) (fun _ => ?_)
        refine J_ld 72 jw hj rfl rfl rfl rfl ?_
        refine J_dup 73 jw hj rfl rfl ?_
        refine J_gfI jw hj rfl (evn rfl) (by decide) rfl (fun r2 => ?_)
        refine J_cst 77 jw hj rfl rfl rfl ?_
        refine J_bin jw hj rfl rfl ?_
        refine J_pfI jw hj rfl (evn rfl) rfl ?_
        refine J_ld 82 jw hj rfl rfl rfl rfl ?_
        refine J_cst 83 jw hj rfl rfl rfl ?_
        refine J_pfI jw hj rfl (evn rfl) rfl ?_
        refine J_ld 87 jw hj rfl rfl rfl rfl ?_
        refine J_callV0 jw rfl (Or.inl ⟨_, rfl⟩) rfl rfl (sp_X12_next (g := g) (upI (upI (upI (f_X12_joins 22 (f_X12_nots H)) 46 ((f_X12_joins 22 (f_X12_nots H)).1 29 48).toNat 21) 29 48 (iAdd ((f_X12_joins 22 (f_X12_nots H)).1 29 48) 1)) 29 50 0) (rp_X12_joins 22 (f_X12_nots H) (rp_X12_nots H hr)).1) ?_
        refine J_cst 91 jw hj rfl rfl rfl ?_
        exact J_ret rfl (Or.inl rfl) (fun aw hR => by show _ ∧ _; unfold f_X12_behind; rw [if_neg h0, if_pos h1, if_neg h2]; exact ⟨rfl, hR⟩)
    · refine J_cst 37 jw hj rfl rfl rfl ?_
      refine J_goto 42 jw hj rfl rfl ?_
      refine J_callV0 jw rfl (Or.inl ⟨_, rfl⟩) rfl rfl (sp_X12_joins (g := g) 21 (f_X12_nots H) (rp_X12_nots H hr)) ?_
      refine J_ld 46 jw hj rfl rfl rfl rfl ?_
      refine J_gfR (k := 46) jw hj rfl (evn rfl) (by decide) (by decide) (rp_X12_joins 21 (f_X12_nots H) (rp_X12_nots H hr)).2 ?_
      refine J_ld 50 jw hj rfl rfl rfl rfl ?_
      refine J_gfI jw hj rfl (evn rfl) (by decide) rfl (fun r3 => ?_)
      refine J_ld 54 jw hj rfl rfl rfl rfl ?_
      refine J_lc (n := 6385252) 57 jw hj rfl (Or.inr ⟨_, rfl, by decide +kernel, rfl⟩) ?_
      refine J_callV1 jw rfl (Or.inl ⟨_, rfl⟩) rfl rfl (sp_X12_isWord (g := g) 6385252 (f_X12_joins 21 (f_X12_nots H))) ?_
      refine J_ifc (t := 68) jw hj rfl (evn rfl) rfl (fun (h3 : f_X12_isWord 6385252 (f_X12_joins 21 (f_X12_nots H)) = 0) => ?_) (fun (h3 : ¬ f_X12_isWord 6385252 (f_X12_joins 21 (f_X12_nots H)) = 0) => ?_)
      · refine J_cst 70 jw hj rfl rfl rfl ?_
        refine J_iast jw hj rfl (Or.inl rfl) (fun _ => ?_)
        refine J_ld 72 jw hj rfl rfl rfl rfl ?_
        refine J_dup 73 jw hj rfl rfl ?_
        refine J_gfI jw hj rfl (evn rfl) (by decide) rfl (fun r4 => ?_)
        refine J_cst 77 jw hj rfl rfl rfl ?_
        refine J_bin jw hj rfl rfl ?_
        refine J_pfI jw hj rfl (evn rfl) rfl ?_
        refine J_ld 82 jw hj rfl rfl rfl rfl ?_
        refine J_cst 83 jw hj rfl rfl rfl ?_
        refine J_pfI jw hj rfl (evn rfl) rfl ?_
        refine J_ld 87 jw hj rfl rfl rfl rfl ?_
        refine J_callV0 jw rfl (Or.inl ⟨_, rfl⟩) rfl rfl (sp_X12_next (g := g) (upI (upI (upI (f_X12_joins 21 (f_X12_nots H)) 46 ((f_X12_joins 21 (f_X12_nots H)).1 29 48).toNat 22) 29 48 (iAdd ((f_X12_joins 21 (f_X12_nots H)).1 29 48) 1)) 29 50 0) (rp_X12_joins 21 (f_X12_nots H) (rp_X12_nots H hr)).1) ?_
        refine J_cst 91 jw hj rfl rfl rfl ?_
        exact J_ret rfl (Or.inl rfl) (fun aw hR => by show _ ∧ _; unfold f_X12_behind; rw [if_neg h0, if_neg h1, if_pos h3]; exact ⟨rfl, hR⟩)
      · refine J_cst 65 jw hj rfl rfl rfl ?_
        refine J_goto 70 jw hj rfl rfl ?_
        refine J_iast jw hj rfl (Or.inl rfl) (fun _ => ?_)
        refine J_ld 72 jw hj rfl rfl rfl rfl ?_
        refine J_dup 73 jw hj rfl rfl ?_
        refine J_gfI jw hj rfl (evn rfl) (by decide) rfl (fun r5 => ?_)
        refine J_cst 77 jw hj rfl rfl rfl ?_
        refine J_bin jw hj rfl rfl ?_
        refine J_pfI jw hj rfl (evn rfl) rfl ?_
        refine J_ld 82 jw hj rfl rfl rfl rfl ?_
        refine J_cst 83 jw hj rfl rfl rfl ?_
        refine J_pfI jw hj rfl (evn rfl) rfl ?_
        refine J_ld 87 jw hj rfl rfl rfl rfl ?_
        refine J_callV0 jw rfl (Or.inl ⟨_, rfl⟩) rfl rfl (sp_X12_next (g := g) (upI (upI (upI (f_X12_joins 21 (f_X12_nots H)) 46 ((f_X12_joins 21 (f_X12_nots H)).1 29 48).toNat 21) 29 48 (iAdd ((f_X12_joins 21 (f_X12_nots H)).1 29 48) 1)) 29 50 0) (rp_X12_joins 21 (f_X12_nots H) (rp_X12_nots H hr)).1) ?_
        refine J_cst 91 jw hj rfl rfl rfl ?_
        exact J_ret rfl (Or.inl rfl) (fun aw hR => by show _ ∧ _; unfold f_X12_behind; rw [if_neg h0, if_neg h1, if_neg h3]; exact ⟨rfl, hR⟩)
  · refine J_ld 15 jw hj rfl rfl rfl rfl ?_
    refine J_lc (n := 28530) 18 jw hj rfl (Or.inr ⟨_, rfl, by decide +kernel, rfl⟩) ?_
    refine J_callV1 jw rfl (Or.inl ⟨_, rfl⟩) rfl rfl (sp_X12_isWord (g := g) 28530 (f_X12_nots H)) ?_
    refine J_ifc (t := 92) jw hj rfl (evn rfl) rfl (fun (h4 : f_X12_isWord 28530 (f_X12_nots H) = 0) => ?_) (fun (h4 : ¬ f_X12_isWord 28530 (f_X12_nots H) = 0) => ?_)
    · refine J_ld 93 jw hj rfl rfl rfl rfl ?_
      refine J_cst 95 jw hj rfl rfl rfl ?_
      refine J_callV0 jw rfl (Or.inl ⟨_, rfl⟩) rfl rfl (sp_X12_joins (g := g) 22 (f_X12_nots H) (rp_X12_nots H hr)) ?_
      refine J_ld 99 jw hj rfl rfl rfl rfl ?_
      refine J_cst 101 jw hj rfl rfl rfl ?_
      refine J_callV1 jw rfl (Or.inl ⟨_, rfl⟩) rfl rfl (sp_X12_isSign (g := g) 41 (f_X12_joins 22 (f_X12_nots H))) ?_
      refine J_ifc (t := 114) jw hj rfl (evn rfl) rfl (fun (h5 : f_X12_isSign 41 (f_X12_joins 22 (f_X12_nots H)) = 0) => ?_) (fun (h5 : ¬ f_X12_isSign 41 (f_X12_joins 22 (f_X12_nots H)) = 0) => ?_)
      · refine J_ld 115 jw hj rfl rfl rfl rfl ?_
        refine J_cst 116 jw hj rfl rfl rfl ?_
        refine J_callV1 jw rfl (Or.inl ⟨_, rfl⟩) rfl rfl (sp_X12_bad (g := g) 1 (f_X12_joins 22 (f_X12_nots H))) ?_
        exact J_ret rfl (Or.inl rfl) (fun aw hR => by show _ ∧ _; unfold f_X12_behind; rw [if_pos h0, if_pos h4, if_pos h5]; exact ⟨rfl, hR⟩)
      · refine J_ld 108 jw hj rfl rfl rfl rfl ?_
        refine J_gfI jw hj rfl (evn rfl) (by decide) rfl (fun r6 => ?_)
        refine J_ifc (t := 120) jw hj rfl (evn rfl) rfl (fun (h6 : ¬ ((f_X12_joins 22 (f_X12_nots H)).1 29 48) = 0) => ?_) (fun (h6 : ((f_X12_joins 22 (f_X12_nots H)).1 29 48) = 0) => ?_)
        · refine J_ld 121 jw hj rfl rfl rfl rfl ?_
          refine J_dup 122 jw hj rfl rfl ?_
          refine J_gfI jw hj rfl (evn rfl) (by decide) rfl (fun r7 => ?_)
          refine J_cst 126 jw hj rfl rfl rfl ?_
          refine J_bin jw hj rfl rfl ?_
          refine J_pfI jw hj rfl (evn rfl) rfl ?_
          refine J_ld 131 jw hj rfl rfl rfl rfl ?_
          refine J_dup 132 jw hj rfl rfl ?_
          refine J_gfI jw hj rfl (evn rfl) (by decide) rfl (fun r8 => ?_)
          refine J_cst 136 jw hj rfl rfl rfl ?_
          refine J_bin jw hj rfl rfl ?_
          refine J_pfI jw hj rfl (evn rfl) rfl ?_
          refine J_ld 141 jw hj rfl rfl rfl rfl ?_
          refine J_callV0 jw rfl (Or.inl ⟨_, rfl⟩) rfl rfl (sp_X12_next (g := g) (upI (upI (f_X12_joins 22 (f_X12_nots H)) 29 48 (iSub ((f_X12_joins 22 (f_X12_nots H)).1 29 48) 1)) 29 49 (iSub ((f_X12_joins 22 (f_X12_nots H)).1 29 49) 1)) (rp_X12_joins 22 (f_X12_nots H) (rp_X12_nots H hr)).1) ?_
          refine J_cst 145 jw hj rfl rfl rfl ?_
          exact J_ret rfl (Or.inl rfl) (fun aw hR => by show _ ∧ _; unfold f_X12_behind; rw [if_pos h0, if_pos h4, if_neg h5, if_neg h6]; exact ⟨rfl, hR⟩)
        · refine J_ld 115 jw hj rfl rfl rfl rfl ?_
          refine J_cst 116 jw hj rfl rfl rfl ?_
          refine J_callV1 jw rfl (Or.inl ⟨_, rfl⟩) rfl rfl (sp_X12_bad (g := g) 1 (f_X12_joins 22 (f_X12_nots H))) ?_
          exact J_ret rfl (Or.inl rfl) (fun aw hR => by show _ ∧ _; unfold f_X12_behind; rw [if_pos h0, if_pos h4, if_neg h5, if_pos h6]; exact ⟨rfl, hR⟩)
    · refine J_ld 25 jw hj rfl rfl rfl rfl ?_
      refine J_ld 26 jw hj rfl rfl rfl rfl ?_
      refine J_lc (n := 6385252) 29 jw hj rfl (Or.inr ⟨_, rfl, by decide +kernel, rfl⟩) ?_
      refine J_callV1 jw rfl (Or.inl ⟨_, rfl⟩) rfl rfl (sp_X12_isWord (g := g) 6385252 (f_X12_nots H)) ?_
      refine J_ifc (t := 40) jw hj rfl (evn rfl) rfl (fun (h7 : f_X12_isWord 6385252 (f_X12_nots H) = 0) => ?_) (fun (h7 : ¬ f_X12_isWord 6385252 (f_X12_nots H) = 0) => ?_)
      · refine J_cst 42 jw hj rfl rfl rfl ?_
        refine J_callV0 jw rfl (Or.inl ⟨_, rfl⟩) rfl rfl (sp_X12_joins (g := g) 22 (f_X12_nots H) (rp_X12_nots H hr)) ?_
        refine J_ld 46 jw hj rfl rfl rfl rfl ?_
        refine J_gfR (k := 46) jw hj rfl (evn rfl) (by decide) (by decide) (rp_X12_joins 22 (f_X12_nots H) (rp_X12_nots H hr)).2 ?_
        refine J_ld 50 jw hj rfl rfl rfl rfl ?_
        refine J_gfI jw hj rfl (evn rfl) (by decide) rfl (fun r9 => ?_)
        refine J_ld 54 jw hj rfl rfl rfl rfl ?_
        refine J_lc (n := 6385252) 57 jw hj rfl (Or.inr ⟨_, rfl, by decide +kernel, rfl⟩) ?_
        refine J_callV1 jw rfl (Or.inl ⟨_, rfl⟩) rfl rfl (sp_X12_isWord (g := g) 6385252 (f_X12_joins 22 (f_X12_nots H))) ?_
        refine J_ifc (t := 68) jw hj rfl (evn rfl) rfl (fun (h8 : f_X12_isWord 6385252 (f_X12_joins 22 (f_X12_nots H)) = 0) => ?_) (fun (h8 : ¬ f_X12_isWord 6385252 (f_X12_joins 22 (f_X12_nots H)) = 0) => ?_)
        · refine J_cst 70 jw hj rfl rfl rfl ?_
          refine J_iast jw hj rfl (Or.inl rfl) (fun _ => ?_)
          refine J_ld 72 jw hj rfl rfl rfl rfl ?_
          refine J_dup 73 jw hj rfl rfl ?_
          refine J_gfI jw hj rfl (evn rfl) (by decide) rfl (fun r10 => ?_)
          refine J_cst 77 jw hj rfl rfl rfl ?_
          refine J_bin jw hj rfl rfl ?_
          refine J_pfI jw hj rfl (evn rfl) rfl ?_
          refine J_ld 82 jw hj rfl rfl rfl rfl ?_
          refine J_cst 83 jw hj rfl rfl rfl ?_
          refine J_pfI jw hj rfl (evn rfl) rfl ?_
          refine J_ld 87 jw hj rfl rfl rfl rfl ?_
          refine J_callV0 jw rfl (Or.inl ⟨_, rfl⟩) rfl rfl (sp_X12_next (g := g) (upI (upI (upI (f_X12_joins 22 (f_X12_nots H)) 46 ((f_X12_joins 22 (f_X12_nots H)).1 29 48).toNat 22) 29 48 (iAdd ((f_X12_joins 22 (f_X12_nots H)).1 29 48) 1)) 29 50 0) (rp_X12_joins 22 (f_X12_nots H) (rp_X12_nots H hr)).1) ?_
          refine J_cst 91 jw hj rfl rfl rfl ?_
          exact J_ret rfl (Or.inl rfl) (fun aw hR => by show _ ∧ _; unfold f_X12_behind; rw [if_pos h0, if_neg h4, if_pos h7, if_pos h8]; exact ⟨rfl, hR⟩)
        · refine J_cst 65 jw hj rfl rfl rfl ?_
          refine J_goto 70 jw hj rfl rfl ?_
          refine J_iast jw hj rfl (Or.inl rfl) (fun _ => ?_)
          refine J_ld 72 jw hj rfl rfl rfl rfl ?_
          refine J_dup 73 jw hj rfl rfl ?_
          refine J_gfI jw hj rfl (evn rfl) (by decide) rfl (fun r11 => ?_)
          refine J_cst 77 jw hj rfl rfl rfl ?_
          refine J_bin jw hj rfl rfl ?_
          refine J_pfI jw hj rfl (evn rfl) rfl ?_
          refine J_ld 82 jw hj rfl rfl rfl rfl ?_
          refine J_cst 83 jw hj rfl rfl rfl ?_
          refine J_pfI jw hj rfl (evn rfl) rfl ?_
          refine J_ld 87 jw hj rfl rfl rfl rfl ?_
          refine J_callV0 jw rfl (Or.inl ⟨_, rfl⟩) rfl rfl (sp_X12_next (g := g) (upI (upI (upI (f_X12_joins 22 (f_X12_nots H)) 46 ((f_X12_joins 22 (f_X12_nots H)).1 29 48).toNat 21) 29 48 (iAdd ((f_X12_joins 22 (f_X12_nots H)).1 29 48) 1)) 29 50 0) (rp_X12_joins 22 (f_X12_nots H) (rp_X12_nots H hr)).1) ?_
          refine J_cst 91 jw hj rfl rfl rfl ?_
          exact J_ret rfl (Or.inl rfl) (fun aw hR => by show _ ∧ _; unfold f_X12_behind; rw [if_pos h0, if_neg h4, if_pos h7, if_neg h8]; exact ⟨rfl, hR⟩)
      · refine J_cst 37 jw hj rfl rfl rfl ?_
        refine J_goto 42 jw hj rfl rfl ?_
        refine J_callV0 jw rfl (Or.inl ⟨_, rfl⟩) rfl rfl (sp_X12_joins (g := g) 21 (f_X12_nots H) (rp_X12_nots H hr)) ?_
        refine J_ld 46 jw hj rfl rfl rfl rfl ?_
        refine J_gfR (k := 46) jw hj rfl (evn rfl) (by decide) (by decide) (rp_X12_joins 21 (f_X12_nots H) (rp_X12_nots H hr)).2 ?_
        refine J_ld 50 jw hj rfl rfl rfl rfl ?_
        refine J_gfI jw hj rfl (evn rfl) (by decide) rfl (fun r12 => ?_)
        refine J_ld 54 jw hj rfl rfl rfl rfl ?_
        refine J_lc (n := 6385252) 57 jw hj rfl (Or.inr ⟨_, rfl, by decide +kernel, rfl⟩) ?_
        refine J_callV1 jw rfl (Or.inl ⟨_, rfl⟩) rfl rfl (sp_X12_isWord (g := g) 6385252 (f_X12_joins 21 (f_X12_nots H))) ?_
        refine J_ifc (t := 68) jw hj rfl (evn rfl) rfl (fun (h9 : f_X12_isWord 6385252 (f_X12_joins 21 (f_X12_nots H)) = 0) => ?_) (fun (h9 : ¬ f_X12_isWord 6385252 (f_X12_joins 21 (f_X12_nots H)) = 0) => ?_)
        · refine J_cst 70 jw hj rfl rfl rfl ?_
          refine J_iast jw hj rfl (Or.inl rfl) (fun _ => ?_)
          refine J_ld 72 jw hj rfl rfl rfl rfl ?_
          refine J_dup 73 jw hj rfl rfl ?_
          refine J_gfI jw hj rfl (evn rfl) (by decide) rfl (fun r13 => ?_)
          refine J_cst 77 jw hj rfl rfl rfl ?_
          refine J_bin jw hj rfl rfl ?_
          refine J_pfI jw hj rfl (evn rfl) rfl ?_
          refine J_ld 82 jw hj rfl rfl rfl rfl ?_
          refine J_cst 83 jw hj rfl rfl rfl ?_
          refine J_pfI jw hj rfl (evn rfl) rfl ?_
          refine J_ld 87 jw hj rfl rfl rfl rfl ?_
          refine J_callV0 jw rfl (Or.inl ⟨_, rfl⟩) rfl rfl (sp_X12_next (g := g) (upI (upI (upI (f_X12_joins 21 (f_X12_nots H)) 46 ((f_X12_joins 21 (f_X12_nots H)).1 29 48).toNat 22) 29 48 (iAdd ((f_X12_joins 21 (f_X12_nots H)).1 29 48) 1)) 29 50 0) (rp_X12_joins 21 (f_X12_nots H) (rp_X12_nots H hr)).1) ?_
          refine J_cst 91 jw hj rfl rfl rfl ?_
          exact J_ret rfl (Or.inl rfl) (fun aw hR => by show _ ∧ _; unfold f_X12_behind; rw [if_pos h0, if_neg h4, if_neg h7, if_pos h9]; exact ⟨rfl, hR⟩)
        · refine J_cst 65 jw hj rfl rfl rfl ?_
          refine J_goto 70 jw hj rfl rfl ?_
          refine J_iast jw hj rfl (Or.inl rfl) (fun _ => ?_)
          refine J_ld 72 jw hj rfl rfl rfl rfl ?_
          refine J_dup 73 jw hj rfl rfl ?_
          refine J_gfI jw hj rfl (evn rfl) (by decide) rfl (fun r14 => ?_)
          refine J_cst 77 jw hj rfl rfl rfl ?_
          refine J_bin jw hj rfl rfl ?_
          refine J_pfI jw hj rfl (evn rfl) rfl ?_
          refine J_ld 82 jw hj rfl rfl rfl rfl ?_
          refine J_cst 83 jw hj rfl rfl rfl ?_
          refine J_pfI jw hj rfl (evn rfl) rfl ?_
          refine J_ld 87 jw hj rfl rfl rfl rfl ?_
          refine J_callV0 jw rfl (Or.inl ⟨_, rfl⟩) rfl rfl (sp_X12_next (g := g) (upI (upI (upI (f_X12_joins 21 (f_X12_nots H)) 46 ((f_X12_joins 21 (f_X12_nots H)).1 29 48).toNat 21) 29 48 (iAdd ((f_X12_joins 21 (f_X12_nots H)).1 29 48) 1)) 29 50 0) (rp_X12_joins 21 (f_X12_nots H) (rp_X12_nots H hr)).1) ?_
          refine J_cst 91 jw hj rfl rfl rfl ?_
          exact J_ret rfl (Or.inl rfl) (fun aw hR => by show _ ∧ _; unfold f_X12_behind; rw [if_pos h0, if_neg h4, if_neg h7, if_neg h9]; exact ⟨rfl, hR⟩)
theorem rp_X12_behind {P : (Nat → Nat → Option Nat) → Prop}  (H : hH) (hr : P H.2.2.1) : P (f_X12_behind H).2.2.2.1 := by
  unfold f_X12_behind
  by_cases q1 : f_X12_isWord 6385252 (f_X12_nots H) = 0
  · rw [if_pos q1]
    by_cases q2 : f_X12_isWord 28530 (f_X12_nots H) = 0
    · rw [if_pos q2]
      by_cases q3 : f_X12_isSign 41 (f_X12_joins 22 (f_X12_nots H)) = 0
      · rw [if_pos q3]
        exact (rp_X12_bad 1 (f_X12_joins 22 (f_X12_nots H)) (rp_X12_joins 22 (f_X12_nots H) (rp_X12_nots H hr)))
      · rw [if_neg q3]
        by_cases q4 : ((f_X12_joins 22 (f_X12_nots H)).1 29 48) = 0
        · rw [if_pos q4]
          exact (rp_X12_bad 1 (f_X12_joins 22 (f_X12_nots H)) (rp_X12_joins 22 (f_X12_nots H) (rp_X12_nots H hr)))
        · rw [if_neg q4]
          exact (rp_X12_next (upI (upI (f_X12_joins 22 (f_X12_nots H)) 29 48 (iSub ((f_X12_joins 22 (f_X12_nots H)).1 29 48) 1)) 29 49 (iSub ((f_X12_joins 22 (f_X12_nots H)).1 29 49) 1)) (rp_X12_joins 22 (f_X12_nots H) (rp_X12_nots H hr)))
    · rw [if_neg q2]
      by_cases q3 : f_X12_isWord 6385252 (f_X12_nots H) = 0
      · rw [if_pos q3]
        by_cases q4 : f_X12_isWord 6385252 (f_X12_joins 22 (f_X12_nots H)) = 0
        · rw [if_pos q4]
          exact (rp_X12_next (upI (upI (upI (f_X12_joins 22 (f_X12_nots H)) 46 ((f_X12_joins 22 (f_X12_nots H)).1 29 48).toNat 22) 29 48 (iAdd ((f_X12_joins 22 (f_X12_nots H)).1 29 48) 1)) 29 50 0) (rp_X12_joins 22 (f_X12_nots H) (rp_X12_nots H hr)))
        · rw [if_neg q4]
          exact (rp_X12_next (upI (upI (upI (f_X12_joins 22 (f_X12_nots H)) 46 ((f_X12_joins 22 (f_X12_nots H)).1 29 48).toNat 21) 29 48 (iAdd ((f_X12_joins 22 (f_X12_nots H)).1 29 48) 1)) 29 50 0) (rp_X12_joins 22 (f_X12_nots H) (rp_X12_nots H hr)))
      · rw [if_neg q3]
        by_cases q4 : f_X12_isWord 6385252 (f_X12_joins 21 (f_X12_nots H)) = 0
        · rw [if_pos q4]
          exact (rp_X12_next (upI (upI (upI (f_X12_joins 21 (f_X12_nots H)) 46 ((f_X12_joins 21 (f_X12_nots H)).1 29 48).toNat 22) 29 48 (iAdd ((f_X12_joins 21 (f_X12_nots H)).1 29 48) 1)) 29 50 0) (rp_X12_joins 21 (f_X12_nots H) (rp_X12_nots H hr)))
        · rw [if_neg q4]
          exact (rp_X12_next (upI (upI (upI (f_X12_joins 21 (f_X12_nots H)) 46 ((f_X12_joins 21 (f_X12_nots H)).1 29 48).toNat 21) 29 48 (iAdd ((f_X12_joins 21 (f_X12_nots H)).1 29 48) 1)) 29 50 0) (rp_X12_joins 21 (f_X12_nots H) (rp_X12_nots H hr)))
  · rw [if_neg q1]
    by_cases q2 : f_X12_isWord 6385252 (f_X12_nots H) = 0
    · rw [if_pos q2]
      by_cases q3 : f_X12_isWord 6385252 (f_X12_joins 22 (f_X12_nots H)) = 0
      · rw [if_pos q3]
        exact (rp_X12_next (upI (upI (upI (f_X12_joins 22 (f_X12_nots H)) 46 ((f_X12_joins 22 (f_X12_nots H)).1 29 48).toNat 22) 29 48 (iAdd ((f_X12_joins 22 (f_X12_nots H)).1 29 48) 1)) 29 50 0) (rp_X12_joins 22 (f_X12_nots H) (rp_X12_nots H hr)))
      · rw [if_neg q3]
        exact (rp_X12_next (upI (upI (upI (f_X12_joins 22 (f_X12_nots H)) 46 ((f_X12_joins 22 (f_X12_nots H)).1 29 48).toNat 21) 29 48 (iAdd ((f_X12_joins 22 (f_X12_nots H)).1 29 48) 1)) 29 50 0) (rp_X12_joins 22 (f_X12_nots H) (rp_X12_nots H hr)))
    · rw [if_neg q2]
      by_cases q3 : f_X12_isWord 6385252 (f_X12_joins 21 (f_X12_nots H)) = 0
      · rw [if_pos q3]
        exact (rp_X12_next (upI (upI (upI (f_X12_joins 21 (f_X12_nots H)) 46 ((f_X12_joins 21 (f_X12_nots H)).1 29 48).toNat 22) 29 48 (iAdd ((f_X12_joins 21 (f_X12_nots H)).1 29 48) 1)) 29 50 0) (rp_X12_joins 21 (f_X12_nots H) (rp_X12_nots H hr)))
      · rw [if_neg q3]
        exact (rp_X12_next (upI (upI (upI (f_X12_joins 21 (f_X12_nots H)) 46 ((f_X12_joins 21 (f_X12_nots H)).1 29 48).toNat 21) 29 48 (iAdd ((f_X12_joins 21 (f_X12_nots H)).1 29 48) 1)) 29 50 0) (rp_X12_joins 21 (f_X12_nots H) (rp_X12_nots H hr)))
def f_X12_scp (w1 : Int) : Nat → Int → hH → Int × hH
  | 0, i, H => (i, H)
  | k + 1, i, H =>
    if i < iMul 3 (H.1 29 46) then
      f_X12_scp w1 k (iAdd i 1) (upI H 31 (iAdd 116 i).toNat (H.1 33 (i).toNat))
    else
      (i, H)
set_option maxHeartbeats 16000000 in
set_option maxRecDepth 100000 in
theorem lp_X12_scp {g : Nat → Nat} {Post : xRes2 → Prop} (w1 : Int) : ∀ (k : Nat) (i : Int) (H : hH), RMs H.2.2.1 → xIn32 i → (iMul 3 (H.1 29 46) - i).toNat ≤ k → (J g rvTab rvInf rvRet 316 rvMth 121 Post 176 [rf (g 29), pt w1, pt ((f_X12_scp w1 k i H).1)] [] (f_X12_scp w1 k i H).2) → J g rvTab rvInf rvRet 316 rvMth 121 Post 145 [rf (g 29), pt w1, pt i] [] H := by
  intro k
  induction k with
  | zero =>
    intro i H hr hv hm hx
    have hj : 121 < 316 := by decide
    refine J_ld 146 jw hj rfl rfl rfl rfl ?_
    refine J_cst 147 jw hj rfl rfl rfl ?_
    refine J_ld 148 jw hj rfl rfl rfl rfl ?_
    refine J_gfI jw hj rfl (evn rfl) (by decide) rfl (fun r0 => ?_)
    refine J_bin jw hj rfl rfl ?_
    refine J_icmp (t := 176) jw hj rfl (evn rfl) rfl (fun (h0 : ¬ i < iMul 3 (H.1 29 46)) => ?_) (fun (h0 : i < iMul 3 (H.1 29 46)) => ?_)
    · exact hx
    · exfalso; omega
  | succ k ih =>
    intro i H hr hv hm hx
    have hj : 121 < 316 := by decide
    refine J_ld 146 jw hj rfl rfl rfl rfl ?_
    refine J_cst 147 jw hj rfl rfl rfl ?_
    refine J_ld 148 jw hj rfl rfl rfl rfl ?_
    refine J_gfI jw hj rfl (evn rfl) (by decide) rfl (fun r0 => ?_)
    refine J_bin jw hj rfl rfl ?_
    refine J_icmp (t := 176) jw hj rfl (evn rfl) rfl (fun (h0 : ¬ i < iMul 3 (H.1 29 46)) => ?_) (fun (h0 : i < iMul 3 (H.1 29 46)) => ?_)
    · have e : f_X12_scp w1 (k + 1) i H = (i, H) := by
        rw [f_X12_scp]
        rw [if_neg h0]
      rw [e] at hx
      exact hx
    · refine J_ld 156 jw hj rfl rfl rfl rfl ?_
      refine J_gfR (k := 31) jw hj rfl (evn rfl) (by decide) (by decide) (RMa hr.1 rfl) ?_
      refine J_cst 161 jw hj rfl rfl rfl ?_
      refine J_ld 162 jw hj rfl rfl rfl rfl ?_
      refine J_bin jw hj rfl rfl ?_
      refine J_ld 164 jw hj rfl rfl rfl rfl ?_
      refine J_gfR (k := 33) jw hj rfl (evn rfl) (by decide) (by decide) (RMa hr.1 rfl) ?_
      refine J_ld 168 jw hj rfl rfl rfl rfl ?_
      refine J_iald jw hj rfl (Or.inl rfl) (fun z1 r1 => ?_)
      refine J_iast jw hj rfl (Or.inl rfl) (fun _ => ?_)
      refine J_iinc (al' := [rf (g 29), pt w1, pt (iAdd i 1)]) jw hj rfl (evn rfl) rfl rfl ?_
      refine J_goto 145 jw hj rfl rfl ?_
      have e : f_X12_scp w1 (k + 1) i H = f_X12_scp w1 k (iAdd i 1) (upI H 31 (iAdd 116 i).toNat (H.1 33 (i).toNat)) := by
        rw [f_X12_scp]
        rw [if_pos h0]
      rw [e] at hx
      exact ih (iAdd i 1) (upI H 31 (iAdd 116 i).toNat (H.1 33 (i).toNat)) hr (xi_in _) (by exact mpI (xi_in _).2 hv (by assumption) hm) hx
theorem rp_X12_scp {P : (Nat → Nat → Option Nat) → Prop} (w1 : Int) : ∀ (k : Nat) (i : Int) (H : hH), P H.2.2.1 → P (f_X12_scp w1 k i H).2.2.2.1 := by
  intro k
  induction k with
  | zero => intro i H hr; exact hr
  | succ k ih =>
    intro i H hr
    rw [f_X12_scp]
    by_cases q2 : i < iMul 3 (H.1 29 46)
    · rw [if_pos q2]
      exact ih (iAdd i 1) (upI H 31 (iAdd 116 i).toNat (H.1 33 (i).toNat)) hr
    · rw [if_neg q2]
      exact hr
def f_X12_stail (w1 : Int) (H : hH) : Int × hH :=
  ((f_X12_scp w1 (iMul 3 (H.1 29 46) - 0).toNat 0 (upI H 31 115 (H.1 29 46))).2.1 29 47, (f_X12_scp w1 (iMul 3 (H.1 29 46) - 0).toNat 0 (upI H 31 115 (H.1 29 46))).2)
set_option maxHeartbeats 16000000 in
set_option maxRecDepth 100000 in
theorem jx_X12_stail {g : Nat → Nat} (w1 : Int) {w : rvV} (H : hH) (hr : RMs H.2.2.1) : J g rvTab rvInf rvRet 316 rvMth 121 (fun res => res.1 = some (pt (f_X12_stail w1 H).1) ∧ RH g res.2 (f_X12_stail w1 H).2) 132 [rf (g 29), pt w1, w] [] H := by
  have hj : 121 < 316 := by decide
  refine J_ld 133 jw hj rfl rfl rfl rfl ?_
  refine J_gfR (k := 31) jw hj rfl (evn rfl) (by decide) (by decide) (RMa hr.1 rfl) ?_
  refine J_cst 138 jw hj rfl rfl rfl ?_
  refine J_ld 139 jw hj rfl rfl rfl rfl ?_
  refine J_gfI jw hj rfl (evn rfl) (by decide) rfl (fun r0 => ?_)
  refine J_iast jw hj rfl (Or.inl rfl) (fun _ => ?_)
  refine J_cst 144 jw hj rfl rfl rfl ?_
  refine J_st 145 [rf (g 29), pt w1, pt 0] (k := 2) jw hj rfl (Or.inr (Or.inr (Or.inl ⟨_, rfl, rfl, rfl⟩))) rfl ?_
  refine lp_X12_scp w1 (iMul 3 (H.1 29 46) - 0).toNat 0 (upI H 31 115 (H.1 29 46)) hr ⟨by decide, by decide⟩ (Nat.le_refl _) ?_
  refine J_ld 177 jw hj rfl rfl rfl rfl ?_
  refine J_gfI jw hj rfl (evn rfl) (by decide) rfl (fun r1 => ?_)
  exact J_ret rfl (Or.inl rfl) (fun aw hR => by show _ ∧ _; unfold f_X12_stail; exact ⟨rfl, hR⟩)
theorem rp_X12_stail {P : (Nat → Nat → Option Nat) → Prop} (w1 : Int) (H : hH) (hr : P H.2.2.1) : P (f_X12_stail w1 H).2.2.2.1 := by
  unfold f_X12_stail
  exact (rp_X12_scp w1 (iMul 3 (H.1 29 46) - 0).toNat 0 (upI H 31 115 (H.1 29 46)) hr)
/-- token by token, as far as k goes -/
def f_X12_smain : Nat → hH → Option (Int × hH)
  | 0, _ => none
  | k + 1, H =>
    if H.1 29 50 = 0 then
      if H.1 29 50 = 0 then
        if ((f_X12_operand H).1) = 0 then
          some (iSub (-1) ((f_X12_operand H).2.1 29 16), (f_X12_operand H).2)
        else
          f_X12_smain k (f_X12_operand H).2
      else
        if ((f_X12_behind H).1) = 0 then
          some (iSub (-1) ((f_X12_behind H).2.1 29 16), (f_X12_behind H).2)
        else
          f_X12_smain k (f_X12_behind H).2
    else
      if H.1 29 11 = 0 then
        if 0 < ((f_X12_joins 22 (f_X12_nots H)).1 29 48) then
          some (iSub (-1) ((f_X12_bad 1 (f_X12_joins 22 (f_X12_nots H))).2.1 29 16), (f_X12_bad 1 (f_X12_joins 22 (f_X12_nots H))).2)
        else
          some (f_X12_stail 0 (f_X12_joins 22 (f_X12_nots H)))
      else
        if H.1 29 50 = 0 then
          if ((f_X12_operand H).1) = 0 then
            some (iSub (-1) ((f_X12_operand H).2.1 29 16), (f_X12_operand H).2)
          else
            f_X12_smain k (f_X12_operand H).2
        else
          if ((f_X12_behind H).1) = 0 then
            some (iSub (-1) ((f_X12_behind H).2.1 29 16), (f_X12_behind H).2)
          else
            f_X12_smain k (f_X12_behind H).2
set_option maxHeartbeats 16000000 in
set_option maxRecDepth 100000 in
theorem jx_X12_smain {g : Nat → Nat} {w : rvV} {r : Int × hH} : ∀ (k : Nat) (H : hH), RMs H.2.2.1 → f_X12_smain k H = some r → J g rvTab rvInf rvRet 316 rvMth 121 (fun res => res.1 = some (pt r.1) ∧ RH g res.2 r.2) 52 [rf (g 29), pt 1, w] [] H := by
  intro k
  induction k with
  | zero => intro H hr hx; cases hx
  | succ k ih =>
    intro H hr hx
    have hj : 121 < 316 := by decide
    refine J_ld 53 jw hj rfl rfl rfl rfl ?_
    refine J_gfI jw hj rfl (evn rfl) (by decide) rfl (fun r0 => ?_)
    refine J_ifc (t := 101) jw hj rfl (evn rfl) rfl (fun (h0 : H.1 29 50 = 0) => ?_) (fun (h0 : ¬ H.1 29 50 = 0) => ?_)
    · refine J_ld 102 jw hj rfl rfl rfl rfl ?_
      refine J_gfI jw hj rfl (evn rfl) (by decide) rfl (fun r1 => ?_)
      refine J_ifc (t := 118) jw hj rfl (evn rfl) rfl (fun (h1 : H.1 29 50 = 0) => ?_) (fun (h1 : ¬ H.1 29 50 = 0) => ?_)
      · refine J_ld 119 jw hj rfl rfl rfl rfl ?_
        refine J_callV1 jw rfl (Or.inl ⟨_, rfl⟩) rfl rfl (sp_X12_operand (g := g) H hr) ?_
        refine J_ifc (t := 48) jw hj rfl (evn rfl) rfl (fun (h2 : ¬ ((f_X12_operand H).1) = 0) => ?_) (fun (h2 : ((f_X12_operand H).1) = 0) => ?_)
        · have e : f_X12_smain (k + 1) H = f_X12_smain k (f_X12_operand H).2 := by
            rw [f_X12_smain]
            rw [if_pos h0, if_pos h1, if_neg h2]
          rw [e] at hx
          refine J_ld 49 jw hj rfl rfl rfl rfl ?_
          refine J_ifc (t := 132) jw hj rfl (evn rfl) rfl (fun (h : (1 : Int) = 0) => absurd h (by decide)) (fun (_ : ¬ (1 : Int) = 0) => ?_)
          exact ih (f_X12_operand H).2 (rp_X12_operand H hr) hx
        · refine J_cst 126 jw hj rfl rfl rfl ?_
          refine J_ld 127 jw hj rfl rfl rfl rfl ?_
          refine J_gfI jw hj rfl (evn rfl) (by decide) rfl (fun r2 => ?_)
          refine J_bin jw hj rfl rfl ?_
          have e : f_X12_smain (k + 1) H = some (iSub (-1) ((f_X12_operand H).2.1 29 16), (f_X12_operand H).2) := by
            rw [f_X12_smain]
            rw [if_pos h0, if_pos h1, if_pos h2]
          rw [e] at hx
          have e2 := Option.some.inj hx
          have e3 : r.1 = iSub (-1) ((f_X12_operand H).2.1 29 16) := by rw [← e2]
          have e4 : r.2 = (f_X12_operand H).2 := by rw [← e2]
          rw [e3, e4]
          exact J_ret rfl (Or.inl rfl) (fun aw hR => ⟨rfl, hR⟩)
      · refine J_ld 109 jw hj rfl rfl rfl rfl ?_
        refine J_callV1 jw rfl (Or.inl ⟨_, rfl⟩) rfl rfl (sp_X12_behind (g := g) H hr) ?_
        refine J_ifc (t := 48) jw hj rfl (evn rfl) rfl (fun (h3 : ¬ ((f_X12_behind H).1) = 0) => ?_) (fun (h3 : ((f_X12_behind H).1) = 0) => ?_)
        · have e : f_X12_smain (k + 1) H = f_X12_smain k (f_X12_behind H).2 := by
            rw [f_X12_smain]
            rw [if_pos h0, if_neg h1, if_neg h3]
          rw [e] at hx
          refine J_ld 49 jw hj rfl rfl rfl rfl ?_
          refine J_ifc (t := 132) jw hj rfl (evn rfl) rfl (fun (h : (1 : Int) = 0) => absurd h (by decide)) (fun (_ : ¬ (1 : Int) = 0) => ?_)
          exact ih (f_X12_behind H).2 (rp_X12_behind H hr) hx
        · refine J_goto 125 jw hj rfl rfl ?_
          refine J_cst 126 jw hj rfl rfl rfl ?_
          refine J_ld 127 jw hj rfl rfl rfl rfl ?_
          refine J_gfI jw hj rfl (evn rfl) (by decide) rfl (fun r3 => ?_)
          refine J_bin jw hj rfl rfl ?_
          have e : f_X12_smain (k + 1) H = some (iSub (-1) ((f_X12_behind H).2.1 29 16), (f_X12_behind H).2) := by
            rw [f_X12_smain]
            rw [if_pos h0, if_neg h1, if_pos h3]
          rw [e] at hx
          have e2 := Option.some.inj hx
          have e3 : r.1 = iSub (-1) ((f_X12_behind H).2.1 29 16) := by rw [← e2]
          have e4 : r.2 = (f_X12_behind H).2 := by rw [← e2]
          rw [e3, e4]
          exact J_ret rfl (Or.inl rfl) (fun aw hR => ⟨rfl, hR⟩)
    · refine J_ld 60 jw hj rfl rfl rfl rfl ?_
      refine J_gfI jw hj rfl (evn rfl) (by decide) rfl (fun r4 => ?_)
      refine J_ifc (t := 101) jw hj rfl (evn rfl) rfl (fun (h4 : ¬ H.1 29 11 = 0) => ?_) (fun (h4 : H.1 29 11 = 0) => ?_)
      · refine J_ld 102 jw hj rfl rfl rfl rfl ?_
        refine J_gfI jw hj rfl (evn rfl) (by decide) rfl (fun r5 => ?_)
        refine J_ifc (t := 118) jw hj rfl (evn rfl) rfl (fun (h5 : H.1 29 50 = 0) => ?_) (fun (h5 : ¬ H.1 29 50 = 0) => ?_)
        · refine J_ld 119 jw hj rfl rfl rfl rfl ?_
          refine J_callV1 jw rfl (Or.inl ⟨_, rfl⟩) rfl rfl (sp_X12_operand (g := g) H hr) ?_
          refine J_ifc (t := 48) jw hj rfl (evn rfl) rfl (fun (h6 : ¬ ((f_X12_operand H).1) = 0) => ?_) (fun (h6 : ((f_X12_operand H).1) = 0) => ?_)
          · have e : f_X12_smain (k + 1) H = f_X12_smain k (f_X12_operand H).2 := by
              rw [f_X12_smain]
              rw [if_neg h0, if_neg h4, if_pos h5, if_neg h6]
            rw [e] at hx
            refine J_ld 49 jw hj rfl rfl rfl rfl ?_
            refine J_ifc (t := 132) jw hj rfl (evn rfl) rfl (fun (h : (1 : Int) = 0) => absurd h (by decide)) (fun (_ : ¬ (1 : Int) = 0) => ?_)
            exact ih (f_X12_operand H).2 (rp_X12_operand H hr) hx
          · refine J_cst 126 jw hj rfl rfl rfl ?_
            refine J_ld 127 jw hj rfl rfl rfl rfl ?_
            refine J_gfI jw hj rfl (evn rfl) (by decide) rfl (fun r6 => ?_)
            refine J_bin jw hj rfl rfl ?_
            have e : f_X12_smain (k + 1) H = some (iSub (-1) ((f_X12_operand H).2.1 29 16), (f_X12_operand H).2) := by
              rw [f_X12_smain]
              rw [if_neg h0, if_neg h4, if_pos h5, if_pos h6]
            rw [e] at hx
            have e2 := Option.some.inj hx
            have e3 : r.1 = iSub (-1) ((f_X12_operand H).2.1 29 16) := by rw [← e2]
            have e4 : r.2 = (f_X12_operand H).2 := by rw [← e2]
            rw [e3, e4]
            exact J_ret rfl (Or.inl rfl) (fun aw hR => ⟨rfl, hR⟩)
        · refine J_ld 109 jw hj rfl rfl rfl rfl ?_
          refine J_callV1 jw rfl (Or.inl ⟨_, rfl⟩) rfl rfl (sp_X12_behind (g := g) H hr) ?_
          refine J_ifc (t := 48) jw hj rfl (evn rfl) rfl (fun (h7 : ¬ ((f_X12_behind H).1) = 0) => ?_) (fun (h7 : ((f_X12_behind H).1) = 0) => ?_)
          · have e : f_X12_smain (k + 1) H = f_X12_smain k (f_X12_behind H).2 := by
              rw [f_X12_smain]
              rw [if_neg h0, if_neg h4, if_neg h5, if_neg h7]
            rw [e] at hx
            refine J_ld 49 jw hj rfl rfl rfl rfl ?_
            refine J_ifc (t := 132) jw hj rfl (evn rfl) rfl (fun (h : (1 : Int) = 0) => absurd h (by decide)) (fun (_ : ¬ (1 : Int) = 0) => ?_)
            exact ih (f_X12_behind H).2 (rp_X12_behind H hr) hx
          · refine J_goto 125 jw hj rfl rfl ?_
            refine J_cst 126 jw hj rfl rfl rfl ?_
            refine J_ld 127 jw hj rfl rfl rfl rfl ?_
            refine J_gfI jw hj rfl (evn rfl) (by decide) rfl (fun r7 => ?_)
            refine J_bin jw hj rfl rfl ?_
            have e : f_X12_smain (k + 1) H = some (iSub (-1) ((f_X12_behind H).2.1 29 16), (f_X12_behind H).2) := by
              rw [f_X12_smain]
              rw [if_neg h0, if_neg h4, if_neg h5, if_pos h7]
            rw [e] at hx
            have e2 := Option.some.inj hx
            have e3 : r.1 = iSub (-1) ((f_X12_behind H).2.1 29 16) := by rw [← e2]
            have e4 : r.2 = (f_X12_behind H).2 := by rw [← e2]
            rw [e3, e4]
            exact J_ret rfl (Or.inl rfl) (fun aw hR => ⟨rfl, hR⟩)
      · refine J_ld 67 jw hj rfl rfl rfl rfl ?_
        refine J_callV0 jw rfl (Or.inl ⟨_, rfl⟩) rfl rfl (sp_X12_nots (g := g) H hr) ?_
        refine J_ld 71 jw hj rfl rfl rfl rfl ?_
        refine J_cst 73 jw hj rfl rfl rfl ?_
        refine J_callV0 jw rfl (Or.inl ⟨_, rfl⟩) rfl rfl (sp_X12_joins (g := g) 22 (f_X12_nots H) (rp_X12_nots H hr)) ?_
        refine J_ld 77 jw hj rfl rfl rfl rfl ?_
        refine J_gfI jw hj rfl (evn rfl) (by decide) rfl (fun r8 => ?_)
        refine J_ifc (t := 96) jw hj rfl (evn rfl) rfl (fun (h8 : ¬ 0 < ((f_X12_joins 22 (f_X12_nots H)).1 29 48)) => ?_) (fun (h8 : 0 < ((f_X12_joins 22 (f_X12_nots H)).1 29 48)) => ?_)
        · refine J_cst 97 jw hj rfl rfl rfl ?_
          refine J_st 98 [rf (g 29), pt 0, w] (k := 1) jw hj rfl (Or.inr (Or.inr (Or.inl ⟨_, rfl, rfl, rfl⟩))) rfl ?_
          refine J_goto 48 jw hj rfl rfl ?_
          have e : f_X12_smain (k + 1) H = some (f_X12_stail 0 (f_X12_joins 22 (f_X12_nots H))) := by
            rw [f_X12_smain]
            rw [if_neg h0, if_pos h4, if_neg h8]
          rw [e] at hx
          have e2 := Option.some.inj hx
          subst e2
          refine J_ld 49 jw hj rfl rfl rfl rfl ?_
          refine J_ifc (t := 132) jw hj rfl (evn rfl) rfl (fun (_ : (0 : Int) = 0) => ?_) (fun (h : ¬ (0 : Int) = 0) => absurd rfl h)
          exact jx_X12_stail 0 (f_X12_joins 22 (f_X12_nots H)) (rp_X12_joins 22 (f_X12_nots H) (rp_X12_nots H hr))
        · refine J_ld 84 jw hj rfl rfl rfl rfl ?_
          refine J_cst 85 jw hj rfl rfl rfl ?_
          refine J_callV1 jw rfl (Or.inl ⟨_, rfl⟩) rfl rfl (sp_X12_bad (g := g) 1 (f_X12_joins 22 (f_X12_nots H))) ?_
          refine J_pop 89 jw hj rfl rfl ?_
          refine J_cst 90 jw hj rfl rfl rfl ?_
          refine J_ld 91 jw hj rfl rfl rfl rfl ?_
          refine J_gfI jw hj rfl (evn rfl) (by decide) rfl (fun r9 => ?_)
          refine J_bin jw hj rfl rfl ?_
          have e : f_X12_smain (k + 1) H = some (iSub (-1) ((f_X12_bad 1 (f_X12_joins 22 (f_X12_nots H))).2.1 29 16), (f_X12_bad 1 (f_X12_joins 22 (f_X12_nots H))).2) := by
            rw [f_X12_smain]
            rw [if_neg h0, if_pos h4, if_pos h8]
          rw [e] at hx
          have e2 := Option.some.inj hx
          have e3 : r.1 = iSub (-1) ((f_X12_bad 1 (f_X12_joins 22 (f_X12_nots H))).2.1 29 16) := by rw [← e2]
          have e4 : r.2 = (f_X12_bad 1 (f_X12_joins 22 (f_X12_nots H))).2 := by rw [← e2]
          rw [e3, e4]
          exact J_ret rfl (Or.inl rfl) (fun aw hR => ⟨rfl, hR⟩)
def f_X12_sentence (k : Nat) (H : hH) : Option (Int × hH) := f_X12_smain k (f_X12_next (upI (upI (upI (upI (upI (upI (f_X12_taken 200 (upI H 29 0 0)) 29 15 0) 29 46 0) 29 47 0) 29 48 0) 29 49 1) 29 50 0))
set_option maxHeartbeats 16000000 in
set_option maxRecDepth 100000 in
theorem sp_X12_sentence {g : Nat → Nat} (k : Nat) (H : hH) (hr : RMs H.2.2.1) {r : Int × hH} (hx : f_X12_sentence k H = some r) : SP g rvTab rvInf rvRet 316 rvMth 121 [rf (g 29)] H (some (pt r.1)) r.2 := by
  have hj : 121 < 316 := by decide
  refine J_SP hj (Nat.le_of_ble_eq_true rfl) ?_
  show J g rvTab rvInf rvRet 316 rvMth 121 _ 0 [rf (g 29), rvU, rvU] [] H
  refine J_ld 1 jw hj rfl rfl rfl rfl ?_
  refine J_cst 2 jw hj rfl rfl rfl ?_
  refine J_pfI jw hj rfl (evn rfl) rfl ?_
  refine J_ld 6 jw hj rfl rfl rfl rfl ?_
  refine J_cst 9 jw hj rfl rfl rfl ?_
  refine J_callV0 jw rfl (Or.inl ⟨_, rfl⟩) rfl rfl (sp_X12_taken (g := g) 200 (upI H 29 0 0)) ?_
  refine J_ld 13 jw hj rfl rfl rfl rfl ?_
  refine J_cst 14 jw hj rfl rfl rfl ?_
  refine J_pfI jw hj rfl (evn rfl) rfl ?_
  refine J_ld 18 jw hj rfl rfl rfl rfl ?_
  refine J_cst 19 jw hj rfl rfl rfl ?_
  refine J_pfI jw hj rfl (evn rfl) rfl ?_
  refine J_ld 23 jw hj rfl rfl rfl rfl ?_
  refine J_cst 24 jw hj rfl rfl rfl ?_
  refine J_pfI jw hj rfl (evn rfl) rfl ?_
  refine J_ld 28 jw hj rfl rfl rfl rfl ?_
  refine J_cst 29 jw hj rfl rfl rfl ?_
  refine J_pfI jw hj rfl (evn rfl) rfl ?_
  refine J_ld 33 jw hj rfl rfl rfl rfl ?_
  refine J_cst 34 jw hj rfl rfl rfl ?_
  refine J_pfI jw hj rfl (evn rfl) rfl ?_
  refine J_ld 38 jw hj rfl rfl rfl rfl ?_
  refine J_cst 39 jw hj rfl rfl rfl ?_
  refine J_pfI jw hj rfl (evn rfl) rfl ?_
  refine J_ld 43 jw hj rfl rfl rfl rfl ?_
  refine J_callV0 jw rfl (Or.inl ⟨_, rfl⟩) rfl rfl (sp_X12_next (g := g) (upI (upI (upI (upI (upI (upI (f_X12_taken 200 (upI H 29 0 0)) 29 15 0) 29 46 0) 29 47 0) 29 48 0) 29 49 1) 29 50 0) (rp_X12_taken 200 (upI H 29 0 0) hr).1) ?_
  refine J_cst 47 jw hj rfl rfl rfl ?_
  refine J_st 48 [rf (g 29), pt 1, rvU] (k := 1) jw hj rfl (Or.inr (Or.inr (Or.inl ⟨_, rfl, rfl, rfl⟩))) rfl ?_
  refine J_ld 49 jw hj rfl rfl rfl rfl ?_
  refine J_ifc (t := 132) jw hj rfl (evn rfl) rfl (fun (h : (1 : Int) = 0) => absurd h (by decide)) (fun (_ : ¬ (1 : Int) = 0) => ?_)
  exact jx_X12_smain k _ (rp_X12_next (upI (upI (upI (upI (upI (upI (f_X12_taken 200 (upI H 29 0 0)) 29 15 0) 29 46 0) 29 47 0) 29 48 0) 29 49 1) 29 50 0) (rp_X12_taken 200 (upI H 29 0 0) hr)) hx
