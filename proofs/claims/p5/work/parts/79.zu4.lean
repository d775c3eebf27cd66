/-! The reference's book: what exact runs of its reader answer (written by wip/p5/mb.py). -/
theorem rp_X12_takes {P : (Nat → Nat → Option Nat) → Prop} (a1 : Int) (a2 : Int) (H : hH) (hr : P H.2.2.1) : P (f_X12_takes a1 a2 H).2.2.2.1 := by
  unfold f_X12_takes
  by_cases q1 : H.1 29 11 = 2
  · rw [if_pos q1]
    by_cases q2 : f_X12_isIn (H.1 29 14) a1 a2 = 0
    · rw [if_pos q2]
      exact (rp_X12_bad 2 H hr)
    · rw [if_neg q2]
      exact (rp_X12_next (upI H 29 18 (H.1 29 14)) hr)
  · rw [if_neg q1]
    exact (rp_X12_bad 1 H hr)
theorem rp_X12_sign {P : (Nat → Nat → Option Nat) → Prop} (a1 : Int) (H : hH) (hr : P H.2.2.1) : P (f_X12_sign a1 H).2.2.2.1 := by
  unfold f_X12_sign
  by_cases q1 : f_X12_isSign a1 H = 0
  · rw [if_pos q1]
    exact (rp_X12_bad 1 H hr)
  · rw [if_neg q1]
    exact (rp_X12_next H hr)
theorem rp_X12_takesName {P : (Nat → Nat → Option Nat) → Prop} (a1 : Int) (a2 : Int) (H : hH) (hr : P H.2.2.1) : P (f_X12_takesName a1 a2 H).2.2.2.1 := by
  unfold f_X12_takesName
  by_cases q1 : ((f_X12_looksAt a1 a2 H).1) = 0
  · rw [if_pos q1]
    exact (rp_X12_looksAt a1 a2 H hr)
  · rw [if_neg q1]
    exact (rp_X12_next (f_X12_looksAt a1 a2 H).2 (rp_X12_looksAt a1 a2 H hr))
def f_X12_bookLine  (H : hH) : Int × hH :=
  if f_X12_isWord 2036687218 H = 0 then
    if ((f_X12_looksAt 7 (H.1 31 2) H).1) = 0 then
      (0, (f_X12_looksAt 7 (H.1 31 2) H).2)
    else
      if ((f_X12_looksAt 7 (H.1 31 2) H).2.1 29 42) = 40 then
        ((f_X12_bad 4 (f_X12_looksAt 7 (H.1 31 2) H).2).1, (f_X12_bad 4 (f_X12_looksAt 7 (H.1 31 2) H).2).2)
      else
        if f_X12_isWord 2036687218 H = 0 then
          if f_X12_isWord 1734702195 (f_X12_next (upI (upI (f_X12_looksAt 7 (H.1 31 2) H).2 33 (iMul 3 (H.1 29 42)).toNat 5) 33 (iAdd (iMul 3 (H.1 29 42)) 1).toNat ((f_X12_looksAt 7 (H.1 31 2) H).2.1 29 18))) = 0 then
            if f_X12_isWord 465726301555 (f_X12_next (upI (upI (f_X12_looksAt 7 (H.1 31 2) H).2 33 (iMul 3 (H.1 29 42)).toNat 5) 33 (iAdd (iMul 3 (H.1 29 42)) 1).toNat ((f_X12_looksAt 7 (H.1 31 2) H).2.1 29 18))) = 0 then
              if f_X12_isWord 470021465459 (f_X12_next (upI (upI (f_X12_looksAt 7 (H.1 31 2) H).2 33 (iMul 3 (H.1 29 42)).toNat 5) 33 (iAdd (iMul 3 (H.1 29 42)) 1).toNat ((f_X12_looksAt 7 (H.1 31 2) H).2.1 29 18))) = 0 then
                if f_X12_isWord 119182682645875 (f_X12_next (upI (upI (f_X12_looksAt 7 (H.1 31 2) H).2 33 (iMul 3 (H.1 29 42)).toNat 5) 33 (iAdd (iMul 3 (H.1 29 42)) 1).toNat ((f_X12_looksAt 7 (H.1 31 2) H).2.1 29 18))) = 0 then
                  if f_X12_isWord 427071202675 (f_X12_next (upI (upI (f_X12_looksAt 7 (H.1 31 2) H).2 33 (iMul 3 (H.1 29 42)).toNat 5) 33 (iAdd (iMul 3 (H.1 29 42)) 1).toNat ((f_X12_looksAt 7 (H.1 31 2) H).2.1 29 18))) = 0 then
                    ((f_X12_bad 1 (f_X12_next (upI (upI (f_X12_looksAt 7 (H.1 31 2) H).2 33 (iMul 3 (H.1 29 42)).toNat 5) 33 (iAdd (iMul 3 (H.1 29 42)) 1).toNat ((f_X12_looksAt 7 (H.1 31 2) H).2.1 29 18)))).1, (f_X12_bad 1 (f_X12_next (upI (upI (f_X12_looksAt 7 (H.1 31 2) H).2 33 (iMul 3 (H.1 29 42)).toNat 5) 33 (iAdd (iMul 3 (H.1 29 42)) 1).toNat ((f_X12_looksAt 7 (H.1 31 2) H).2.1 29 18)))).2)
                  else
                    (1, (f_X12_next (upI (f_X12_next (upI (upI (f_X12_looksAt 7 (H.1 31 2) H).2 33 (iMul 3 (H.1 29 42)).toNat 5) 33 (iAdd (iMul 3 (H.1 29 42)) 1).toNat ((f_X12_looksAt 7 (H.1 31 2) H).2.1 29 18))) 33 (iMul 3 (H.1 29 42)).toNat 4)))
                else
                  (1, (f_X12_next (upI (f_X12_next (upI (upI (f_X12_looksAt 7 (H.1 31 2) H).2 33 (iMul 3 (H.1 29 42)).toNat 5) 33 (iAdd (iMul 3 (H.1 29 42)) 1).toNat ((f_X12_looksAt 7 (H.1 31 2) H).2.1 29 18))) 33 (iMul 3 (H.1 29 42)).toNat 3)))
              else
                if ((f_X12_takesName 0 ((f_X12_next (upI (f_X12_next (upI (upI (f_X12_looksAt 7 (H.1 31 2) H).2 33 (iMul 3 (H.1 29 42)).toNat 5) 33 (iAdd (iMul 3 (H.1 29 42)) 1).toNat ((f_X12_looksAt 7 (H.1 31 2) H).2.1 29 18))) 33 (iMul 3 (H.1 29 42)).toNat 2)).1 31 0) (f_X12_next (upI (f_X12_next (upI (upI (f_X12_looksAt 7 (H.1 31 2) H).2 33 (iMul 3 (H.1 29 42)).toNat 5) 33 (iAdd (iMul 3 (H.1 29 42)) 1).toNat ((f_X12_looksAt 7 (H.1 31 2) H).2.1 29 18))) 33 (iMul 3 (H.1 29 42)).toNat 2))).1) = 0 then
                  (0, (f_X12_takesName 0 ((f_X12_next (upI (f_X12_next (upI (upI (f_X12_looksAt 7 (H.1 31 2) H).2 33 (iMul 3 (H.1 29 42)).toNat 5) 33 (iAdd (iMul 3 (H.1 29 42)) 1).toNat ((f_X12_looksAt 7 (H.1 31 2) H).2.1 29 18))) 33 (iMul 3 (H.1 29 42)).toNat 2)).1 31 0) (f_X12_next (upI (f_X12_next (upI (upI (f_X12_looksAt 7 (H.1 31 2) H).2 33 (iMul 3 (H.1 29 42)).toNat 5) 33 (iAdd (iMul 3 (H.1 29 42)) 1).toNat ((f_X12_looksAt 7 (H.1 31 2) H).2.1 29 18))) 33 (iMul 3 (H.1 29 42)).toNat 2))).2)
                else
                  (1, (upI (f_X12_takesName 0 ((f_X12_next (upI (f_X12_next (upI (upI (f_X12_looksAt 7 (H.1 31 2) H).2 33 (iMul 3 (H.1 29 42)).toNat 5) 33 (iAdd (iMul 3 (H.1 29 42)) 1).toNat ((f_X12_looksAt 7 (H.1 31 2) H).2.1 29 18))) 33 (iMul 3 (H.1 29 42)).toNat 2)).1 31 0) (f_X12_next (upI (f_X12_next (upI (upI (f_X12_looksAt 7 (H.1 31 2) H).2 33 (iMul 3 (H.1 29 42)).toNat 5) 33 (iAdd (iMul 3 (H.1 29 42)) 1).toNat ((f_X12_looksAt 7 (H.1 31 2) H).2.1 29 18))) 33 (iMul 3 (H.1 29 42)).toNat 2))).2 33 (iAdd (iMul 3 (H.1 29 42)) 2).toNat ((f_X12_takesName 0 ((f_X12_next (upI (f_X12_next (upI (upI (f_X12_looksAt 7 (H.1 31 2) H).2 33 (iMul 3 (H.1 29 42)).toNat 5) 33 (iAdd (iMul 3 (H.1 29 42)) 1).toNat ((f_X12_looksAt 7 (H.1 31 2) H).2.1 29 18))) 33 (iMul 3 (H.1 29 42)).toNat 2)).1 31 0) (f_X12_next (upI (f_X12_next (upI (upI (f_X12_looksAt 7 (H.1 31 2) H).2 33 (iMul 3 (H.1 29 42)).toNat 5) 33 (iAdd (iMul 3 (H.1 29 42)) 1).toNat ((f_X12_looksAt 7 (H.1 31 2) H).2.1 29 18))) 33 (iMul 3 (H.1 29 42)).toNat 2))).2.1 29 18)))
            else
              if ((f_X12_takesName 17 ((f_X12_next (upI (f_X12_next (upI (upI (f_X12_looksAt 7 (H.1 31 2) H).2 33 (iMul 3 (H.1 29 42)).toNat 5) 33 (iAdd (iMul 3 (H.1 29 42)) 1).toNat ((f_X12_looksAt 7 (H.1 31 2) H).2.1 29 18))) 33 (iMul 3 (H.1 29 42)).toNat 1)).1 31 3) (f_X12_next (upI (f_X12_next (upI (upI (f_X12_looksAt 7 (H.1 31 2) H).2 33 (iMul 3 (H.1 29 42)).toNat 5) 33 (iAdd (iMul 3 (H.1 29 42)) 1).toNat ((f_X12_looksAt 7 (H.1 31 2) H).2.1 29 18))) 33 (iMul 3 (H.1 29 42)).toNat 1))).1) = 0 then
                (0, (f_X12_takesName 17 ((f_X12_next (upI (f_X12_next (upI (upI (f_X12_looksAt 7 (H.1 31 2) H).2 33 (iMul 3 (H.1 29 42)).toNat 5) 33 (iAdd (iMul 3 (H.1 29 42)) 1).toNat ((f_X12_looksAt 7 (H.1 31 2) H).2.1 29 18))) 33 (iMul 3 (H.1 29 42)).toNat 1)).1 31 3) (f_X12_next (upI (f_X12_next (upI (upI (f_X12_looksAt 7 (H.1 31 2) H).2 33 (iMul 3 (H.1 29 42)).toNat 5) 33 (iAdd (iMul 3 (H.1 29 42)) 1).toNat ((f_X12_looksAt 7 (H.1 31 2) H).2.1 29 18))) 33 (iMul 3 (H.1 29 42)).toNat 1))).2)
              else
                (1, (upI (f_X12_takesName 17 ((f_X12_next (upI (f_X12_next (upI (upI (f_X12_looksAt 7 (H.1 31 2) H).2 33 (iMul 3 (H.1 29 42)).toNat 5) 33 (iAdd (iMul 3 (H.1 29 42)) 1).toNat ((f_X12_looksAt 7 (H.1 31 2) H).2.1 29 18))) 33 (iMul 3 (H.1 29 42)).toNat 1)).1 31 3) (f_X12_next (upI (f_X12_next (upI (upI (f_X12_looksAt 7 (H.1 31 2) H).2 33 (iMul 3 (H.1 29 42)).toNat 5) 33 (iAdd (iMul 3 (H.1 29 42)) 1).toNat ((f_X12_looksAt 7 (H.1 31 2) H).2.1 29 18))) 33 (iMul 3 (H.1 29 42)).toNat 1))).2 33 (iAdd (iMul 3 (H.1 29 42)) 2).toNat ((f_X12_takesName 17 ((f_X12_next (upI (f_X12_next (upI (upI (f_X12_looksAt 7 (H.1 31 2) H).2 33 (iMul 3 (H.1 29 42)).toNat 5) 33 (iAdd (iMul 3 (H.1 29 42)) 1).toNat ((f_X12_looksAt 7 (H.1 31 2) H).2.1 29 18))) 33 (iMul 3 (H.1 29 42)).toNat 1)).1 31 3) (f_X12_next (upI (f_X12_next (upI (upI (f_X12_looksAt 7 (H.1 31 2) H).2 33 (iMul 3 (H.1 29 42)).toNat 5) 33 (iAdd (iMul 3 (H.1 29 42)) 1).toNat ((f_X12_looksAt 7 (H.1 31 2) H).2.1 29 18))) 33 (iMul 3 (H.1 29 42)).toNat 1))).2.1 29 18)))
          else
            if ((f_X12_takesName 17 ((f_X12_next (upI (f_X12_next (upI (upI (f_X12_looksAt 7 (H.1 31 2) H).2 33 (iMul 3 (H.1 29 42)).toNat 5) 33 (iAdd (iMul 3 (H.1 29 42)) 1).toNat ((f_X12_looksAt 7 (H.1 31 2) H).2.1 29 18))) 33 (iMul 3 (H.1 29 42)).toNat 0)).1 31 3) (f_X12_next (upI (f_X12_next (upI (upI (f_X12_looksAt 7 (H.1 31 2) H).2 33 (iMul 3 (H.1 29 42)).toNat 5) 33 (iAdd (iMul 3 (H.1 29 42)) 1).toNat ((f_X12_looksAt 7 (H.1 31 2) H).2.1 29 18))) 33 (iMul 3 (H.1 29 42)).toNat 0))).1) = 0 then
              (0, (f_X12_takesName 17 ((f_X12_next (upI (f_X12_next (upI (upI (f_X12_looksAt 7 (H.1 31 2) H).2 33 (iMul 3 (H.1 29 42)).toNat 5) 33 (iAdd (iMul 3 (H.1 29 42)) 1).toNat ((f_X12_looksAt 7 (H.1 31 2) H).2.1 29 18))) 33 (iMul 3 (H.1 29 42)).toNat 0)).1 31 3) (f_X12_next (upI (f_X12_next (upI (upI (f_X12_looksAt 7 (H.1 31 2) H).2 33 (iMul 3 (H.1 29 42)).toNat 5) 33 (iAdd (iMul 3 (H.1 29 42)) 1).toNat ((f_X12_looksAt 7 (H.1 31 2) H).2.1 29 18))) 33 (iMul 3 (H.1 29 42)).toNat 0))).2)
            else
              (1, (upI (f_X12_takesName 17 ((f_X12_next (upI (f_X12_next (upI (upI (f_X12_looksAt 7 (H.1 31 2) H).2 33 (iMul 3 (H.1 29 42)).toNat 5) 33 (iAdd (iMul 3 (H.1 29 42)) 1).toNat ((f_X12_looksAt 7 (H.1 31 2) H).2.1 29 18))) 33 (iMul 3 (H.1 29 42)).toNat 0)).1 31 3) (f_X12_next (upI (f_X12_next (upI (upI (f_X12_looksAt 7 (H.1 31 2) H).2 33 (iMul 3 (H.1 29 42)).toNat 5) 33 (iAdd (iMul 3 (H.1 29 42)) 1).toNat ((f_X12_looksAt 7 (H.1 31 2) H).2.1 29 18))) 33 (iMul 3 (H.1 29 42)).toNat 0))).2 33 (iAdd (iMul 3 (H.1 29 42)) 2).toNat ((f_X12_takesName 17 ((f_X12_next (upI (f_X12_next (upI (upI (f_X12_looksAt 7 (H.1 31 2) H).2 33 (iMul 3 (H.1 29 42)).toNat 5) 33 (iAdd (iMul 3 (H.1 29 42)) 1).toNat ((f_X12_looksAt 7 (H.1 31 2) H).2.1 29 18))) 33 (iMul 3 (H.1 29 42)).toNat 0)).1 31 3) (f_X12_next (upI (f_X12_next (upI (upI (f_X12_looksAt 7 (H.1 31 2) H).2 33 (iMul 3 (H.1 29 42)).toNat 5) 33 (iAdd (iMul 3 (H.1 29 42)) 1).toNat ((f_X12_looksAt 7 (H.1 31 2) H).2.1 29 18))) 33 (iMul 3 (H.1 29 42)).toNat 0))).2.1 29 18)))
        else
          if ((f_X12_takes 1 60 (f_X12_next (upI (upI (f_X12_looksAt 7 (H.1 31 2) H).2 33 (iMul 3 (H.1 29 42)).toNat 5) 33 (iAdd (iMul 3 (H.1 29 42)) 1).toNat ((f_X12_looksAt 7 (H.1 31 2) H).2.1 29 18)))).1) = 0 then
            (0, (f_X12_takes 1 60 (f_X12_next (upI (upI (f_X12_looksAt 7 (H.1 31 2) H).2 33 (iMul 3 (H.1 29 42)).toNat 5) 33 (iAdd (iMul 3 (H.1 29 42)) 1).toNat ((f_X12_looksAt 7 (H.1 31 2) H).2.1 29 18)))).2)
          else
            (1, (upI (f_X12_takes 1 60 (f_X12_next (upI (upI (f_X12_looksAt 7 (H.1 31 2) H).2 33 (iMul 3 (H.1 29 42)).toNat 5) 33 (iAdd (iMul 3 (H.1 29 42)) 1).toNat ((f_X12_looksAt 7 (H.1 31 2) H).2.1 29 18)))).2 33 (iAdd (iMul 3 (H.1 29 42)) 1).toNat ((f_X12_takes 1 60 (f_X12_next (upI (upI (f_X12_looksAt 7 (H.1 31 2) H).2 33 (iMul 3 (H.1 29 42)).toNat 5) 33 (iAdd (iMul 3 (H.1 29 42)) 1).toNat ((f_X12_looksAt 7 (H.1 31 2) H).2.1 29 18)))).2.1 29 18)))
  else
    if H.1 29 42 = 40 then
      ((f_X12_bad 4 H).1, (f_X12_bad 4 H).2)
    else
      if f_X12_isWord 2036687218 H = 0 then
        if f_X12_isWord 1734702195 (f_X12_next (upI (upI H 33 (iMul 3 (H.1 29 42)).toNat 5) 33 (iAdd (iMul 3 (H.1 29 42)) 1).toNat (H.1 29 18))) = 0 then
          if f_X12_isWord 465726301555 (f_X12_next (upI (upI H 33 (iMul 3 (H.1 29 42)).toNat 5) 33 (iAdd (iMul 3 (H.1 29 42)) 1).toNat (H.1 29 18))) = 0 then
            if f_X12_isWord 470021465459 (f_X12_next (upI (upI H 33 (iMul 3 (H.1 29 42)).toNat 5) 33 (iAdd (iMul 3 (H.1 29 42)) 1).toNat (H.1 29 18))) = 0 then
              if f_X12_isWord 119182682645875 (f_X12_next (upI (upI H 33 (iMul 3 (H.1 29 42)).toNat 5) 33 (iAdd (iMul 3 (H.1 29 42)) 1).toNat (H.1 29 18))) = 0 then
                if f_X12_isWord 427071202675 (f_X12_next (upI (upI H 33 (iMul 3 (H.1 29 42)).toNat 5) 33 (iAdd (iMul 3 (H.1 29 42)) 1).toNat (H.1 29 18))) = 0 then
                  ((f_X12_bad 1 (f_X12_next (upI (upI H 33 (iMul 3 (H.1 29 42)).toNat 5) 33 (iAdd (iMul 3 (H.1 29 42)) 1).toNat (H.1 29 18)))).1, (f_X12_bad 1 (f_X12_next (upI (upI H 33 (iMul 3 (H.1 29 42)).toNat 5) 33 (iAdd (iMul 3 (H.1 29 42)) 1).toNat (H.1 29 18)))).2)
                else
                  (1, (f_X12_next (upI (f_X12_next (upI (upI H 33 (iMul 3 (H.1 29 42)).toNat 5) 33 (iAdd (iMul 3 (H.1 29 42)) 1).toNat (H.1 29 18))) 33 (iMul 3 (H.1 29 42)).toNat 4)))
              else
                (1, (f_X12_next (upI (f_X12_next (upI (upI H 33 (iMul 3 (H.1 29 42)).toNat 5) 33 (iAdd (iMul 3 (H.1 29 42)) 1).toNat (H.1 29 18))) 33 (iMul 3 (H.1 29 42)).toNat 3)))
            else
              if ((f_X12_takesName 0 ((f_X12_next (upI (f_X12_next (upI (upI H 33 (iMul 3 (H.1 29 42)).toNat 5) 33 (iAdd (iMul 3 (H.1 29 42)) 1).toNat (H.1 29 18))) 33 (iMul 3 (H.1 29 42)).toNat 2)).1 31 0) (f_X12_next (upI (f_X12_next (upI (upI H 33 (iMul 3 (H.1 29 42)).toNat 5) 33 (iAdd (iMul 3 (H.1 29 42)) 1).toNat (H.1 29 18))) 33 (iMul 3 (H.1 29 42)).toNat 2))).1) = 0 then
                (0, (f_X12_takesName 0 ((f_X12_next (upI (f_X12_next (upI (upI H 33 (iMul 3 (H.1 29 42)).toNat 5) 33 (iAdd (iMul 3 (H.1 29 42)) 1).toNat (H.1 29 18))) 33 (iMul 3 (H.1 29 42)).toNat 2)).1 31 0) (f_X12_next (upI (f_X12_next (upI (upI H 33 (iMul 3 (H.1 29 42)).toNat 5) 33 (iAdd (iMul 3 (H.1 29 42)) 1).toNat (H.1 29 18))) 33 (iMul 3 (H.1 29 42)).toNat 2))).2)
              else
                (1, (upI (f_X12_takesName 0 ((f_X12_next (upI (f_X12_next (upI (upI H 33 (iMul 3 (H.1 29 42)).toNat 5) 33 (iAdd (iMul 3 (H.1 29 42)) 1).toNat (H.1 29 18))) 33 (iMul 3 (H.1 29 42)).toNat 2)).1 31 0) (f_X12_next (upI (f_X12_next (upI (upI H 33 (iMul 3 (H.1 29 42)).toNat 5) 33 (iAdd (iMul 3 (H.1 29 42)) 1).toNat (H.1 29 18))) 33 (iMul 3 (H.1 29 42)).toNat 2))).2 33 (iAdd (iMul 3 (H.1 29 42)) 2).toNat ((f_X12_takesName 0 ((f_X12_next (upI (f_X12_next (upI (upI H 33 (iMul 3 (H.1 29 42)).toNat 5) 33 (iAdd (iMul 3 (H.1 29 42)) 1).toNat (H.1 29 18))) 33 (iMul 3 (H.1 29 42)).toNat 2)).1 31 0) (f_X12_next (upI (f_X12_next (upI (upI H 33 (iMul 3 (H.1 29 42)).toNat 5) 33 (iAdd (iMul 3 (H.1 29 42)) 1).toNat (H.1 29 18))) 33 (iMul 3 (H.1 29 42)).toNat 2))).2.1 29 18)))
          else
            if ((f_X12_takesName 17 ((f_X12_next (upI (f_X12_next (upI (upI H 33 (iMul 3 (H.1 29 42)).toNat 5) 33 (iAdd (iMul 3 (H.1 29 42)) 1).toNat (H.1 29 18))) 33 (iMul 3 (H.1 29 42)).toNat 1)).1 31 3) (f_X12_next (upI (f_X12_next (upI (upI H 33 (iMul 3 (H.1 29 42)).toNat 5) 33 (iAdd (iMul 3 (H.1 29 42)) 1).toNat (H.1 29 18))) 33 (iMul 3 (H.1 29 42)).toNat 1))).1) = 0 then
              (0, (f_X12_takesName 17 ((f_X12_next (upI (f_X12_next (upI (upI H 33 (iMul 3 (H.1 29 42)).toNat 5) 33 (iAdd (iMul 3 (H.1 29 42)) 1).toNat (H.1 29 18))) 33 (iMul 3 (H.1 29 42)).toNat 1)).1 31 3) (f_X12_next (upI (f_X12_next (upI (upI H 33 (iMul 3 (H.1 29 42)).toNat 5) 33 (iAdd (iMul 3 (H.1 29 42)) 1).toNat (H.1 29 18))) 33 (iMul 3 (H.1 29 42)).toNat 1))).2)
            else
              (1, (upI (f_X12_takesName 17 ((f_X12_next (upI (f_X12_next (upI (upI H 33 (iMul 3 (H.1 29 42)).toNat 5) 33 (iAdd (iMul 3 (H.1 29 42)) 1).toNat (H.1 29 18))) 33 (iMul 3 (H.1 29 42)).toNat 1)).1 31 3) (f_X12_next (upI (f_X12_next (upI (upI H 33 (iMul 3 (H.1 29 42)).toNat 5) 33 (iAdd (iMul 3 (H.1 29 42)) 1).toNat (H.1 29 18))) 33 (iMul 3 (H.1 29 42)).toNat 1))).2 33 (iAdd (iMul 3 (H.1 29 42)) 2).toNat ((f_X12_takesName 17 ((f_X12_next (upI (f_X12_next (upI (upI H 33 (iMul 3 (H.1 29 42)).toNat 5) 33 (iAdd (iMul 3 (H.1 29 42)) 1).toNat (H.1 29 18))) 33 (iMul 3 (H.1 29 42)).toNat 1)).1 31 3) (f_X12_next (upI (f_X12_next (upI (upI H 33 (iMul 3 (H.1 29 42)).toNat 5) 33 (iAdd (iMul 3 (H.1 29 42)) 1).toNat (H.1 29 18))) 33 (iMul 3 (H.1 29 42)).toNat 1))).2.1 29 18)))
        else
          if ((f_X12_takesName 17 ((f_X12_next (upI (f_X12_next (upI (upI H 33 (iMul 3 (H.1 29 42)).toNat 5) 33 (iAdd (iMul 3 (H.1 29 42)) 1).toNat (H.1 29 18))) 33 (iMul 3 (H.1 29 42)).toNat 0)).1 31 3) (f_X12_next (upI (f_X12_next (upI (upI H 33 (iMul 3 (H.1 29 42)).toNat 5) 33 (iAdd (iMul 3 (H.1 29 42)) 1).toNat (H.1 29 18))) 33 (iMul 3 (H.1 29 42)).toNat 0))).1) = 0 then
            (0, (f_X12_takesName 17 ((f_X12_next (upI (f_X12_next (upI (upI H 33 (iMul 3 (H.1 29 42)).toNat 5) 33 (iAdd (iMul 3 (H.1 29 42)) 1).toNat (H.1 29 18))) 33 (iMul 3 (H.1 29 42)).toNat 0)).1 31 3) (f_X12_next (upI (f_X12_next (upI (upI H 33 (iMul 3 (H.1 29 42)).toNat 5) 33 (iAdd (iMul 3 (H.1 29 42)) 1).toNat (H.1 29 18))) 33 (iMul 3 (H.1 29 42)).toNat 0))).2)
          else
            (1, (upI (f_X12_takesName 17 ((f_X12_next (upI (f_X12_next (upI (upI H 33 (iMul 3 (H.1 29 42)).toNat 5) 33 (iAdd (iMul 3 (H.1 29 42)) 1).toNat (H.1 29 18))) 33 (iMul 3 (H.1 29 42)).toNat 0)).1 31 3) (f_X12_next (upI (f_X12_next (upI (upI H 33 (iMul 3 (H.1 29 42)).toNat 5) 33 (iAdd (iMul 3 (H.1 29 42)) 1).toNat (H.1 29 18))) 33 (iMul 3 (H.1 29 42)).toNat 0))).2 33 (iAdd (iMul 3 (H.1 29 42)) 2).toNat ((f_X12_takesName 17 ((f_X12_next (upI (f_X12_next (upI (upI H 33 (iMul 3 (H.1 29 42)).toNat 5) 33 (iAdd (iMul 3 (H.1 29 42)) 1).toNat (H.1 29 18))) 33 (iMul 3 (H.1 29 42)).toNat 0)).1 31 3) (f_X12_next (upI (f_X12_next (upI (upI H 33 (iMul 3 (H.1 29 42)).toNat 5) 33 (iAdd (iMul 3 (H.1 29 42)) 1).toNat (H.1 29 18))) 33 (iMul 3 (H.1 29 42)).toNat 0))).2.1 29 18)))
      else
        if ((f_X12_takes 1 60 (f_X12_next (upI (upI H 33 (iMul 3 (H.1 29 42)).toNat 5) 33 (iAdd (iMul 3 (H.1 29 42)) 1).toNat (H.1 29 18)))).1) = 0 then
          (0, (f_X12_takes 1 60 (f_X12_next (upI (upI H 33 (iMul 3 (H.1 29 42)).toNat 5) 33 (iAdd (iMul 3 (H.1 29 42)) 1).toNat (H.1 29 18)))).2)
        else
          (1, (upI (f_X12_takes 1 60 (f_X12_next (upI (upI H 33 (iMul 3 (H.1 29 42)).toNat 5) 33 (iAdd (iMul 3 (H.1 29 42)) 1).toNat (H.1 29 18)))).2 33 (iAdd (iMul 3 (H.1 29 42)) 1).toNat ((f_X12_takes 1 60 (f_X12_next (upI (upI H 33 (iMul 3 (H.1 29 42)).toNat 5) 33 (iAdd (iMul 3 (H.1 29 42)) 1).toNat (H.1 29 18)))).2.1 29 18)))
set_option maxHeartbeats 16000000 in
set_option maxRecDepth 100000 in
theorem sp_X12_bookLine {g : Nat → Nat}  (H : hH) (hr : RMs H.2.2.1) : SP g rvTab rvInf rvRet 316 rvMth 214 [rf (g 29)] H (some (pt (f_X12_bookLine H).1)) (f_X12_bookLine H).2 := by
  have hj : 214 < 316 := by decide
  refine J_SP hj (Nat.le_of_ble_eq_true rfl) ?_
  show J g rvTab rvInf rvRet 316 rvMth 214 _ 0 [rf (g 29), rvU, rvU, rvU] [] H
  refine J_cst 1 jw hj rfl rfl rfl ?_
  refine J_ld 2 jw hj rfl rfl rfl rfl ?_
  refine J_gfI jw hj rfl (evn rfl) (by decide) rfl (fun r0 => ?_)
  refine J_bin jw hj rfl rfl ?_
  refine J_st 7 [rf (g 29), pt (iMul 3 (H.1 29 42)), rvU, rvU] (k := 1) jw hj rfl (Or.inr (Or.inr (Or.inl ⟨_, rfl, rfl, rfl⟩))) rfl ?_
  refine J_ld 8 jw hj rfl rfl rfl rfl ?_
  refine J_lc (n := 2036687218) 11 jw hj rfl (Or.inr ⟨_, rfl, by decide +kernel, rfl⟩) ?_
  refine J_callV1 jw rfl (Or.inl ⟨_, rfl⟩) rfl rfl (sp_X12_isWord (g := g) 2036687218 H) ?_
  refine J_st 15 [rf (g 29), pt (iMul 3 (H.1 29 42)), pt (f_X12_isWord 2036687218 H), rvU] (k := 2) jw hj rfl (Or.inr (Or.inr (Or.inl ⟨_, rfl, rfl, rfl⟩))) rfl ?_
  refine J_ld 16 jw hj rfl rfl rfl rfl ?_
  refine J_ifc (t := 36) jw hj rfl (evn rfl) rfl (fun (h0 : ¬ f_X12_isWord 2036687218 H = 0) => ?_) (fun (h0 : f_X12_isWord 2036687218 H = 0) => ?_)
  · refine J_ld 37 jw hj rfl rfl rfl rfl ?_
    refine J_gfI jw hj rfl (evn rfl) (by decide) rfl (fun r1 => ?_)
    refine J_cst 42 jw hj rfl rfl rfl ?_
    refine J_icmp (t := 51) jw hj rfl (evn rfl) rfl (fun (h1 : ¬ H.1 29 42 = 40) => ?_) (fun (h1 : H.1 29 42 = 40) => ?_)
    · refine J_ld 52 jw hj rfl rfl rfl rfl ?_
      refine J_gfR (k := 33) jw hj rfl (evn rfl) (by decide) (by decide) (RMa hr.1 rfl) ?_
      refine J_ld 56 jw hj rfl rfl rfl rfl ?_
      refine J_cst 57 jw hj rfl rfl rfl ?_
      refine J_iast jw hj rfl (Or.inl rfl) (fun _ => ?_)
      refine J_ld 59 jw hj rfl rfl rfl rfl ?_
      refine J_gfR (k := 33) jw hj rfl (evn rfl) (by decide) (by decide) (RMa hr.1 rfl) ?_
      refine J_ld 63 jw hj rfl rfl rfl rfl ?_
      refine J_cst 64 jw hj rfl rfl rfl ?_
      refine J_bin jw hj rfl rfl ?_
      refine J_ld 66 jw hj rfl rfl rfl rfl ?_
      refine J_gfI jw hj rfl (evn rfl) (by decide) rfl (fun r2 => ?_)
      refine J_iast jw hj rfl (Or.inl rfl) (fun _ => ?_)
      refine J_ld 71 jw hj rfl rfl rfl rfl ?_
      refine J_callV0 jw rfl (Or.inl ⟨_, rfl⟩) rfl rfl (sp_X12_next (g := g) (upI (upI H 33 (iMul 3 (H.1 29 42)).toNat 5) 33 (iAdd (iMul 3 (H.1 29 42)) 1).toNat (H.1 29 18)) hr.1) ?_
      refine J_ld 75 jw hj rfl rfl rfl rfl ?_
      refine J_ifc (t := 104) jw hj rfl (evn rfl) rfl (fun (h2 : f_X12_isWord 2036687218 H = 0) => ?_) (fun (h2 : ¬ f_X12_isWord 2036687218 H = 0) => ?_)
      · refine J_ld 105 jw hj rfl rfl rfl rfl ?_
        refine J_lc (n := 1734702195) 108 jw hj rfl (Or.inr ⟨_, rfl, by decide +kernel, rfl⟩) ?_
        refine J_callV1 jw rfl (Or.inl ⟨_, rfl⟩) rfl rfl (sp_X12_isWord (g := g) 1734702195 (f_X12_next (upI (upI H 33 (iMul 3 (H.1 29 42)).toNat 5) 33 (iAdd (iMul 3 (H.1 29 42)) 1).toNat (H.1 29 18)))) ?_
        refine J_ifc (t := 118) jw hj rfl (evn rfl) rfl (fun (h3 : f_X12_isWord 1734702195 (f_X12_next (upI (upI H 33 (iMul 3 (H.1 29 42)).toNat 5) 33 (iAdd (iMul 3 (H.1 29 42)) 1).toNat (H.1 29 18))) = 0) => ?_) (fun (h3 : ¬ f_X12_isWord 1734702195 (f_X12_next (upI (upI H 33 (iMul 3 (H.1 29 42)).toNat 5) 33 (iAdd (iMul 3 (H.1 29 42)) 1).toNat (H.1 29 18))) = 0) => ?_)
        · refine J_ld 119 jw hj rfl rfl rfl rfl ?_
          refine J_lc (n := 465726301555) 122 jw hj rfl (Or.inr ⟨_, rfl, by decide +kernel, rfl⟩) ?_
          refine J_callV1 jw rfl (Or.inl ⟨_, rfl⟩) rfl rfl (sp_X12_isWord (g := g) 465726301555 (f_X12_next (upI (upI H 33 (iMul 3 (H.1 29 42)).toNat 5) 33 (iAdd (iMul 3 (H.1 29 42)) 1).toNat (H.1 29 18)))) ?_
          refine J_ifc (t := 132) jw hj rfl (evn rfl) rfl (fun (h4 : f_X12_isWord 465726301555 (f_X12_next (upI (upI H 33 (iMul 3 (H.1 29 42)).toNat 5) 33 (iAdd (iMul 3 (H.1 29 42)) 1).toNat (H.1 29 18))) = 0) => ?_) (fun (h4 : ¬ f_X12_isWord 465726301555 (f_X12_next (upI (upI H 33 (iMul 3 (H.1 29 42)).toNat 5) 33 (iAdd (iMul 3 (H.1 29 42)) 1).toNat (H.1 29 18))) = 0) => ?_)
          · refine J_ld 133 jw hj rfl rfl rfl rfl ?_
            refine J_lc (n := 470021465459) 136 jw hj rfl (Or.inr ⟨_, rfl, by decide +kernel, rfl⟩) ?_
            refine J_callV1 jw rfl (Or.inl ⟨_, rfl⟩) rfl rfl (sp_X12_isWord (g := g) 470021465459 (f_X12_next (upI (upI H 33 (iMul 3 (H.1 29 42)).toNat 5) 33 (iAdd (iMul 3 (H.1 29 42)) 1).toNat (H.1 29 18)))) ?_
            refine J_ifc (t := 146) jw hj rfl (evn rfl) rfl (fun (h5 : f_X12_isWord 470021465459 (f_X12_next (upI (upI H 33 (iMul 3 (H.1 29 42)).toNat 5) 33 (iAdd (iMul 3 (H.1 29 42)) 1).toNat (H.1 29 18))) = 0) => ?_) (fun (h5 : ¬ f_X12_isWord 470021465459 (f_X12_next (upI (upI H 33 (iMul 3 (H.1 29 42)).toNat 5) 33 (iAdd (iMul 3 (H.1 29 42)) 1).toNat (H.1 29 18))) = 0) => ?_)
            · refine J_ld 147 jw hj rfl rfl rfl rfl ?_
              refine J_lc (n := 119182682645875) 150 jw hj rfl (Or.inr ⟨_, rfl, by decide +kernel, rfl⟩) ?_
              refine J_callV1 jw rfl (Or.inl ⟨_, rfl⟩) rfl rfl (sp_X12_isWord (g := g) 119182682645875 (f_X12_next (upI (upI H 33 (iMul 3 (H.1 29 42)).toNat 5) 33 (iAdd (iMul 3 (H.1 29 42)) 1).toNat (H.1 29 18)))) ?_
              refine J_ifc (t := 160) jw hj rfl (evn rfl) rfl (fun (h6 : f_X12_isWord 119182682645875 (f_X12_next (upI (upI H 33 (iMul 3 (H.1 29 42)).toNat 5) 33 (iAdd (iMul 3 (H.1 29 42)) 1).toNat (H.1 29 18))) = 0) => ?_) (fun (h6 : ¬ f_X12_isWord 119182682645875 (f_X12_next (upI (upI H 33 (iMul 3 (H.1 29 42)).toNat 5) 33 (iAdd (iMul 3 (H.1 29 42)) 1).toNat (H.1 29 18))) = 0) => ?_)
              · refine J_ld 161 jw hj rfl rfl rfl rfl ?_
                refine J_lc (n := 427071202675) 164 jw hj rfl (Or.inr ⟨_, rfl, by decide +kernel, rfl⟩) ?_
                refine J_callV1 jw rfl (Or.inl ⟨_, rfl⟩) rfl rfl (sp_X12_isWord (g := g) 427071202675 (f_X12_next (upI (upI H 33 (iMul 3 (H.1 29 42)).toNat 5) 33 (iAdd (iMul 3 (H.1 29 42)) 1).toNat (H.1 29 18)))) ?_
                refine J_ifc (t := 174) jw hj rfl (evn rfl) rfl (fun (h7 : f_X12_isWord 427071202675 (f_X12_next (upI (upI H 33 (iMul 3 (H.1 29 42)).toNat 5) 33 (iAdd (iMul 3 (H.1 29 42)) 1).toNat (H.1 29 18))) = 0) => ?_) (fun (h7 : ¬ f_X12_isWord 427071202675 (f_X12_next (upI (upI H 33 (iMul 3 (H.1 29 42)).toNat 5) 33 (iAdd (iMul 3 (H.1 29 42)) 1).toNat (H.1 29 18))) = 0) => ?_)
                · refine J_cst 175 jw hj rfl rfl rfl ?_
                  refine J_st 176 [rf (g 29), pt (iMul 3 (H.1 29 42)), pt (f_X12_isWord 2036687218 H), pt (-1)] (k := 3) jw hj rfl (Or.inr (Or.inr (Or.inl ⟨_, rfl, rfl, rfl⟩))) rfl ?_
                  refine J_ld 177 jw hj rfl rfl rfl rfl ?_
                  refine J_ifc (t := 186) jw hj rfl (evn rfl) rfl (fun (h8 : ¬ (-1 : Int) < (0 : Int)) => absurd h8 (by decide)) (fun (h8 : (-1 : Int) < (0 : Int)) => ?_)
                  refine J_ld 181 jw hj rfl rfl rfl rfl ?_
                  refine J_cst 182 jw hj rfl rfl rfl ?_
                  refine J_callV1 jw rfl (Or.inl ⟨_, rfl⟩) rfl rfl (sp_X12_bad (g := g) 1 (f_X12_next (upI (upI H 33 (iMul 3 (H.1 29 42)).toNat 5) 33 (iAdd (iMul 3 (H.1 29 42)) 1).toNat (H.1 29 18)))) ?_
                  exact J_ret rfl (Or.inl rfl) (fun aw hR => by show _ ∧ _; unfold f_X12_bookLine; rw [if_neg h0, if_neg h1, if_pos h2, if_pos h3, if_pos h4, if_pos h5, if_pos h6, if_pos h7]; exact ⟨rfl, hR⟩)
                · refine J_cst 171 jw hj rfl rfl rfl ?_
                  refine J_goto 175 jw hj rfl rfl ?_
                  refine J_st 176 [rf (g 29), pt (iMul 3 (H.1 29 42)), pt (f_X12_isWord 2036687218 H), pt 4] (k := 3) jw hj rfl (Or.inr (Or.inr (Or.inl ⟨_, rfl, rfl, rfl⟩))) rfl ?_
                  refine J_ld 177 jw hj rfl rfl rfl rfl ?_
                  refine J_ifc (t := 186) jw hj rfl (evn rfl) rfl (fun (h9 : ¬ (4 : Int) < (0 : Int)) => ?_) (fun (h9 : (4 : Int) < (0 : Int)) => absurd h9 (by decide))
                  refine J_ld 187 jw hj rfl rfl rfl rfl ?_
                  refine J_gfR (k := 33) jw hj rfl (evn rfl) (by decide) (by decide) (RMa (rp_X12_next (upI (upI H 33 (iMul 3 (H.1 29 42)).toNat 5) 33 (iAdd (iMul 3 (H.1 29 42)) 1).toNat (H.1 29 18)) hr).1 rfl) ?_
                  refine J_ld 191 jw hj rfl rfl rfl rfl ?_
                  refine J_ld 192 jw hj rfl rfl rfl rfl ?_
                  refine J_iast jw hj rfl (Or.inl rfl) (fun _ => ?_)
                  refine J_ld 194 jw hj rfl rfl rfl rfl ?_
                  refine J_callV0 jw rfl (Or.inl ⟨_, rfl⟩) rfl rfl (sp_X12_next (g := g) (upI (f_X12_next (upI (upI H 33 (iMul 3 (H.1 29 42)).toNat 5) 33 (iAdd (iMul 3 (H.1 29 42)) 1).toNat (H.1 29 18))) 33 (iMul 3 (H.1 29 42)).toNat 4) (rp_X12_next (upI (upI H 33 (iMul 3 (H.1 29 42)).toNat 5) 33 (iAdd (iMul 3 (H.1 29 42)) 1).toNat (H.1 29 18)) hr).1) ?_
                  refine J_ld 198 jw hj rfl rfl rfl rfl ?_
                  refine J_cst 199 jw hj rfl rfl rfl ?_
                  refine J_icmp (t := 204) jw hj rfl (evn rfl) rfl (fun (h10 : ¬ (2 : Int) < (4 : Int)) => absurd h10 (by decide)) (fun (h10 : (2 : Int) < (4 : Int)) => ?_)
                  refine J_cst 203 jw hj rfl rfl rfl ?_
                  exact J_ret rfl (Or.inl rfl) (fun aw hR => by show _ ∧ _; unfold f_X12_bookLine; rw [if_neg h0, if_neg h1, if_pos h2, if_pos h3, if_pos h4, if_pos h5, if_pos h6, if_neg h7]; exact ⟨rfl, hR⟩)
              · refine J_cst 157 jw hj rfl rfl rfl ?_
                refine J_goto 175 jw hj rfl rfl ?_
                refine J_st 176 [rf (g 29), pt (iMul 3 (H.1 29 42)), pt (f_X12_isWord 2036687218 H), pt 3] (k := 3) jw hj rfl (Or.inr (Or.inr (Or.inl ⟨_, rfl, rfl, rfl⟩))) rfl ?_
                refine J_ld 177 jw hj rfl rfl rfl rfl ?_
                refine J_ifc (t := 186) jw hj rfl (evn rfl) rfl (fun (h11 : ¬ (3 : Int) < (0 : Int)) => ?_) (fun (h11 : (3 : Int) < (0 : Int)) => absurd h11 (by decide))
                refine J_ld 187 jw hj rfl rfl rfl rfl ?_
                refine J_gfR (k := 33) jw hj rfl (evn rfl) (by decide) (by decide) (RMa (rp_X12_next (upI (upI H 33 (iMul 3 (H.1 29 42)).toNat 5) 33 (iAdd (iMul 3 (H.1 29 42)) 1).toNat (H.1 29 18)) hr).1 rfl) ?_
                refine J_ld 191 jw hj rfl rfl rfl rfl ?_
                refine J_ld 192 jw hj rfl rfl rfl rfl ?_
                refine J_iast jw hj rfl (Or.inl rfl) (fun _ => ?_)
                refine J_ld 194 jw hj rfl rfl rfl rfl ?_
                refine J_callV0 jw rfl (Or.inl ⟨_, rfl⟩) rfl rfl (sp_X12_next (g := g) (upI (f_X12_next (upI (upI H 33 (iMul 3 (H.1 29 42)).toNat 5) 33 (iAdd (iMul 3 (H.1 29 42)) 1).toNat (H.1 29 18))) 33 (iMul 3 (H.1 29 42)).toNat 3) (rp_X12_next (upI (upI H 33 (iMul 3 (H.1 29 42)).toNat 5) 33 (iAdd (iMul 3 (H.1 29 42)) 1).toNat (H.1 29 18)) hr).1) ?_
                refine J_ld 198 jw hj rfl rfl rfl rfl ?_
                refine J_cst 199 jw hj rfl rfl rfl ?_
                refine J_icmp (t := 204) jw hj rfl (evn rfl) rfl (fun (h12 : ¬ (2 : Int) < (3 : Int)) => absurd h12 (by decide)) (fun (h12 : (2 : Int) < (3 : Int)) => ?_)
                refine J_cst 203 jw hj rfl rfl rfl ?_
                exact J_ret rfl (Or.inl rfl) (fun aw hR => by show _ ∧ _; unfold f_X12_bookLine; rw [if_neg h0, if_neg h1, if_pos h2, if_pos h3, if_pos h4, if_pos h5, if_neg h6]; exact ⟨rfl, hR⟩)
            · refine J_cst 143 jw hj rfl rfl rfl ?_
              refine J_goto 175 jw hj rfl rfl ?_
              refine J_st 176 [rf (g 29), pt (iMul 3 (H.1 29 42)), pt (f_X12_isWord 2036687218 H), pt 2] (k := 3) jw hj rfl (Or.inr (Or.inr (Or.inl ⟨_, rfl, rfl, rfl⟩))) rfl ?_
              refine J_ld 177 jw hj rfl rfl rfl rfl ?_
              refine J_ifc (t := 186) jw hj rfl (evn rfl) rfl (fun (h13 : ¬ (2 : Int) < (0 : Int)) => ?_) (fun (h13 : (2 : Int) < (0 : Int)) => absurd h13 (by decide))
              refine J_ld 187 jw hj rfl rfl rfl rfl ?_
              refine J_gfR (k := 33) jw hj rfl (evn rfl) (by decide) (by decide) (RMa (rp_X12_next (upI (upI H 33 (iMul 3 (H.1 29 42)).toNat 5) 33 (iAdd (iMul 3 (H.1 29 42)) 1).toNat (H.1 29 18)) hr).1 rfl) ?_
              refine J_ld 191 jw hj rfl rfl rfl rfl ?_
              refine J_ld 192 jw hj rfl rfl rfl rfl ?_
              refine J_iast jw hj rfl (Or.inl rfl) (fun _ => ?_)
              refine J_ld 194 jw hj rfl rfl rfl rfl ?_
              refine J_callV0 jw rfl (Or.inl ⟨_, rfl⟩) rfl rfl (sp_X12_next (g := g) (upI (f_X12_next (upI (upI H 33 (iMul 3 (H.1 29 42)).toNat 5) 33 (iAdd (iMul 3 (H.1 29 42)) 1).toNat (H.1 29 18))) 33 (iMul 3 (H.1 29 42)).toNat 2) (rp_X12_next (upI (upI H 33 (iMul 3 (H.1 29 42)).toNat 5) 33 (iAdd (iMul 3 (H.1 29 42)) 1).toNat (H.1 29 18)) hr).1) ?_
              refine J_ld 198 jw hj rfl rfl rfl rfl ?_
              refine J_cst 199 jw hj rfl rfl rfl ?_
              refine J_icmp (t := 204) jw hj rfl (evn rfl) rfl (fun (h14 : ¬ (2 : Int) < (2 : Int)) => ?_) (fun (h14 : (2 : Int) < (2 : Int)) => absurd h14 (by decide))
              refine J_ld 205 jw hj rfl rfl rfl rfl ?_
              refine J_cst 206 jw hj rfl rfl rfl ?_
              refine J_icmp (t := 226) jw hj rfl (evn rfl) rfl (fun (h15 : ¬ (2 : Int) = (2 : Int)) => absurd h15 (by decide)) (fun (h15 : (2 : Int) = (2 : Int)) => ?_)
              refine J_ld 210 jw hj rfl rfl rfl rfl ?_
              refine J_cst 211 jw hj rfl rfl rfl ?_
              refine J_ld 212 jw hj rfl rfl rfl rfl ?_
              refine J_gfR (k := 31) jw hj rfl (evn rfl) (by decide) (by decide) (RMa (rp_X12_next (upI (f_X12_next (upI (upI H 33 (iMul 3 (H.1 29 42)).toNat 5) 33 (iAdd (iMul 3 (H.1 29 42)) 1).toNat (H.1 29 18))) 33 (iMul 3 (H.1 29 42)).toNat 2) (rp_X12_next (upI (upI H 33 (iMul 3 (H.1 29 42)).toNat 5) 33 (iAdd (iMul 3 (H.1 29 42)) 1).toNat (H.1 29 18)) hr)).1 rfl) ?_
              refine J_cst 216 jw hj rfl rfl rfl ?_
              refine J_iald jw hj rfl (Or.inl rfl) (fun z3 r3 => ?_)
              refine J_callV1 jw rfl (Or.inl ⟨_, rfl⟩) rfl rfl (sp_X12_takesName (g := g) 0 ((f_X12_next (upI (f_X12_next (upI (upI H 33 (iMul 3 (H.1 29 42)).toNat 5) 33 (iAdd (iMul 3 (H.1 29 42)) 1).toNat (H.1 29 18))) 33 (iMul 3 (H.1 29 42)).toNat 2)).1 31 0) (f_X12_next (upI (f_X12_next (upI (upI H 33 (iMul 3 (H.1 29 42)).toNat 5) 33 (iAdd (iMul 3 (H.1 29 42)) 1).toNat (H.1 29 18))) 33 (iMul 3 (H.1 29 42)).toNat 2)) (rp_X12_next (upI (f_X12_next (upI (upI H 33 (iMul 3 (H.1 29 42)).toNat 5) 33 (iAdd (iMul 3 (H.1 29 42)) 1).toNat (H.1 29 18))) 33 (iMul 3 (H.1 29 42)).toNat 2) (rp_X12_next (upI (upI H 33 (iMul 3 (H.1 29 42)).toNat 5) 33 (iAdd (iMul 3 (H.1 29 42)) 1).toNat (H.1 29 18)) hr)).1) ?_
              refine J_ifc (t := 241) jw hj rfl (evn rfl) rfl (fun (h16 : ((f_X12_takesName 0 ((f_X12_next (upI (f_X12_next (upI (upI H 33 (iMul 3 (H.1 29 42)).toNat 5) 33 (iAdd (iMul 3 (H.1 29 42)) 1).toNat (H.1 29 18))) 33 (iMul 3 (H.1 29 42)).toNat 2)).1 31 0) (f_X12_next (upI (f_X12_next (upI (upI H 33 (iMul 3 (H.1 29 42)).toNat 5) 33 (iAdd (iMul 3 (H.1 29 42)) 1).toNat (H.1 29 18))) 33 (iMul 3 (H.1 29 42)).toNat 2))).1) = 0) => ?_) (fun (h16 : ¬ ((f_X12_takesName 0 ((f_X12_next (upI (f_X12_next (upI (upI H 33 (iMul 3 (H.1 29 42)).toNat 5) 33 (iAdd (iMul 3 (H.1 29 42)) 1).toNat (H.1 29 18))) 33 (iMul 3 (H.1 29 42)).toNat 2)).1 31 0) (f_X12_next (upI (f_X12_next (upI (upI H 33 (iMul 3 (H.1 29 42)).toNat 5) 33 (iAdd (iMul 3 (H.1 29 42)) 1).toNat (H.1 29 18))) 33 (iMul 3 (H.1 29 42)).toNat 2))).1) = 0) => ?_)
              · refine J_cst 242 jw hj rfl rfl rfl ?_
                exact J_ret rfl (Or.inl rfl) (fun aw hR => by show _ ∧ _; unfold f_X12_bookLine; rw [if_neg h0, if_neg h1, if_pos h2, if_pos h3, if_pos h4, if_neg h5, if_pos h16]; exact ⟨rfl, hR⟩)
              · refine J_goto 243 jw hj rfl rfl ?_
                refine J_ld 244 jw hj rfl rfl rfl rfl ?_
                refine J_gfR (k := 33) jw hj rfl (evn rfl) (by decide) (by decide) (RMa (rp_X12_takesName 0 ((f_X12_next (upI (f_X12_next (upI (upI H 33 (iMul 3 (H.1 29 42)).toNat 5) 33 (iAdd (iMul 3 (H.1 29 42)) 1).toNat (H.1 29 18))) 33 (iMul 3 (H.1 29 42)).toNat 2)).1 31 0) (f_X12_next (upI (f_X12_next (upI (upI H 33 (iMul 3 (H.1 29 42)).toNat 5) 33 (iAdd (iMul 3 (H.1 29 42)) 1).toNat (H.1 29 18))) 33 (iMul 3 (H.1 29 42)).toNat 2)) (rp_X12_next (upI (f_X12_next (upI (upI H 33 (iMul 3 (H.1 29 42)).toNat 5) 33 (iAdd (iMul 3 (H.1 29 42)) 1).toNat (H.1 29 18))) 33 (iMul 3 (H.1 29 42)).toNat 2) (rp_X12_next (upI (upI H 33 (iMul 3 (H.1 29 42)).toNat 5) 33 (iAdd (iMul 3 (H.1 29 42)) 1).toNat (H.1 29 18)) hr))).1 rfl) ?_
                refine J_ld 248 jw hj rfl rfl rfl rfl ?_
                refine J_cst 249 jw hj rfl rfl rfl ?_
                refine J_bin jw hj rfl rfl ?_
                refine J_ld 251 jw hj rfl rfl rfl rfl ?_
                refine J_gfI jw hj rfl (evn rfl) (by decide) rfl (fun r4 => ?_)
                refine J_iast jw hj rfl (Or.inl rfl) (fun _ => ?_)
                refine J_cst 256 jw hj rfl rfl rfl ?_
                exact J_ret rfl (Or.inl rfl) (fun aw hR => by show _ ∧ _; unfold f_X12_bookLine; rw [if_neg h0, if_neg h1, if_pos h2, if_pos h3, if_pos h4, if_neg h5, if_neg h16]; exact ⟨rfl, hR⟩)
          · refine J_cst 129 jw hj rfl rfl rfl ?_
            refine J_goto 175 jw hj rfl rfl ?_
            refine J_st 176 [rf (g 29), pt (iMul 3 (H.1 29 42)), pt (f_X12_isWord 2036687218 H), pt 1] (k := 3) jw hj rfl (Or.inr (Or.inr (Or.inl ⟨_, rfl, rfl, rfl⟩))) rfl ?_
            refine J_ld 177 jw hj rfl rfl rfl rfl ?_
            refine J_ifc (t := 186) jw hj rfl (evn rfl) rfl (fun (h17 : ¬ (1 : Int) < (0 : Int)) => ?_) (fun (h17 : (1 : Int) < (0 : Int)) => absurd h17 (by decide))
            refine J_ld 187 jw hj rfl rfl rfl rfl ?_
            refine J_gfR (k := 33) jw hj rfl (evn rfl) (by decide) (by decide) (RMa (rp_X12_next (upI (upI H 33 (iMul 3 (H.1 29 42)).toNat 5) 33 (iAdd (iMul 3 (H.1 29 42)) 1).toNat (H.1 29 18)) hr).1 rfl) ?_
            refine J_ld 191 jw hj rfl rfl rfl rfl ?_
            refine J_ld 192 jw hj rfl rfl rfl rfl ?_
            refine J_iast jw hj rfl (Or.inl rfl) (fun _ => ?_)
            refine J_ld 194 jw hj rfl rfl rfl rfl ?_
            refine J_callV0 jw rfl (Or.inl ⟨_, rfl⟩) rfl rfl (sp_X12_next (g := g) (upI (f_X12_next (upI (upI H 33 (iMul 3 (H.1 29 42)).toNat 5) 33 (iAdd (iMul 3 (H.1 29 42)) 1).toNat (H.1 29 18))) 33 (iMul 3 (H.1 29 42)).toNat 1) (rp_X12_next (upI (upI H 33 (iMul 3 (H.1 29 42)).toNat 5) 33 (iAdd (iMul 3 (H.1 29 42)) 1).toNat (H.1 29 18)) hr).1) ?_
            refine J_ld 198 jw hj rfl rfl rfl rfl ?_
            refine J_cst 199 jw hj rfl rfl rfl ?_
            refine J_icmp (t := 204) jw hj rfl (evn rfl) rfl (fun (h18 : ¬ (2 : Int) < (1 : Int)) => ?_) (fun (h18 : (2 : Int) < (1 : Int)) => absurd h18 (by decide))
            refine J_ld 205 jw hj rfl rfl rfl rfl ?_
            refine J_cst 206 jw hj rfl rfl rfl ?_
            refine J_icmp (t := 226) jw hj rfl (evn rfl) rfl (fun (h19 : ¬ (1 : Int) = (2 : Int)) => ?_) (fun (h19 : (1 : Int) = (2 : Int)) => absurd h19 (by decide))
            refine J_ld 227 jw hj rfl rfl rfl rfl ?_
            refine J_cst 229 jw hj rfl rfl rfl ?_
            refine J_ld 230 jw hj rfl rfl rfl rfl ?_
            refine J_gfR (k := 31) jw hj rfl (evn rfl) (by decide) (by decide) (RMa (rp_X12_next (upI (f_X12_next (upI (upI H 33 (iMul 3 (H.1 29 42)).toNat 5) 33 (iAdd (iMul 3 (H.1 29 42)) 1).toNat (H.1 29 18))) 33 (iMul 3 (H.1 29 42)).toNat 1) (rp_X12_next (upI (upI H 33 (iMul 3 (H.1 29 42)).toNat 5) 33 (iAdd (iMul 3 (H.1 29 42)) 1).toNat (H.1 29 18)) hr)).1 rfl) ?_
            refine J_cst 234 jw hj rfl rfl rfl ?_
            refine J_iald jw hj rfl (Or.inl rfl) (fun z5 r5 => ?_)
            refine J_callV1 jw rfl (Or.inl ⟨_, rfl⟩) rfl rfl (sp_X12_takesName (g := g) 17 ((f_X12_next (upI (f_X12_next (upI (upI H 33 (iMul 3 (H.1 29 42)).toNat 5) 33 (iAdd (iMul 3 (H.1 29 42)) 1).toNat (H.1 29 18))) 33 (iMul 3 (H.1 29 42)).toNat 1)).1 31 3) (f_X12_next (upI (f_X12_next (upI (upI H 33 (iMul 3 (H.1 29 42)).toNat 5) 33 (iAdd (iMul 3 (H.1 29 42)) 1).toNat (H.1 29 18))) 33 (iMul 3 (H.1 29 42)).toNat 1)) (rp_X12_next (upI (f_X12_next (upI (upI H 33 (iMul 3 (H.1 29 42)).toNat 5) 33 (iAdd (iMul 3 (H.1 29 42)) 1).toNat (H.1 29 18))) 33 (iMul 3 (H.1 29 42)).toNat 1) (rp_X12_next (upI (upI H 33 (iMul 3 (H.1 29 42)).toNat 5) 33 (iAdd (iMul 3 (H.1 29 42)) 1).toNat (H.1 29 18)) hr)).1) ?_
            refine J_ifc (t := 243) jw hj rfl (evn rfl) rfl (fun (h20 : ¬ ((f_X12_takesName 17 ((f_X12_next (upI (f_X12_next (upI (upI H 33 (iMul 3 (H.1 29 42)).toNat 5) 33 (iAdd (iMul 3 (H.1 29 42)) 1).toNat (H.1 29 18))) 33 (iMul 3 (H.1 29 42)).toNat 1)).1 31 3) (f_X12_next (upI (f_X12_next (upI (upI H 33 (iMul 3 (H.1 29 42)).toNat 5) 33 (iAdd (iMul 3 (H.1 29 42)) 1).toNat (H.1 29 18))) 33 (iMul 3 (H.1 29 42)).toNat 1))).1) = 0) => ?_) (fun (h20 : ((f_X12_takesName 17 ((f_X12_next (upI (f_X12_next (upI (upI H 33 (iMul 3 (H.1 29 42)).toNat 5) 33 (iAdd (iMul 3 (H.1 29 42)) 1).toNat (H.1 29 18))) 33 (iMul 3 (H.1 29 42)).toNat 1)).1 31 3) (f_X12_next (upI (f_X12_next (upI (upI H 33 (iMul 3 (H.1 29 42)).toNat 5) 33 (iAdd (iMul 3 (H.1 29 42)) 1).toNat (H.1 29 18))) 33 (iMul 3 (H.1 29 42)).toNat 1))).1) = 0) => ?_)
            · refine J_ld 244 jw hj rfl rfl rfl rfl ?_
              refine J_gfR (k := 33) jw hj rfl (evn rfl) (by decide) (by decide) (RMa (rp_X12_takesName 17 ((f_X12_next (upI (f_X12_next (upI (upI H 33 (iMul 3 (H.1 29 42)).toNat 5) 33 (iAdd (iMul 3 (H.1 29 42)) 1).toNat (H.1 29 18))) 33 (iMul 3 (H.1 29 42)).toNat 1)).1 31 3) (f_X12_next (upI (f_X12_next (upI (upI H 33 (iMul 3 (H.1 29 42)).toNat 5) 33 (iAdd (iMul 3 (H.1 29 42)) 1).toNat (H.1 29 18))) 33 (iMul 3 (H.1 29 42)).toNat 1)) (rp_X12_next (upI (f_X12_next (upI (upI H 33 (iMul 3 (H.1 29 42)).toNat 5) 33 (iAdd (iMul 3 (H.1 29 42)) 1).toNat (H.1 29 18))) 33 (iMul 3 (H.1 29 42)).toNat 1) (rp_X12_next (upI (upI H 33 (iMul 3 (H.1 29 42)).toNat 5) 33 (iAdd (iMul 3 (H.1 29 42)) 1).toNat (H.1 29 18)) hr))).1 rfl) ?_
              refine J_ld 248 jw hj rfl rfl rfl rfl ?_
              refine J_cst 249 jw hj rfl rfl rfl ?_
              refine J_bin jw hj rfl rfl ?_
              refine J_ld 251 jw hj rfl rfl rfl rfl ?_
              refine J_gfI jw hj rfl (evn rfl) (by decide) rfl (fun r6 => ?_)
              refine J_iast jw hj rfl (Or.inl rfl) (fun _ => ?_)
              refine J_cst 256 jw hj rfl rfl rfl ?_
              exact J_ret rfl (Or.inl rfl) (fun aw hR => by show _ ∧ _; unfold f_X12_bookLine; rw [if_neg h0, if_neg h1, if_pos h2, if_pos h3, if_neg h4, if_neg h20]; exact ⟨rfl, hR⟩)
            · refine J_cst 242 jw hj rfl rfl rfl ?_
              exact J_ret rfl (Or.inl rfl) (fun aw hR => by show _ ∧ _; unfold f_X12_bookLine; rw [if_neg h0, if_neg h1, if_pos h2, if_pos h3, if_neg h4, if_pos h20]; exact ⟨rfl, hR⟩)
        · refine J_cst 115 jw hj rfl rfl rfl ?_
          refine J_goto 175 jw hj rfl rfl ?_
          refine J_st 176 [rf (g 29), pt (iMul 3 (H.1 29 42)), pt (f_X12_isWord 2036687218 H), pt 0] (k := 3) jw hj rfl (Or.inr (Or.inr (Or.inl ⟨_, rfl, rfl, rfl⟩))) rfl ?_
          refine J_ld 177 jw hj rfl rfl rfl rfl ?_
          refine J_ifc (t := 186) jw hj rfl (evn rfl) rfl (fun (h21 : ¬ (0 : Int) < (0 : Int)) => ?_) (fun (h21 : (0 : Int) < (0 : Int)) => absurd h21 (by decide))
          refine J_ld 187 jw hj rfl rfl rfl rfl ?_
          refine J_gfR (k := 33) jw hj rfl (evn rfl) (by decide) (by decide) (RMa (rp_X12_next (upI (upI H 33 (iMul 3 (H.1 29 42)).toNat 5) 33 (iAdd (iMul 3 (H.1 29 42)) 1).toNat (H.1 29 18)) hr).1 rfl) ?_
          refine J_ld 191 jw hj rfl rfl rfl rfl ?_
          refine J_ld 192 jw hj rfl rfl rfl rfl ?_
          refine J_iast jw hj rfl (Or.inl rfl) (fun _ => ?_)
          refine J_ld 194 jw hj rfl rfl rfl rfl ?_
          refine J_callV0 jw rfl (Or.inl ⟨_, rfl⟩) rfl rfl (sp_X12_next (g := g) (upI (f_X12_next (upI (upI H 33 (iMul 3 (H.1 29 42)).toNat 5) 33 (iAdd (iMul 3 (H.1 29 42)) 1).toNat (H.1 29 18))) 33 (iMul 3 (H.1 29 42)).toNat 0) (rp_X12_next (upI (upI H 33 (iMul 3 (H.1 29 42)).toNat 5) 33 (iAdd (iMul 3 (H.1 29 42)) 1).toNat (H.1 29 18)) hr).1) ?_
          refine J_ld 198 jw hj rfl rfl rfl rfl ?_
          refine J_cst 199 jw hj rfl rfl rfl ?_
          refine J_icmp (t := 204) jw hj rfl (evn rfl) rfl (fun (h22 : ¬ (2 : Int) < (0 : Int)) => ?_) (fun (h22 : (2 : Int) < (0 : Int)) => absurd h22 (by decide))
          refine J_ld 205 jw hj rfl rfl rfl rfl ?_
          refine J_cst 206 jw hj rfl rfl rfl ?_
          refine J_icmp (t := 226) jw hj rfl (evn rfl) rfl (fun (h23 : ¬ (0 : Int) = (2 : Int)) => ?_) (fun (h23 : (0 : Int) = (2 : Int)) => absurd h23 (by decide))
          refine J_ld 227 jw hj rfl rfl rfl rfl ?_
          refine J_cst 229 jw hj rfl rfl rfl ?_
          refine J_ld 230 jw hj rfl rfl rfl rfl ?_
          refine J_gfR (k := 31) jw hj rfl (evn rfl) (by decide) (by decide) (RMa (rp_X12_next (upI (f_X12_next (upI (upI H 33 (iMul 3 (H.1 29 42)).toNat 5) 33 (iAdd (iMul 3 (H.1 29 42)) 1).toNat (H.1 29 18))) 33 (iMul 3 (H.1 29 42)).toNat 0) (rp_X12_next (upI (upI H 33 (iMul 3 (H.1 29 42)).toNat 5) 33 (iAdd (iMul 3 (H.1 29 42)) 1).toNat (H.1 29 18)) hr)).1 rfl) ?_
          refine J_cst 234 jw hj rfl rfl rfl ?_
          refine J_iald jw hj rfl (Or.inl rfl) (fun z7 r7 => ?_)
          refine J_callV1 jw rfl (Or.inl ⟨_, rfl⟩) rfl rfl (sp_X12_takesName (g := g) 17 ((f_X12_next (upI (f_X12_next (upI (upI H 33 (iMul 3 (H.1 29 42)).toNat 5) 33 (iAdd (iMul 3 (H.1 29 42)) 1).toNat (H.1 29 18))) 33 (iMul 3 (H.1 29 42)).toNat 0)).1 31 3) (f_X12_next (upI (f_X12_next (upI (upI H 33 (iMul 3 (H.1 29 42)).toNat 5) 33 (iAdd (iMul 3 (H.1 29 42)) 1).toNat (H.1 29 18))) 33 (iMul 3 (H.1 29 42)).toNat 0)) (rp_X12_next (upI (f_X12_next (upI (upI H 33 (iMul 3 (H.1 29 42)).toNat 5) 33 (iAdd (iMul 3 (H.1 29 42)) 1).toNat (H.1 29 18))) 33 (iMul 3 (H.1 29 42)).toNat 0) (rp_X12_next (upI (upI H 33 (iMul 3 (H.1 29 42)).toNat 5) 33 (iAdd (iMul 3 (H.1 29 42)) 1).toNat (H.1 29 18)) hr)).1) ?_
          refine J_ifc (t := 243) jw hj rfl (evn rfl) rfl (fun (h24 : ¬ ((f_X12_takesName 17 ((f_X12_next (upI (f_X12_next (upI (upI H 33 (iMul 3 (H.1 29 42)).toNat 5) 33 (iAdd (iMul 3 (H.1 29 42)) 1).toNat (H.1 29 18))) 33 (iMul 3 (H.1 29 42)).toNat 0)).1 31 3) (f_X12_next (upI (f_X12_next (upI (upI H 33 (iMul 3 (H.1 29 42)).toNat 5) 33 (iAdd (iMul 3 (H.1 29 42)) 1).toNat (H.1 29 18))) 33 (iMul 3 (H.1 29 42)).toNat 0))).1) = 0) => ?_) (fun (h24 : ((f_X12_takesName 17 ((f_X12_next (upI (f_X12_next (upI (upI H 33 (iMul 3 (H.1 29 42)).toNat 5) 33 (iAdd (iMul 3 (H.1 29 42)) 1).toNat (H.1 29 18))) 33 (iMul 3 (H.1 29 42)).toNat 0)).1 31 3) (f_X12_next (upI (f_X12_next (upI (upI H 33 (iMul 3 (H.1 29 42)).toNat 5) 33 (iAdd (iMul 3 (H.1 29 42)) 1).toNat (H.1 29 18))) 33 (iMul 3 (H.1 29 42)).toNat 0))).1) = 0) => ?_)
          · refine J_ld 244 jw hj rfl rfl rfl rfl ?_
            refine J_gfR (k := 33) jw hj rfl (evn rfl) (by decide) (by decide) (RMa (rp_X12_takesName 17 ((f_X12_next (upI (f_X12_next (upI (upI H 33 (iMul 3 (H.1 29 42)).toNat 5) 33 (iAdd (iMul 3 (H.1 29 42)) 1).toNat (H.1 29 18))) 33 (iMul 3 (H.1 29 42)).toNat 0)).1 31 3) (f_X12_next (upI (f_X12_next (upI (upI H 33 (iMul 3 (H.1 29 42)).toNat 5) 33 (iAdd (iMul 3 (H.1 29 42)) 1).toNat (H.1 29 18))) 33 (iMul 3 (H.1 29 42)).toNat 0)) (rp_X12_next (upI (f_X12_next (upI (upI H 33 (iMul 3 (H.1 29 42)).toNat 5) 33 (iAdd (iMul 3 (H.1 29 42)) 1).toNat (H.1 29 18))) 33 (iMul 3 (H.1 29 42)).toNat 0) (rp_X12_next (upI (upI H 33 (iMul 3 (H.1 29 42)).toNat 5) 33 (iAdd (iMul 3 (H.1 29 42)) 1).toNat (H.1 29 18)) hr))).1 rfl) ?_
            refine J_ld 248 jw hj rfl rfl rfl rfl ?_
            refine J_cst 249 jw hj rfl rfl rfl ?_
            refine J_bin jw hj rfl rfl ?_
            refine J_ld 251 jw hj rfl rfl rfl rfl ?_
            refine J_gfI jw hj rfl (evn rfl) (by decide) rfl (fun r8 => ?_)
            refine J_iast jw hj rfl (Or.inl rfl) (fun _ => ?_)
            refine J_cst 256 jw hj rfl rfl rfl ?_
            exact J_ret rfl (Or.inl rfl) (fun aw hR => by show _ ∧ _; unfold f_X12_bookLine; rw [if_neg h0, if_neg h1, if_pos h2, if_neg h3, if_neg h24]; exact ⟨rfl, hR⟩)
          · refine J_cst 242 jw hj rfl rfl rfl ?_
            exact J_ret rfl (Or.inl rfl) (fun aw hR => by show _ ∧ _; unfold f_X12_bookLine; rw [if_neg h0, if_neg h1, if_pos h2, if_neg h3, if_pos h24]; exact ⟨rfl, hR⟩)
      · refine J_ld 79 jw hj rfl rfl rfl rfl ?_
        refine J_cst 80 jw hj rfl rfl rfl ?_
        refine J_cst 82 jw hj rfl rfl rfl ?_
        refine J_callV1 jw rfl (Or.inl ⟨_, rfl⟩) rfl rfl (sp_X12_takes (g := g) 1 60 (f_X12_next (upI (upI H 33 (iMul 3 (H.1 29 42)).toNat 5) 33 (iAdd (iMul 3 (H.1 29 42)) 1).toNat (H.1 29 18))) (rp_X12_next (upI (upI H 33 (iMul 3 (H.1 29 42)).toNat 5) 33 (iAdd (iMul 3 (H.1 29 42)) 1).toNat (H.1 29 18)) hr).1) ?_
        refine J_ifc (t := 90) jw hj rfl (evn rfl) rfl (fun (h25 : ¬ ((f_X12_takes 1 60 (f_X12_next (upI (upI H 33 (iMul 3 (H.1 29 42)).toNat 5) 33 (iAdd (iMul 3 (H.1 29 42)) 1).toNat (H.1 29 18)))).1) = 0) => ?_) (fun (h25 : ((f_X12_takes 1 60 (f_X12_next (upI (upI H 33 (iMul 3 (H.1 29 42)).toNat 5) 33 (iAdd (iMul 3 (H.1 29 42)) 1).toNat (H.1 29 18)))).1) = 0) => ?_)
        · refine J_ld 91 jw hj rfl rfl rfl rfl ?_
          refine J_gfR (k := 33) jw hj rfl (evn rfl) (by decide) (by decide) (RMa (rp_X12_takes 1 60 (f_X12_next (upI (upI H 33 (iMul 3 (H.1 29 42)).toNat 5) 33 (iAdd (iMul 3 (H.1 29 42)) 1).toNat (H.1 29 18))) (rp_X12_next (upI (upI H 33 (iMul 3 (H.1 29 42)).toNat 5) 33 (iAdd (iMul 3 (H.1 29 42)) 1).toNat (H.1 29 18)) hr)).1 rfl) ?_
          refine J_ld 95 jw hj rfl rfl rfl rfl ?_
          refine J_cst 96 jw hj rfl rfl rfl ?_
          refine J_bin jw hj rfl rfl ?_
          refine J_ld 98 jw hj rfl rfl rfl rfl ?_
          refine J_gfI jw hj rfl (evn rfl) (by decide) rfl (fun r9 => ?_)
          refine J_iast jw hj rfl (Or.inl rfl) (fun _ => ?_)
          refine J_cst 103 jw hj rfl rfl rfl ?_
          exact J_ret rfl (Or.inl rfl) (fun aw hR => by show _ ∧ _; unfold f_X12_bookLine; rw [if_neg h0, if_neg h1, if_neg h2, if_neg h25]; exact ⟨rfl, hR⟩)
        · refine J_cst 89 jw hj rfl rfl rfl ?_
          exact J_ret rfl (Or.inl rfl) (fun aw hR => by show _ ∧ _; unfold f_X12_bookLine; rw [if_neg h0, if_neg h1, if_neg h2, if_pos h25]; exact ⟨rfl, hR⟩)
    · refine J_ld 46 jw hj rfl rfl rfl rfl ?_
      refine J_cst 47 jw hj rfl rfl rfl ?_
      refine J_callV1 jw rfl (Or.inl ⟨_, rfl⟩) rfl rfl (sp_X12_bad (g := g) 4 H) ?_
      exact J_ret rfl (Or.inl rfl) (fun aw hR => by show _ ∧ _; unfold f_X12_bookLine; rw [if_neg h0, if_pos h1]; exact ⟨rfl, hR⟩)
  · refine J_ld 20 jw hj rfl rfl rfl rfl ?_
    refine J_cst 22 jw hj rfl rfl rfl ?_
    refine J_ld 23 jw hj rfl rfl rfl rfl ?_
    refine J_gfR (k := 31) jw hj rfl (evn rfl) (by decide) (by decide) (RMa hr.1 rfl) ?_
    refine J_cst 27 jw hj rfl rfl rfl ?_
    refine J_iald jw hj rfl (Or.inl rfl) (fun z10 r10 => ?_)
    refine J_callV1 jw rfl (Or.inl ⟨_, rfl⟩) rfl rfl (sp_X12_looksAt (g := g) 7 (H.1 31 2) H hr.1) ?_
    refine J_ifc (t := 36) jw hj rfl (evn rfl) rfl (fun (h26 : ¬ ((f_X12_looksAt 7 (H.1 31 2) H).1) = 0) => ?_) (fun (h26 : ((f_X12_looksAt 7 (H.1 31 2) H).1) = 0) => ?_)
    · refine J_ld 37 jw hj rfl rfl rfl rfl ?_
      refine J_gfI jw hj rfl (evn rfl) (by decide) rfl (fun r11 => ?_)
      refine J_cst 42 jw hj rfl rfl rfl ?_
      refine J_icmp (t := 51) jw hj rfl (evn rfl) rfl (fun (h27 : ¬ ((f_X12_looksAt 7 (H.1 31 2) H).2.1 29 42) = 40) => ?_) (fun (h27 : ((f_X12_looksAt 7 (H.1 31 2) H).2.1 29 42) = 40) => ?_)
      · refine J_ld 52 jw hj rfl rfl rfl rfl ?_
        refine J_gfR (k := 33) jw hj rfl (evn rfl) (by decide) (by decide) (RMa (rp_X12_looksAt 7 (H.1 31 2) H hr).1 rfl) ?_
        refine J_ld 56 jw hj rfl rfl rfl rfl ?_
        refine J_cst 57 jw hj rfl rfl rfl ?_
        refine J_iast jw hj rfl (Or.inl rfl) (fun _ => ?_)
        refine J_ld 59 jw hj rfl rfl rfl rfl ?_
        refine J_gfR (k := 33) jw hj rfl (evn rfl) (by decide) (by decide) (RMa (rp_X12_looksAt 7 (H.1 31 2) H hr).1 rfl) ?_
        refine J_ld 63 jw hj rfl rfl rfl rfl ?_
        refine J_cst 64 jw hj rfl rfl rfl ?_
        refine J_bin jw hj rfl rfl ?_
        refine J_ld 66 jw hj rfl rfl rfl rfl ?_
        refine J_gfI jw hj rfl (evn rfl) (by decide) rfl (fun r12 => ?_)
        refine J_iast jw hj rfl (Or.inl rfl) (fun _ => ?_)
        refine J_ld 71 jw hj rfl rfl rfl rfl ?_
        refine J_callV0 jw rfl (Or.inl ⟨_, rfl⟩) rfl rfl (sp_X12_next (g := g) (upI (upI (f_X12_looksAt 7 (H.1 31 2) H).2 33 (iMul 3 (H.1 29 42)).toNat 5) 33 (iAdd (iMul 3 (H.1 29 42)) 1).toNat ((f_X12_looksAt 7 (H.1 31 2) H).2.1 29 18)) (rp_X12_looksAt 7 (H.1 31 2) H hr).1) ?_
        refine J_ld 75 jw hj rfl rfl rfl rfl ?_
        refine J_ifc (t := 104) jw hj rfl (evn rfl) rfl (fun (h28 : f_X12_isWord 2036687218 H = 0) => ?_) (fun (h28 : ¬ f_X12_isWord 2036687218 H = 0) => ?_)
        · refine J_ld 105 jw hj rfl rfl rfl rfl ?_
          refine J_lc (n := 1734702195) 108 jw hj rfl (Or.inr ⟨_, rfl, by decide +kernel, rfl⟩) ?_
          refine J_callV1 jw rfl (Or.inl ⟨_, rfl⟩) rfl rfl (sp_X12_isWord (g := g) 1734702195 (f_X12_next (upI (upI (f_X12_looksAt 7 (H.1 31 2) H).2 33 (iMul 3 (H.1 29 42)).toNat 5) 33 (iAdd (iMul 3 (H.1 29 42)) 1).toNat ((f_X12_looksAt 7 (H.1 31 2) H).2.1 29 18)))) ?_
          refine J_ifc (t := 118) jw hj rfl (evn rfl) rfl (fun (h29 : f_X12_isWord 1734702195 (f_X12_next (upI (upI (f_X12_looksAt 7 (H.1 31 2) H).2 33 (iMul 3 (H.1 29 42)).toNat 5) 33 (iAdd (iMul 3 (H.1 29 42)) 1).toNat ((f_X12_looksAt 7 (H.1 31 2) H).2.1 29 18))) = 0) => ?_) (fun (h29 : ¬ f_X12_isWord 1734702195 (f_X12_next (upI (upI (f_X12_looksAt 7 (H.1 31 2) H).2 33 (iMul 3 (H.1 29 42)).toNat 5) 33 (iAdd (iMul 3 (H.1 29 42)) 1).toNat ((f_X12_looksAt 7 (H.1 31 2) H).2.1 29 18))) = 0) => ?_)
          · refine J_ld 119 jw hj rfl rfl rfl rfl ?_
            refine J_lc (n := 465726301555) 122 jw hj rfl (Or.inr ⟨_, rfl, by decide +kernel, rfl⟩) ?_
            refine J_callV1 jw rfl (Or.inl ⟨_, rfl⟩) rfl rfl (sp_X12_isWord (g := g) 465726301555 (f_X12_next (upI (upI (f_X12_looksAt 7 (H.1 31 2) H).2 33 (iMul 3 (H.1 29 42)).toNat 5) 33 (iAdd (iMul 3 (H.1 29 42)) 1).toNat ((f_X12_looksAt 7 (H.1 31 2) H).2.1 29 18)))) ?_
            refine J_ifc (t := 132) jw hj rfl (evn rfl) rfl (fun (h30 : f_X12_isWord 465726301555 (f_X12_next (upI (upI (f_X12_looksAt 7 (H.1 31 2) H).2 33 (iMul 3 (H.1 29 42)).toNat 5) 33 (iAdd (iMul 3 (H.1 29 42)) 1).toNat ((f_X12_looksAt 7 (H.1 31 2) H).2.1 29 18))) = 0) => ?_) (fun (h30 : ¬ f_X12_isWord 465726301555 (f_X12_next (upI (upI (f_X12_looksAt 7 (H.1 31 2) H).2 33 (iMul 3 (H.1 29 42)).toNat 5) 33 (iAdd (iMul 3 (H.1 29 42)) 1).toNat ((f_X12_looksAt 7 (H.1 31 2) H).2.1 29 18))) = 0) => ?_)
            · refine J_ld 133 jw hj rfl rfl rfl rfl ?_
              refine J_lc (n := 470021465459) 136 jw hj rfl (Or.inr ⟨_, rfl, by decide +kernel, rfl⟩) ?_
              refine J_callV1 jw rfl (Or.inl ⟨_, rfl⟩) rfl rfl (sp_X12_isWord (g := g) 470021465459 (f_X12_next (upI (upI (f_X12_looksAt 7 (H.1 31 2) H).2 33 (iMul 3 (H.1 29 42)).toNat 5) 33 (iAdd (iMul 3 (H.1 29 42)) 1).toNat ((f_X12_looksAt 7 (H.1 31 2) H).2.1 29 18)))) ?_
              refine J_ifc (t := 146) jw hj rfl (evn rfl) rfl (fun (h31 : f_X12_isWord 470021465459 (f_X12_next (upI (upI (f_X12_looksAt 7 (H.1 31 2) H).2 33 (iMul 3 (H.1 29 42)).toNat 5) 33 (iAdd (iMul 3 (H.1 29 42)) 1).toNat ((f_X12_looksAt 7 (H.1 31 2) H).2.1 29 18))) = 0) => ?_) (fun (h31 : ¬ f_X12_isWord 470021465459 (f_X12_next (upI (upI (f_X12_looksAt 7 (H.1 31 2) H).2 33 (iMul 3 (H.1 29 42)).toNat 5) 33 (iAdd (iMul 3 (H.1 29 42)) 1).toNat ((f_X12_looksAt 7 (H.1 31 2) H).2.1 29 18))) = 0) => ?_)
              · refine J_ld 147 jw hj rfl rfl rfl rfl ?_
                refine J_lc (n := 119182682645875) 150 jw hj rfl (Or.inr ⟨_, rfl, by decide +kernel, rfl⟩) ?_
                refine J_callV1 jw rfl (Or.inl ⟨_, rfl⟩) rfl rfl (sp_X12_isWord (g := g) 119182682645875 (f_X12_next (upI (upI (f_X12_looksAt 7 (H.1 31 2) H).2 33 (iMul 3 (H.1 29 42)).toNat 5) 33 (iAdd (iMul 3 (H.1 29 42)) 1).toNat ((f_X12_looksAt 7 (H.1 31 2) H).2.1 29 18)))) ?_
                refine J_ifc (t := 160) jw hj rfl (evn rfl) rfl (fun (h32 : f_X12_isWord 119182682645875 (f_X12_next (upI (upI (f_X12_looksAt 7 (H.1 31 2) H).2 33 (iMul 3 (H.1 29 42)).toNat 5) 33 (iAdd (iMul 3 (H.1 29 42)) 1).toNat ((f_X12_looksAt 7 (H.1 31 2) H).2.1 29 18))) = 0) => ?_) (fun (h32 : ¬ f_X12_isWord 119182682645875 (f_X12_next (upI (upI (f_X12_looksAt 7 (H.1 31 2) H).2 33 (iMul 3 (H.1 29 42)).toNat 5) 33 (iAdd (iMul 3 (H.1 29 42)) 1).toNat ((f_X12_looksAt 7 (H.1 31 2) H).2.1 29 18))) = 0) => ?_)
                · refine J_ld 161 jw hj rfl rfl rfl rfl ?_
                  refine J_lc (n := 427071202675) 164 jw hj rfl (Or.inr ⟨_, rfl, by decide +kernel, rfl⟩) ?_
                  refine J_callV1 jw rfl (Or.inl ⟨_, rfl⟩) rfl rfl (sp_X12_isWord (g := g) 427071202675 (f_X12_next (upI (upI (f_X12_looksAt 7 (H.1 31 2) H).2 33 (iMul 3 (H.1 29 42)).toNat 5) 33 (iAdd (iMul 3 (H.1 29 42)) 1).toNat ((f_X12_looksAt 7 (H.1 31 2) H).2.1 29 18)))) ?_
                  refine J_ifc (t := 174) jw hj rfl (evn rfl) rfl (fun (h33 : f_X12_isWord 427071202675 (f_X12_next (upI (upI (f_X12_looksAt 7 (H.1 31 2) H).2 33 (iMul 3 (H.1 29 42)).toNat 5) 33 (iAdd (iMul 3 (H.1 29 42)) 1).toNat ((f_X12_looksAt 7 (H.1 31 2) H).2.1 29 18))) = 0) => ?_) (fun (h33 : ¬ f_X12_isWord 427071202675 (f_X12_next (upI (upI (f_X12_looksAt 7 (H.1 31 2) H).2 33 (iMul 3 (H.1 29 42)).toNat 5) 33 (iAdd (iMul 3 (H.1 29 42)) 1).toNat ((f_X12_looksAt 7 (H.1 31 2) H).2.1 29 18))) = 0) => ?_)
                  · refine J_cst 175 jw hj rfl rfl rfl ?_
                    refine J_st 176 [rf (g 29), pt (iMul 3 (H.1 29 42)), pt (f_X12_isWord 2036687218 H), pt (-1)] (k := 3) jw hj rfl (Or.inr (Or.inr (Or.inl ⟨_, rfl, rfl, rfl⟩))) rfl ?_
                    refine J_ld 177 jw hj rfl rfl rfl rfl ?_
                    refine J_ifc (t := 186) jw hj rfl (evn rfl) rfl (fun (h34 : ¬ (-1 : Int) < (0 : Int)) => absurd h34 (by decide)) (fun (h34 : (-1 : Int) < (0 : Int)) => ?_)
                    refine J_ld 181 jw hj rfl rfl rfl rfl ?_
                    refine J_cst 182 jw hj rfl rfl rfl ?_
                    refine J_callV1 jw rfl (Or.inl ⟨_, rfl⟩) rfl rfl (sp_X12_bad (g := g) 1 (f_X12_next (upI (upI (f_X12_looksAt 7 (H.1 31 2) H).2 33 (iMul 3 (H.1 29 42)).toNat 5) 33 (iAdd (iMul 3 (H.1 29 42)) 1).toNat ((f_X12_looksAt 7 (H.1 31 2) H).2.1 29 18)))) ?_
                    exact J_ret rfl (Or.inl rfl) (fun aw hR => by show _ ∧ _; unfold f_X12_bookLine; rw [if_pos h0, if_neg h26, if_neg h27, if_pos h28, if_pos h29, if_pos h30, if_pos h31, if_pos h32, if_pos h33]; exact ⟨rfl, hR⟩)
                  · refine J_cst 171 jw hj rfl rfl rfl ?_
                    refine J_goto 175 jw hj rfl rfl ?_
                    refine J_st 176 [rf (g 29), pt (iMul 3 (H.1 29 42)), pt (f_X12_isWord 2036687218 H), pt 4] (k := 3) jw hj rfl (Or.inr (Or.inr (Or.inl ⟨_, rfl, rfl, rfl⟩))) rfl ?_
                    refine J_ld 177 jw hj rfl rfl rfl rfl ?_
                    refine J_ifc (t := 186) jw hj rfl (evn rfl) rfl (fun (h35 : ¬ (4 : Int) < (0 : Int)) => ?_) (fun (h35 : (4 : Int) < (0 : Int)) => absurd h35 (by decide))
                    refine J_ld 187 jw hj rfl rfl rfl rfl ?_
                    refine J_gfR (k := 33) jw hj rfl (evn rfl) (by decide) (by decide) (RMa (rp_X12_next (upI (upI (f_X12_looksAt 7 (H.1 31 2) H).2 33 (iMul 3 (H.1 29 42)).toNat 5) 33 (iAdd (iMul 3 (H.1 29 42)) 1).toNat ((f_X12_looksAt 7 (H.1 31 2) H).2.1 29 18)) (rp_X12_looksAt 7 (H.1 31 2) H hr)).1 rfl) ?_
                    refine J_ld 191 jw hj rfl rfl rfl rfl ?_
                    refine J_ld 192 jw hj rfl rfl rfl rfl ?_
                    refine J_iast jw hj rfl (Or.inl rfl) (fun _ => ?_)
                    refine J_ld 194 jw hj rfl rfl rfl rfl ?_
                    refine J_callV0 jw rfl (Or.inl ⟨_, rfl⟩) rfl rfl (sp_X12_next (g := g) (upI (f_X12_next (upI (upI (f_X12_looksAt 7 (H.1 31 2) H).2 33 (iMul 3 (H.1 29 42)).toNat 5) 33 (iAdd (iMul 3 (H.1 29 42)) 1).toNat ((f_X12_looksAt 7 (H.1 31 2) H).2.1 29 18))) 33 (iMul 3 (H.1 29 42)).toNat 4) (rp_X12_next (upI (upI (f_X12_looksAt 7 (H.1 31 2) H).2 33 (iMul 3 (H.1 29 42)).toNat 5) 33 (iAdd (iMul 3 (H.1 29 42)) 1).toNat ((f_X12_looksAt 7 (H.1 31 2) H).2.1 29 18)) (rp_X12_looksAt 7 (H.1 31 2) H hr)).1) ?_
                    refine J_ld 198 jw hj rfl rfl rfl rfl ?_
                    refine J_cst 199 jw hj rfl rfl rfl ?_
                    refine J_icmp (t := 204) jw hj rfl (evn rfl) rfl (fun (h36 : ¬ (2 : Int) < (4 : Int)) => absurd h36 (by decide)) (fun (h36 : (2 : Int) < (4 : Int)) => ?_)
                    refine J_cst 203 jw hj rfl rfl rfl ?_
                    exact J_ret rfl (Or.inl rfl) (fun aw hR => by show _ ∧ _; unfold f_X12_bookLine; rw [if_pos h0, if_neg h26, if_neg h27, if_pos h28, if_pos h29, if_pos h30, if_pos h31, if_pos h32, if_neg h33]; exact ⟨rfl, hR⟩)
                · refine J_cst 157 jw hj rfl rfl rfl ?_
                  refine J_goto 175 jw hj rfl rfl ?_
                  refine J_st 176 [rf (g 29), pt (iMul 3 (H.1 29 42)), pt (f_X12_isWord 2036687218 H), pt 3] (k := 3) jw hj rfl (Or.inr (Or.inr (Or.inl ⟨_, rfl, rfl, rfl⟩))) rfl ?_
                  refine J_ld 177 jw hj rfl rfl rfl rfl ?_
                  refine J_ifc (t := 186) jw hj rfl (evn rfl) rfl (fun (h37 : ¬ (3 : Int) < (0 : Int)) => ?_) (fun (h37 : (3 : Int) < (0 : Int)) => absurd h37 (by decide))
                  refine J_ld 187 jw hj rfl rfl rfl rfl ?_
                  refine J_gfR (k := 33) jw hj rfl (evn rfl) (by decide) (by decide) (RMa (rp_X12_next (upI (upI (f_X12_looksAt 7 (H.1 31 2) H).2 33 (iMul 3 (H.1 29 42)).toNat 5) 33 (iAdd (iMul 3 (H.1 29 42)) 1).toNat ((f_X12_looksAt 7 (H.1 31 2) H).2.1 29 18)) (rp_X12_looksAt 7 (H.1 31 2) H hr)).1 rfl) ?_
                  refine J_ld 191 jw hj rfl rfl rfl rfl ?_
                  refine J_ld 192 jw hj rfl rfl rfl rfl ?_
                  refine J_iast jw hj rfl (Or.inl rfl) (fun _ => ?_)
                  refine J_ld 194 jw hj rfl rfl rfl rfl ?_
                  refine J_callV0 jw rfl (Or.inl ⟨_, rfl⟩) rfl rfl (sp_X12_next (g := g) (upI (f_X12_next (upI (upI (f_X12_looksAt 7 (H.1 31 2) H).2 33 (iMul 3 (H.1 29 42)).toNat 5) 33 (iAdd (iMul 3 (H.1 29 42)) 1).toNat ((f_X12_looksAt 7 (H.1 31 2) H).2.1 29 18))) 33 (iMul 3 (H.1 29 42)).toNat 3) (rp_X12_next (upI (upI (f_X12_looksAt 7 (H.1 31 2) H).2 33 (iMul 3 (H.1 29 42)).toNat 5) 33 (iAdd (iMul 3 (H.1 29 42)) 1).toNat ((f_X12_looksAt 7 (H.1 31 2) H).2.1 29 18)) (rp_X12_looksAt 7 (H.1 31 2) H hr)).1) ?_
                  refine J_ld 198 jw hj rfl rfl rfl rfl ?_
                  refine J_cst 199 jw hj rfl rfl rfl ?_
                  refine J_icmp (t := 204) jw hj rfl (evn rfl) rfl (fun (h38 : ¬ (2 : Int) < (3 : Int)) => absurd h38 (by decide)) (fun (h38 : (2 : Int) < (3 : Int)) => ?_)
                  refine J_cst 203 jw hj rfl rfl rfl ?_
                  exact J_ret rfl (Or.inl rfl) (fun aw hR => by show _ ∧ _; unfold f_X12_bookLine; rw [if_pos h0, if_neg h26, if_neg h27, if_pos h28, if_pos h29, if_pos h30, if_pos h31, if_neg h32]; exact ⟨rfl, hR⟩)
              · refine J_cst 143 jw hj rfl rfl rfl ?_
                refine J_goto 175 jw hj rfl rfl ?_
                refine J_st 176 [rf (g 29), pt (iMul 3 (H.1 29 42)), pt (f_X12_isWord 2036687218 H), pt 2] (k := 3) jw hj rfl (Or.inr (Or.inr (Or.inl ⟨_, rfl, rfl, rfl⟩))) rfl ?_
                refine J_ld 177 jw hj rfl rfl rfl rfl ?_
                refine J_ifc (t := 186) jw hj rfl (evn rfl) rfl (fun (h39 : ¬ (2 : Int) < (0 : Int)) => ?_) (fun (h39 : (2 : Int) < (0 : Int)) => absurd h39 (by decide))
                refine J_ld 187 jw hj rfl rfl rfl rfl ?_
                refine J_gfR (k := 33) jw hj rfl (evn rfl) (by decide) (by decide) (RMa (rp_X12_next (upI (upI (f_X12_looksAt 7 (H.1 31 2) H).2 33 (iMul 3 (H.1 29 42)).toNat 5) 33 (iAdd (iMul 3 (H.1 29 42)) 1).toNat ((f_X12_looksAt 7 (H.1 31 2) H).2.1 29 18)) (rp_X12_looksAt 7 (H.1 31 2) H hr)).1 rfl) ?_
                refine J_ld 191 jw hj rfl rfl rfl rfl ?_
                refine J_ld 192 jw hj rfl rfl rfl rfl ?_
                refine J_iast jw hj rfl (Or.inl rfl) (fun _ => ?_)
                refine J_ld 194 jw hj rfl rfl rfl rfl ?_
                refine J_callV0 jw rfl (Or.inl ⟨_, rfl⟩) rfl rfl (sp_X12_next (g := g) (upI (f_X12_next (upI (upI (f_X12_looksAt 7 (H.1 31 2) H).2 33 (iMul 3 (H.1 29 42)).toNat 5) 33 (iAdd (iMul 3 (H.1 29 42)) 1).toNat ((f_X12_looksAt 7 (H.1 31 2) H).2.1 29 18))) 33 (iMul 3 (H.1 29 42)).toNat 2) (rp_X12_next (upI (upI (f_X12_looksAt 7 (H.1 31 2) H).2 33 (iMul 3 (H.1 29 42)).toNat 5) 33 (iAdd (iMul 3 (H.1 29 42)) 1).toNat ((f_X12_looksAt 7 (H.1 31 2) H).2.1 29 18)) (rp_X12_looksAt 7 (H.1 31 2) H hr)).1) ?_
                refine J_ld 198 jw hj rfl rfl rfl rfl ?_
                refine J_cst 199 jw hj rfl rfl rfl ?_
                refine J_icmp (t := 204) jw hj rfl (evn rfl) rfl (fun (h40 : ¬ (2 : Int) < (2 : Int)) => ?_) (fun (h40 : (2 : Int) < (2 : Int)) => absurd h40 (by decide))
                refine J_ld 205 jw hj rfl rfl rfl rfl ?_
                refine J_cst 206 jw hj rfl rfl rfl ?_
                refine J_icmp (t := 226) jw hj rfl (evn rfl) rfl (fun (h41 : ¬ (2 : Int) = (2 : Int)) => absurd h41 (by decide)) (fun (h41 : (2 : Int) = (2 : Int)) => ?_)
                refine J_ld 210 jw hj rfl rfl rfl rfl ?_
                refine J_cst 211 jw hj rfl rfl rfl ?_
                refine J_ld 212 jw hj rfl rfl rfl rfl ?_
                refine J_gfR (k := 31) jw hj rfl (evn rfl) (by decide) (by decide) (RMa (rp_X12_next (upI (f_X12_next (upI (upI (f_X12_looksAt 7 (H.1 31 2) H).2 33 (iMul 3 (H.1 29 42)).toNat 5) 33 (iAdd (iMul 3 (H.1 29 42)) 1).toNat ((f_X12_looksAt 7 (H.1 31 2) H).2.1 29 18))) 33 (iMul 3 (H.1 29 42)).toNat 2) (rp_X12_next (upI (upI (f_X12_looksAt 7 (H.1 31 2) H).2 33 (iMul 3 (H.1 29 42)).toNat 5) 33 (iAdd (iMul 3 (H.1 29 42)) 1).toNat ((f_X12_looksAt 7 (H.1 31 2) H).2.1 29 18)) (rp_X12_looksAt 7 (H.1 31 2) H hr))).1 rfl) ?_
                refine J_cst 216 jw hj rfl rfl rfl ?_
                refine J_iald jw hj rfl (Or.inl rfl) (fun z13 r13 => ?_)
                refine J_callV1 jw rfl (Or.inl ⟨_, rfl⟩) rfl rfl (sp_X12_takesName (g := g) 0 ((f_X12_next (upI (f_X12_next (upI (upI (f_X12_looksAt 7 (H.1 31 2) H).2 33 (iMul 3 (H.1 29 42)).toNat 5) 33 (iAdd (iMul 3 (H.1 29 42)) 1).toNat ((f_X12_looksAt 7 (H.1 31 2) H).2.1 29 18))) 33 (iMul 3 (H.1 29 42)).toNat 2)).1 31 0) (f_X12_next (upI (f_X12_next (upI (upI (f_X12_looksAt 7 (H.1 31 2) H).2 33 (iMul 3 (H.1 29 42)).toNat 5) 33 (iAdd (iMul 3 (H.1 29 42)) 1).toNat ((f_X12_looksAt 7 (H.1 31 2) H).2.1 29 18))) 33 (iMul 3 (H.1 29 42)).toNat 2)) (rp_X12_next (upI (f_X12_next (upI (upI (f_X12_looksAt 7 (H.1 31 2) H).2 33 (iMul 3 (H.1 29 42)).toNat 5) 33 (iAdd (iMul 3 (H.1 29 42)) 1).toNat ((f_X12_looksAt 7 (H.1 31 2) H).2.1 29 18))) 33 (iMul 3 (H.1 29 42)).toNat 2) (rp_X12_next (upI (upI (f_X12_looksAt 7 (H.1 31 2) H).2 33 (iMul 3 (H.1 29 42)).toNat 5) 33 (iAdd (iMul 3 (H.1 29 42)) 1).toNat ((f_X12_looksAt 7 (H.1 31 2) H).2.1 29 18)) (rp_X12_looksAt 7 (H.1 31 2) H hr))).1) ?_
                refine J_ifc (t := 241) jw hj rfl (evn rfl) rfl (fun (h42 : ((f_X12_takesName 0 ((f_X12_next (upI (f_X12_next (upI (upI (f_X12_looksAt 7 (H.1 31 2) H).2 33 (iMul 3 (H.1 29 42)).toNat 5) 33 (iAdd (iMul 3 (H.1 29 42)) 1).toNat ((f_X12_looksAt 7 (H.1 31 2) H).2.1 29 18))) 33 (iMul 3 (H.1 29 42)).toNat 2)).1 31 0) (f_X12_next (upI (f_X12_next (upI (upI (f_X12_looksAt 7 (H.1 31 2) H).2 33 (iMul 3 (H.1 29 42)).toNat 5) 33 (iAdd (iMul 3 (H.1 29 42)) 1).toNat ((f_X12_looksAt 7 (H.1 31 2) H).2.1 29 18))) 33 (iMul 3 (H.1 29 42)).toNat 2))).1) = 0) => ?_) (fun (h42 : ¬ ((f_X12_takesName 0 ((f_X12_next (upI (f_X12_next (upI (upI (f_X12_looksAt 7 (H.1 31 2) H).2 33 (iMul 3 (H.1 29 42)).toNat 5) 33 (iAdd (iMul 3 (H.1 29 42)) 1).toNat ((f_X12_looksAt 7 (H.1 31 2) H).2.1 29 18))) 33 (iMul 3 (H.1 29 42)).toNat 2)).1 31 0) (f_X12_next (upI (f_X12_next (upI (upI (f_X12_looksAt 7 (H.1 31 2) H).2 33 (iMul 3 (H.1 29 42)).toNat 5) 33 (iAdd (iMul 3 (H.1 29 42)) 1).toNat ((f_X12_looksAt 7 (H.1 31 2) H).2.1 29 18))) 33 (iMul 3 (H.1 29 42)).toNat 2))).1) = 0) => ?_)
                · refine J_cst 242 jw hj rfl rfl rfl ?_
                  exact J_ret rfl (Or.inl rfl) (fun aw hR => by show _ ∧ _; unfold f_X12_bookLine; rw [if_pos h0, if_neg h26, if_neg h27, if_pos h28, if_pos h29, if_pos h30, if_neg h31, if_pos h42]; exact ⟨rfl, hR⟩)
                · refine J_goto 243 jw hj rfl rfl ?_
                  refine J_ld 244 jw hj rfl rfl rfl rfl ?_
                  refine J_gfR (k := 33) jw hj rfl (evn rfl) (by decide) (by decide) (RMa (rp_X12_takesName 0 ((f_X12_next (upI (f_X12_next (upI (upI (f_X12_looksAt 7 (H.1 31 2) H).2 33 (iMul 3 (H.1 29 42)).toNat 5) 33 (iAdd (iMul 3 (H.1 29 42)) 1).toNat ((f_X12_looksAt 7 (H.1 31 2) H).2.1 29 18))) 33 (iMul 3 (H.1 29 42)).toNat 2)).1 31 0) (f_X12_next (upI (f_X12_next (upI (upI (f_X12_looksAt 7 (H.1 31 2) H).2 33 (iMul 3 (H.1 29 42)).toNat 5) 33 (iAdd (iMul 3 (H.1 29 42)) 1).toNat ((f_X12_looksAt 7 (H.1 31 2) H).2.1 29 18))) 33 (iMul 3 (H.1 29 42)).toNat 2)) (rp_X12_next (upI (f_X12_next (upI (upI (f_X12_looksAt 7 (H.1 31 2) H).2 33 (iMul 3 (H.1 29 42)).toNat 5) 33 (iAdd (iMul 3 (H.1 29 42)) 1).toNat ((f_X12_looksAt 7 (H.1 31 2) H).2.1 29 18))) 33 (iMul 3 (H.1 29 42)).toNat 2) (rp_X12_next (upI (upI (f_X12_looksAt 7 (H.1 31 2) H).2 33 (iMul 3 (H.1 29 42)).toNat 5) 33 (iAdd (iMul 3 (H.1 29 42)) 1).toNat ((f_X12_looksAt 7 (H.1 31 2) H).2.1 29 18)) (rp_X12_looksAt 7 (H.1 31 2) H hr)))).1 rfl) ?_
                  refine J_ld 248 jw hj rfl rfl rfl rfl ?_
                  refine J_cst 249 jw hj rfl rfl rfl ?_
                  refine J_bin jw hj rfl rfl ?_
                  refine J_ld 251 jw hj rfl rfl rfl rfl ?_
                  refine J_gfI jw hj rfl (evn rfl) (by decide) rfl (fun r14 => ?_)
                  refine J_iast jw hj rfl (Or.inl rfl) (fun _ => ?_)
                  refine J_cst 256 jw hj rfl rfl rfl ?_
                  exact J_ret rfl (Or.inl rfl) (fun aw hR => by show _ ∧ _; unfold f_X12_bookLine; rw [if_pos h0, if_neg h26, if_neg h27, if_pos h28, if_pos h29, if_pos h30, if_neg h31, if_neg h42]; exact ⟨rfl, hR⟩)
            · refine J_cst 129 jw hj rfl rfl rfl ?_
              refine J_goto 175 jw hj rfl rfl ?_
              refine J_st 176 [rf (g 29), pt (iMul 3 (H.1 29 42)), pt (f_X12_isWord 2036687218 H), pt 1] (k := 3) jw hj rfl (Or.inr (Or.inr (Or.inl ⟨_, rfl, rfl, rfl⟩))) rfl ?_
              refine J_ld 177 jw hj rfl rfl rfl rfl ?_
              refine J_ifc (t := 186) jw hj rfl (evn rfl) rfl (fun (h43 : ¬ (1 : Int) < (0 : Int)) => ?_) (fun (h43 : (1 : Int) < (0 : Int)) => absurd h43 (by decide))
              refine J_ld 187 jw hj rfl rfl rfl rfl ?_
              refine J_gfR (k := 33) jw hj rfl (evn rfl) (by decide) (by decide) (RMa (rp_X12_next (upI (upI (f_X12_looksAt 7 (H.1 31 2) H).2 33 (iMul 3 (H.1 29 42)).toNat 5) 33 (iAdd (iMul 3 (H.1 29 42)) 1).toNat ((f_X12_looksAt 7 (H.1 31 2) H).2.1 29 18)) (rp_X12_looksAt 7 (H.1 31 2) H hr)).1 rfl) ?_
              refine J_ld 191 jw hj rfl rfl rfl rfl ?_
              refine J_ld 192 jw hj rfl rfl rfl rfl ?_
              refine J_iast jw hj rfl (Or.inl rfl) (fun _ => ?_)
              refine J_ld 194 jw hj rfl rfl rfl rfl ?_
              refine J_callV0 jw rfl (Or.inl ⟨_, rfl⟩) rfl rfl (sp_X12_next (g := g) (upI (f_X12_next (upI (upI (f_X12_looksAt 7 (H.1 31 2) H).2 33 (iMul 3 (H.1 29 42)).toNat 5) 33 (iAdd (iMul 3 (H.1 29 42)) 1).toNat ((f_X12_looksAt 7 (H.1 31 2) H).2.1 29 18))) 33 (iMul 3 (H.1 29 42)).toNat 1) (rp_X12_next (upI (upI (f_X12_looksAt 7 (H.1 31 2) H).2 33 (iMul 3 (H.1 29 42)).toNat 5) 33 (iAdd (iMul 3 (H.1 29 42)) 1).toNat ((f_X12_looksAt 7 (H.1 31 2) H).2.1 29 18)) (rp_X12_looksAt 7 (H.1 31 2) H hr)).1) ?_
              refine J_ld 198 jw hj rfl rfl rfl rfl ?_
              refine J_cst 199 jw hj rfl rfl rfl ?_
              refine J_icmp (t := 204) jw hj rfl (evn rfl) rfl (fun (h44 : ¬ (2 : Int) < (1 : Int)) => ?_) (fun (h44 : (2 : Int) < (1 : Int)) => absurd h44 (by decide))
              refine J_ld 205 jw hj rfl rfl rfl rfl ?_
              refine J_cst 206 jw hj rfl rfl rfl ?_
              refine J_icmp (t := 226) jw hj rfl (evn rfl) rfl (fun (h45 : ¬ (1 : Int) = (2 : Int)) => ?_) (fun (h45 : (1 : Int) = (2 : Int)) => absurd h45 (by decide))
              refine J_ld 227 jw hj rfl rfl rfl rfl ?_
              refine J_cst 229 jw hj rfl rfl rfl ?_
              refine J_ld 230 jw hj rfl rfl rfl rfl ?_
              refine J_gfR (k := 31) jw hj rfl (evn rfl) (by decide) (by decide) (RMa (rp_X12_next (upI (f_X12_next (upI (upI (f_X12_looksAt 7 (H.1 31 2) H).2 33 (iMul 3 (H.1 29 42)).toNat 5) 33 (iAdd (iMul 3 (H.1 29 42)) 1).toNat ((f_X12_looksAt 7 (H.1 31 2) H).2.1 29 18))) 33 (iMul 3 (H.1 29 42)).toNat 1) (rp_X12_next (upI (upI (f_X12_looksAt 7 (H.1 31 2) H).2 33 (iMul 3 (H.1 29 42)).toNat 5) 33 (iAdd (iMul 3 (H.1 29 42)) 1).toNat ((f_X12_looksAt 7 (H.1 31 2) H).2.1 29 18)) (rp_X12_looksAt 7 (H.1 31 2) H hr))).1 rfl) ?_
              refine J_cst 234 jw hj rfl rfl rfl ?_
              refine J_iald jw hj rfl (Or.inl rfl) (fun z15 r15 => ?_)
              refine J_callV1 jw rfl (Or.inl ⟨_, rfl⟩) rfl rfl (sp_X12_takesName (g := g) 17 ((f_X12_next (upI (f_X12_next (upI (upI (f_X12_looksAt 7 (H.1 31 2) H).2 33 (iMul 3 (H.1 29 42)).toNat 5) 33 (iAdd (iMul 3 (H.1 29 42)) 1).toNat ((f_X12_looksAt 7 (H.1 31 2) H).2.1 29 18))) 33 (iMul 3 (H.1 29 42)).toNat 1)).1 31 3) (f_X12_next (upI (f_X12_next (upI (upI (f_X12_looksAt 7 (H.1 31 2) H).2 33 (iMul 3 (H.1 29 42)).toNat 5) 33 (iAdd (iMul 3 (H.1 29 42)) 1).toNat ((f_X12_looksAt 7 (H.1 31 2) H).2.1 29 18))) 33 (iMul 3 (H.1 29 42)).toNat 1)) (rp_X12_next (upI (f_X12_next (upI (upI (f_X12_looksAt 7 (H.1 31 2) H).2 33 (iMul 3 (H.1 29 42)).toNat 5) 33 (iAdd (iMul 3 (H.1 29 42)) 1).toNat ((f_X12_looksAt 7 (H.1 31 2) H).2.1 29 18))) 33 (iMul 3 (H.1 29 42)).toNat 1) (rp_X12_next (upI (upI (f_X12_looksAt 7 (H.1 31 2) H).2 33 (iMul 3 (H.1 29 42)).toNat 5) 33 (iAdd (iMul 3 (H.1 29 42)) 1).toNat ((f_X12_looksAt 7 (H.1 31 2) H).2.1 29 18)) (rp_X12_looksAt 7 (H.1 31 2) H hr))).1) ?_
              refine J_ifc (t := 243) jw hj rfl (evn rfl) rfl (fun (h46 : ¬ ((f_X12_takesName 17 ((f_X12_next (upI (f_X12_next (upI (upI (f_X12_looksAt 7 (H.1 31 2) H).2 33 (iMul 3 (H.1 29 42)).toNat 5) 33 (iAdd (iMul 3 (H.1 29 42)) 1).toNat ((f_X12_looksAt 7 (H.1 31 2) H).2.1 29 18))) 33 (iMul 3 (H.1 29 42)).toNat 1)).1 31 3) (f_X12_next (upI (f_X12_next (upI (upI (f_X12_looksAt 7 (H.1 31 2) H).2 33 (iMul 3 (H.1 29 42)).toNat 5) 33 (iAdd (iMul 3 (H.1 29 42)) 1).toNat ((f_X12_looksAt 7 (H.1 31 2) H).2.1 29 18))) 33 (iMul 3 (H.1 29 42)).toNat 1))).1) = 0) => ?_) (fun (h46 : ((f_X12_takesName 17 ((f_X12_next (upI (f_X12_next (upI (upI (f_X12_looksAt 7 (H.1 31 2) H).2 33 (iMul 3 (H.1 29 42)).toNat 5) 33 (iAdd (iMul 3 (H.1 29 42)) 1).toNat ((f_X12_looksAt 7 (H.1 31 2) H).2.1 29 18))) 33 (iMul 3 (H.1 29 42)).toNat 1)).1 31 3) (f_X12_next (upI (f_X12_next (upI (upI (f_X12_looksAt 7 (H.1 31 2) H).2 33 (iMul 3 (H.1 29 42)).toNat 5) 33 (iAdd (iMul 3 (H.1 29 42)) 1).toNat ((f_X12_looksAt 7 (H.1 31 2) H).2.1 29 18))) 33 (iMul 3 (H.1 29 42)).toNat 1))).1) = 0) => ?_)
              · refine J_ld 244 jw hj rfl rfl rfl rfl ?_
                refine J_gfR (k := 33) jw hj rfl (evn rfl) (by decide) (by decide) (RMa (rp_X12_takesName 17 ((f_X12_next (upI (f_X12_next (upI (upI (f_X12_looksAt 7 (H.1 31 2) H).2 33 (iMul 3 (H.1 29 42)).toNat 5) 33 (iAdd (iMul 3 (H.1 29 42)) 1).toNat ((f_X12_looksAt 7 (H.1 31 2) H).2.1 29 18))) 33 (iMul 3 (H.1 29 42)).toNat 1)).1 31 3) (f_X12_next (upI (f_X12_next (upI (upI (f_X12_looksAt 7 (H.1 31 2) H).2 33 (iMul 3 (H.1 29 42)).toNat 5) 33 (iAdd (iMul 3 (H.1 29 42)) 1).toNat ((f_X12_looksAt 7 (H.1 31 2) H).2.1 29 18))) 33 (iMul 3 (H.1 29 42)).toNat 1)) (rp_X12_next (upI (f_X12_next (upI (upI (f_X12_looksAt 7 (H.1 31 2) H).2 33 (iMul 3 (H.1 29 42)).toNat 5) 33 (iAdd (iMul 3 (H.1 29 42)) 1).toNat ((f_X12_looksAt 7 (H.1 31 2) H).2.1 29 18))) 33 (iMul 3 (H.1 29 42)).toNat 1) (rp_X12_next (upI (upI (f_X12_looksAt 7 (H.1 31 2) H).2 33 (iMul 3 (H.1 29 42)).toNat 5) 33 (iAdd (iMul 3 (H.1 29 42)) 1).toNat ((f_X12_looksAt 7 (H.1 31 2) H).2.1 29 18)) (rp_X12_looksAt 7 (H.1 31 2) H hr)))).1 rfl) ?_
                refine J_ld 248 jw hj rfl rfl rfl rfl ?_
                refine J_cst 249 jw hj rfl rfl rfl ?_
                refine J_bin jw hj rfl rfl ?_
                refine J_ld 251 jw hj rfl rfl rfl rfl ?_
                refine J_gfI jw hj rfl (evn rfl) (by decide) rfl (fun r16 => ?_)
                refine J_iast jw hj rfl (Or.inl rfl) (fun _ => ?_)
                refine J_cst 256 jw hj rfl rfl rfl ?_
                exact J_ret rfl (Or.inl rfl) (fun aw hR => by show _ ∧ _; unfold f_X12_bookLine; rw [if_pos h0, if_neg h26, if_neg h27, if_pos h28, if_pos h29, if_neg h30, if_neg h46]; exact ⟨rfl, hR⟩)
              · refine J_cst 242 jw hj rfl rfl rfl ?_
                exact J_ret rfl (Or.inl rfl) (fun aw hR => by show _ ∧ _; unfold f_X12_bookLine; rw [if_pos h0, if_neg h26, if_neg h27, if_pos h28, if_pos h29, if_neg h30, if_pos h46]; exact ⟨rfl, hR⟩)
          · refine J_cst 115 jw hj rfl rfl rfl ?_
            refine J_goto 175 jw hj rfl rfl ?_
            refine J_st 176 [rf (g 29), pt (iMul 3 (H.1 29 42)), pt (f_X12_isWord 2036687218 H), pt 0] (k := 3) jw hj rfl (Or.inr (Or.inr (Or.inl ⟨_, rfl, rfl, rfl⟩))) rfl ?_
            refine J_ld 177 jw hj rfl rfl rfl rfl ?_
            refine J_ifc (t := 186) jw hj rfl (evn rfl) rfl (fun (h47 : ¬ (0 : Int) < (0 : Int)) => ?_) (fun (h47 : (0 : Int) < (0 : Int)) => absurd h47 (by decide))
            refine J_ld 187 jw hj rfl rfl rfl rfl ?_
            refine J_gfR (k := 33) jw hj rfl (evn rfl) (by decide) (by decide) (RMa (rp_X12_next (upI (upI (f_X12_looksAt 7 (H.1 31 2) H).2 33 (iMul 3 (H.1 29 42)).toNat 5) 33 (iAdd (iMul 3 (H.1 29 42)) 1).toNat ((f_X12_looksAt 7 (H.1 31 2) H).2.1 29 18)) (rp_X12_looksAt 7 (H.1 31 2) H hr)).1 rfl) ?_
            refine J_ld 191 jw hj rfl rfl rfl rfl ?_
            refine J_ld 192 jw hj rfl rfl rfl rfl ?_
            refine J_iast jw hj rfl (Or.inl rfl) (fun _ => ?_)
            refine J_ld 194 jw hj rfl rfl rfl rfl ?_
            refine J_callV0 jw rfl (Or.inl ⟨_, rfl⟩) rfl rfl (sp_X12_next (g := g) (upI (f_X12_next (upI (upI (f_X12_looksAt 7 (H.1 31 2) H).2 33 (iMul 3 (H.1 29 42)).toNat 5) 33 (iAdd (iMul 3 (H.1 29 42)) 1).toNat ((f_X12_looksAt 7 (H.1 31 2) H).2.1 29 18))) 33 (iMul 3 (H.1 29 42)).toNat 0) (rp_X12_next (upI (upI (f_X12_looksAt 7 (H.1 31 2) H).2 33 (iMul 3 (H.1 29 42)).toNat 5) 33 (iAdd (iMul 3 (H.1 29 42)) 1).toNat ((f_X12_looksAt 7 (H.1 31 2) H).2.1 29 18)) (rp_X12_looksAt 7 (H.1 31 2) H hr)).1) ?_
            refine J_ld 198 jw hj rfl rfl rfl rfl ?_
            refine J_cst 199 jw hj rfl rfl rfl ?_
            refine J_icmp (t := 204) jw hj rfl (evn rfl) rfl (fun (h48 : ¬ (2 : Int) < (0 : Int)) => ?_) (fun (h48 : (2 : Int) < (0 : Int)) => absurd h48 (by decide))
            refine J_ld 205 jw hj rfl rfl rfl rfl ?_
            refine J_cst 206 jw hj rfl rfl rfl ?_
            refine J_icmp (t := 226) jw hj rfl (evn rfl) rfl (fun (h49 : ¬ (0 : Int) = (2 : Int)) => ?_) (fun (h49 : (0 : Int) = (2 : Int)) => absurd h49 (by decide))
            refine J_ld 227 jw hj rfl rfl rfl rfl ?_
            refine J_cst 229 jw hj rfl rfl rfl ?_
            refine J_ld 230 jw hj rfl rfl rfl rfl ?_
            refine J_gfR (k := 31) jw hj rfl (evn rfl) (by decide) (by decide) (RMa (rp_X12_next (upI (f_X12_next (upI (upI (f_X12_looksAt 7 (H.1 31 2) H).2 33 (iMul 3 (H.1 29 42)).toNat 5) 33 (iAdd (iMul 3 (H.1 29 42)) 1).toNat ((f_X12_looksAt 7 (H.1 31 2) H).2.1 29 18))) 33 (iMul 3 (H.1 29 42)).toNat 0) (rp_X12_next (upI (upI (f_X12_looksAt 7 (H.1 31 2) H).2 33 (iMul 3 (H.1 29 42)).toNat 5) 33 (iAdd (iMul 3 (H.1 29 42)) 1).toNat ((f_X12_looksAt 7 (H.1 31 2) H).2.1 29 18)) (rp_X12_looksAt 7 (H.1 31 2) H hr))).1 rfl) ?_
            refine J_cst 234 jw hj rfl rfl rfl ?_
            refine J_iald jw hj rfl (Or.inl rfl) (fun z17 r17 => ?_)
            refine J_callV1 jw rfl (Or.inl ⟨_, rfl⟩) rfl rfl (sp_X12_takesName (g := g) 17 ((f_X12_next (upI (f_X12_next (upI (upI (f_X12_looksAt 7 (H.1 31 2) H).2 33 (iMul 3 (H.1 29 42)).toNat 5) 33 (iAdd (iMul 3 (H.1 29 42)) 1).toNat ((f_X12_looksAt 7 (H.1 31 2) H).2.1 29 18))) 33 (iMul 3 (H.1 29 42)).toNat 0)).1 31 3) (f_X12_next (upI (f_X12_next (upI (upI (f_X12_looksAt 7 (H.1 31 2) H).2 33 (iMul 3 (H.1 29 42)).toNat 5) 33 (iAdd (iMul 3 (H.1 29 42)) 1).toNat ((f_X12_looksAt 7 (H.1 31 2) H).2.1 29 18))) 33 (iMul 3 (H.1 29 42)).toNat 0)) (rp_X12_next (upI (f_X12_next (upI (upI (f_X12_looksAt 7 (H.1 31 2) H).2 33 (iMul 3 (H.1 29 42)).toNat 5) 33 (iAdd (iMul 3 (H.1 29 42)) 1).toNat ((f_X12_looksAt 7 (H.1 31 2) H).2.1 29 18))) 33 (iMul 3 (H.1 29 42)).toNat 0) (rp_X12_next (upI (upI (f_X12_looksAt 7 (H.1 31 2) H).2 33 (iMul 3 (H.1 29 42)).toNat 5) 33 (iAdd (iMul 3 (H.1 29 42)) 1).toNat ((f_X12_looksAt 7 (H.1 31 2) H).2.1 29 18)) (rp_X12_looksAt 7 (H.1 31 2) H hr))).1) ?_
            refine J_ifc (t := 243) jw hj rfl (evn rfl) rfl (fun (h50 : ¬ ((f_X12_takesName 17 ((f_X12_next (upI (f_X12_next (upI (upI (f_X12_looksAt 7 (H.1 31 2) H).2 33 (iMul 3 (H.1 29 42)).toNat 5) 33 (iAdd (iMul 3 (H.1 29 42)) 1).toNat ((f_X12_looksAt 7 (H.1 31 2) H).2.1 29 18))) 33 (iMul 3 (H.1 29 42)).toNat 0)).1 31 3) (f_X12_next (upI (f_X12_next (upI (upI (f_X12_looksAt 7 (H.1 31 2) H).2 33 (iMul 3 (H.1 29 42)).toNat 5) 33 (iAdd (iMul 3 (H.1 29 42)) 1).toNat ((f_X12_looksAt 7 (H.1 31 2) H).2.1 29 18))) 33 (iMul 3 (H.1 29 42)).toNat 0))).1) = 0) => ?_) (fun (h50 : ((f_X12_takesName 17 ((f_X12_next (upI (f_X12_next (upI (upI (f_X12_looksAt 7 (H.1 31 2) H).2 33 (iMul 3 (H.1 29 42)).toNat 5) 33 (iAdd (iMul 3 (H.1 29 42)) 1).toNat ((f_X12_looksAt 7 (H.1 31 2) H).2.1 29 18))) 33 (iMul 3 (H.1 29 42)).toNat 0)).1 31 3) (f_X12_next (upI (f_X12_next (upI (upI (f_X12_looksAt 7 (H.1 31 2) H).2 33 (iMul 3 (H.1 29 42)).toNat 5) 33 (iAdd (iMul 3 (H.1 29 42)) 1).toNat ((f_X12_looksAt 7 (H.1 31 2) H).2.1 29 18))) 33 (iMul 3 (H.1 29 42)).toNat 0))).1) = 0) => ?_)
            · refine J_ld 244 jw hj rfl rfl rfl rfl ?_
              refine J_gfR (k := 33) jw hj rfl (evn rfl) (by decide) (by decide) (RMa (rp_X12_takesName 17 ((f_X12_next (upI (f_X12_next (upI (upI (f_X12_looksAt 7 (H.1 31 2) H).2 33 (iMul 3 (H.1 29 42)).toNat 5) 33 (iAdd (iMul 3 (H.1 29 42)) 1).toNat ((f_X12_looksAt 7 (H.1 31 2) H).2.1 29 18))) 33 (iMul 3 (H.1 29 42)).toNat 0)).1 31 3) (f_X12_next (upI (f_X12_next (upI (upI (f_X12_looksAt 7 (H.1 31 2) H).2 33 (iMul 3 (H.1 29 42)).toNat 5) 33 (iAdd (iMul 3 (H.1 29 42)) 1).toNat ((f_X12_looksAt 7 (H.1 31 2) H).2.1 29 18))) 33 (iMul 3 (H.1 29 42)).toNat 0)) (rp_X12_next (upI (f_X12_next (upI (upI (f_X12_looksAt 7 (H.1 31 2) H).2 33 (iMul 3 (H.1 29 42)).toNat 5) 33 (iAdd (iMul 3 (H.1 29 42)) 1).toNat ((f_X12_looksAt 7 (H.1 31 2) H).2.1 29 18))) 33 (iMul 3 (H.1 29 42)).toNat 0) (rp_X12_next (upI (upI (f_X12_looksAt 7 (H.1 31 2) H).2 33 (iMul 3 (H.1 29 42)).toNat 5) 33 (iAdd (iMul 3 (H.1 29 42)) 1).toNat ((f_X12_looksAt 7 (H.1 31 2) H).2.1 29 18)) (rp_X12_looksAt 7 (H.1 31 2) H hr)))).1 rfl) ?_
              refine J_ld 248 jw hj rfl rfl rfl rfl ?_
              refine J_cst 249 jw hj rfl rfl rfl ?_
              refine J_bin jw hj rfl rfl ?_
              refine J_ld 251 jw hj rfl rfl rfl rfl ?_
              refine J_gfI jw hj rfl (evn rfl) (by decide) rfl (fun r18 => ?_)
              refine J_iast jw hj rfl (Or.inl rfl) (fun _ => ?_)
              refine J_cst 256 jw hj rfl rfl rfl ?_
              exact J_ret rfl (Or.inl rfl) (fun aw hR => by show _ ∧ _; unfold f_X12_bookLine; rw [if_pos h0, if_neg h26, if_neg h27, if_pos h28, if_neg h29, if_neg h50]; exact ⟨rfl, hR⟩)
            · refine J_cst 242 jw hj rfl rfl rfl ?_
              exact J_ret rfl (Or.inl rfl) (fun aw hR => by show _ ∧ _; unfold f_X12_bookLine; rw [if_pos h0, if_neg h26, if_neg h27, if_pos h28, if_neg h29, if_pos h50]; exact ⟨rfl, hR⟩)
        · refine J_ld 79 jw hj rfl rfl rfl rfl ?_
          refine J_cst 80 jw hj rfl rfl rfl ?_
          refine J_cst 82 jw hj rfl rfl rfl ?_
          refine J_callV1 jw rfl (Or.inl ⟨_, rfl⟩) rfl rfl (sp_X12_takes (g := g) 1 60 (f_X12_next (upI (upI (f_X12_looksAt 7 (H.1 31 2) H).2 33 (iMul 3 (H.1 29 42)).toNat 5) 33 (iAdd (iMul 3 (H.1 29 42)) 1).toNat ((f_X12_looksAt 7 (H.1 31 2) H).2.1 29 18))) (rp_X12_next (upI (upI (f_X12_looksAt 7 (H.1 31 2) H).2 33 (iMul 3 (H.1 29 42)).toNat 5) 33 (iAdd (iMul 3 (H.1 29 42)) 1).toNat ((f_X12_looksAt 7 (H.1 31 2) H).2.1 29 18)) (rp_X12_looksAt 7 (H.1 31 2) H hr)).1) ?_
          refine J_ifc (t := 90) jw hj rfl (evn rfl) rfl (fun (h51 : ¬ ((f_X12_takes 1 60 (f_X12_next (upI (upI (f_X12_looksAt 7 (H.1 31 2) H).2 33 (iMul 3 (H.1 29 42)).toNat 5) 33 (iAdd (iMul 3 (H.1 29 42)) 1).toNat ((f_X12_looksAt 7 (H.1 31 2) H).2.1 29 18)))).1) = 0) => ?_) (fun (h51 : ((f_X12_takes 1 60 (f_X12_next (upI (upI (f_X12_looksAt 7 (H.1 31 2) H).2 33 (iMul 3 (H.1 29 42)).toNat 5) 33 (iAdd (iMul 3 (H.1 29 42)) 1).toNat ((f_X12_looksAt 7 (H.1 31 2) H).2.1 29 18)))).1) = 0) => ?_)
          · refine J_ld 91 jw hj rfl rfl rfl rfl ?_
            refine J_gfR (k := 33) jw hj rfl (evn rfl) (by decide) (by decide) (RMa (rp_X12_takes 1 60 (f_X12_next (upI (upI (f_X12_looksAt 7 (H.1 31 2) H).2 33 (iMul 3 (H.1 29 42)).toNat 5) 33 (iAdd (iMul 3 (H.1 29 42)) 1).toNat ((f_X12_looksAt 7 (H.1 31 2) H).2.1 29 18))) (rp_X12_next (upI (upI (f_X12_looksAt 7 (H.1 31 2) H).2 33 (iMul 3 (H.1 29 42)).toNat 5) 33 (iAdd (iMul 3 (H.1 29 42)) 1).toNat ((f_X12_looksAt 7 (H.1 31 2) H).2.1 29 18)) (rp_X12_looksAt 7 (H.1 31 2) H hr))).1 rfl) ?_
            refine J_ld 95 jw hj rfl rfl rfl rfl ?_
            refine J_cst 96 jw hj rfl rfl rfl ?_
            refine J_bin jw hj rfl rfl ?_
            refine J_ld 98 jw hj rfl rfl rfl rfl ?_
            refine J_gfI jw hj rfl (evn rfl) (by decide) rfl (fun r19 => ?_)
            refine J_iast jw hj rfl (Or.inl rfl) (fun _ => ?_)
            refine J_cst 103 jw hj rfl rfl rfl ?_
            exact J_ret rfl (Or.inl rfl) (fun aw hR => by show _ ∧ _; unfold f_X12_bookLine; rw [if_pos h0, if_neg h26, if_neg h27, if_neg h28, if_neg h51]; exact ⟨rfl, hR⟩)
          · refine J_cst 89 jw hj rfl rfl rfl ?_
            exact J_ret rfl (Or.inl rfl) (fun aw hR => by show _ ∧ _; unfold f_X12_bookLine; rw [if_pos h0, if_neg h26, if_neg h27, if_neg h28, if_pos h51]; exact ⟨rfl, hR⟩)
      · refine J_ld 46 jw hj rfl rfl rfl rfl ?_
        refine J_cst 47 jw hj rfl rfl rfl ?_
        refine J_callV1 jw rfl (Or.inl ⟨_, rfl⟩) rfl rfl (sp_X12_bad (g := g) 4 (f_X12_looksAt 7 (H.1 31 2) H).2) ?_
        exact J_ret rfl (Or.inl rfl) (fun aw hR => by show _ ∧ _; unfold f_X12_bookLine; rw [if_pos h0, if_neg h26, if_pos h27]; exact ⟨rfl, hR⟩)
    · refine J_cst 35 jw hj rfl rfl rfl ?_
      exact J_ret rfl (Or.inl rfl) (fun aw hR => by show _ ∧ _; unfold f_X12_bookLine; rw [if_pos h0, if_pos h26]; exact ⟨rfl, hR⟩)
theorem rp_X12_bookLine {P : (Nat → Nat → Option Nat) → Prop}  (H : hH) (hr : P H.2.2.1) : P (f_X12_bookLine H).2.2.2.1 := by
  unfold f_X12_bookLine
  by_cases q1 : f_X12_isWord 2036687218 H = 0
  · rw [if_pos q1]
    by_cases q2 : ((f_X12_looksAt 7 (H.1 31 2) H).1) = 0
    · rw [if_pos q2]
      exact (rp_X12_looksAt 7 (H.1 31 2) H hr)
    · rw [if_neg q2]
      by_cases q3 : ((f_X12_looksAt 7 (H.1 31 2) H).2.1 29 42) = 40
      · rw [if_pos q3]
        exact (rp_X12_bad 4 (f_X12_looksAt 7 (H.1 31 2) H).2 (rp_X12_looksAt 7 (H.1 31 2) H hr))
      · rw [if_neg q3]
        by_cases q4 : f_X12_isWord 2036687218 H = 0
        · rw [if_pos q4]
          by_cases q5 : f_X12_isWord 1734702195 (f_X12_next (upI (upI (f_X12_looksAt 7 (H.1 31 2) H).2 33 (iMul 3 (H.1 29 42)).toNat 5) 33 (iAdd (iMul 3 (H.1 29 42)) 1).toNat ((f_X12_looksAt 7 (H.1 31 2) H).2.1 29 18))) = 0
          · rw [if_pos q5]
            by_cases q6 : f_X12_isWord 465726301555 (f_X12_next (upI (upI (f_X12_looksAt 7 (H.1 31 2) H).2 33 (iMul 3 (H.1 29 42)).toNat 5) 33 (iAdd (iMul 3 (H.1 29 42)) 1).toNat ((f_X12_looksAt 7 (H.1 31 2) H).2.1 29 18))) = 0
            · rw [if_pos q6]
              by_cases q7 : f_X12_isWord 470021465459 (f_X12_next (upI (upI (f_X12_looksAt 7 (H.1 31 2) H).2 33 (iMul 3 (H.1 29 42)).toNat 5) 33 (iAdd (iMul 3 (H.1 29 42)) 1).toNat ((f_X12_looksAt 7 (H.1 31 2) H).2.1 29 18))) = 0
              · rw [if_pos q7]
                by_cases q8 : f_X12_isWord 119182682645875 (f_X12_next (upI (upI (f_X12_looksAt 7 (H.1 31 2) H).2 33 (iMul 3 (H.1 29 42)).toNat 5) 33 (iAdd (iMul 3 (H.1 29 42)) 1).toNat ((f_X12_looksAt 7 (H.1 31 2) H).2.1 29 18))) = 0
                · rw [if_pos q8]
                  by_cases q9 : f_X12_isWord 427071202675 (f_X12_next (upI (upI (f_X12_looksAt 7 (H.1 31 2) H).2 33 (iMul 3 (H.1 29 42)).toNat 5) 33 (iAdd (iMul 3 (H.1 29 42)) 1).toNat ((f_X12_looksAt 7 (H.1 31 2) H).2.1 29 18))) = 0
                  · rw [if_pos q9]
                    exact (rp_X12_bad 1 (f_X12_next (upI (upI (f_X12_looksAt 7 (H.1 31 2) H).2 33 (iMul 3 (H.1 29 42)).toNat 5) 33 (iAdd (iMul 3 (H.1 29 42)) 1).toNat ((f_X12_looksAt 7 (H.1 31 2) H).2.1 29 18))) (rp_X12_next (upI (upI (f_X12_looksAt 7 (H.1 31 2) H).2 33 (iMul 3 (H.1 29 42)).toNat 5) 33 (iAdd (iMul 3 (H.1 29 42)) 1).toNat ((f_X12_looksAt 7 (H.1 31 2) H).2.1 29 18)) (rp_X12_looksAt 7 (H.1 31 2) H hr)))
                  · rw [if_neg q9]
                    exact (rp_X12_next (upI (f_X12_next (upI (upI (f_X12_looksAt 7 (H.1 31 2) H).2 33 (iMul 3 (H.1 29 42)).toNat 5) 33 (iAdd (iMul 3 (H.1 29 42)) 1).toNat ((f_X12_looksAt 7 (H.1 31 2) H).2.1 29 18))) 33 (iMul 3 (H.1 29 42)).toNat 4) (rp_X12_next (upI (upI (f_X12_looksAt 7 (H.1 31 2) H).2 33 (iMul 3 (H.1 29 42)).toNat 5) 33 (iAdd (iMul 3 (H.1 29 42)) 1).toNat ((f_X12_looksAt 7 (H.1 31 2) H).2.1 29 18)) (rp_X12_looksAt 7 (H.1 31 2) H hr)))
                · rw [if_neg q8]
                  exact (rp_X12_next (upI (f_X12_next (upI (upI (f_X12_looksAt 7 (H.1 31 2) H).2 33 (iMul 3 (H.1 29 42)).toNat 5) 33 (iAdd (iMul 3 (H.1 29 42)) 1).toNat ((f_X12_looksAt 7 (H.1 31 2) H).2.1 29 18))) 33 (iMul 3 (H.1 29 42)).toNat 3) (rp_X12_next (upI (upI (f_X12_looksAt 7 (H.1 31 2) H).2 33 (iMul 3 (H.1 29 42)).toNat 5) 33 (iAdd (iMul 3 (H.1 29 42)) 1).toNat ((f_X12_looksAt 7 (H.1 31 2) H).2.1 29 18)) (rp_X12_looksAt 7 (H.1 31 2) H hr)))
              · rw [if_neg q7]
                by_cases q8 : ((f_X12_takesName 0 ((f_X12_next (upI (f_X12_next (upI (upI (f_X12_looksAt 7 (H.1 31 2) H).2 33 (iMul 3 (H.1 29 42)).toNat 5) 33 (iAdd (iMul 3 (H.1 29 42)) 1).toNat ((f_X12_looksAt 7 (H.1 31 2) H).2.1 29 18))) 33 (iMul 3 (H.1 29 42)).toNat 2)).1 31 0) (f_X12_next (upI (f_X12_next (upI (upI (f_X12_looksAt 7 (H.1 31 2) H).2 33 (iMul 3 (H.1 29 42)).toNat 5) 33 (iAdd (iMul 3 (H.1 29 42)) 1).toNat ((f_X12_looksAt 7 (H.1 31 2) H).2.1 29 18))) 33 (iMul 3 (H.1 29 42)).toNat 2))).1) = 0
                · rw [if_pos q8]
                  exact (rp_X12_takesName 0 ((f_X12_next (upI (f_X12_next (upI (upI (f_X12_looksAt 7 (H.1 31 2) H).2 33 (iMul 3 (H.1 29 42)).toNat 5) 33 (iAdd (iMul 3 (H.1 29 42)) 1).toNat ((f_X12_looksAt 7 (H.1 31 2) H).2.1 29 18))) 33 (iMul 3 (H.1 29 42)).toNat 2)).1 31 0) (f_X12_next (upI (f_X12_next (upI (upI (f_X12_looksAt 7 (H.1 31 2) H).2 33 (iMul 3 (H.1 29 42)).toNat 5) 33 (iAdd (iMul 3 (H.1 29 42)) 1).toNat ((f_X12_looksAt 7 (H.1 31 2) H).2.1 29 18))) 33 (iMul 3 (H.1 29 42)).toNat 2)) (rp_X12_next (upI (f_X12_next (upI (upI (f_X12_looksAt 7 (H.1 31 2) H).2 33 (iMul 3 (H.1 29 42)).toNat 5) 33 (iAdd (iMul 3 (H.1 29 42)) 1).toNat ((f_X12_looksAt 7 (H.1 31 2) H).2.1 29 18))) 33 (iMul 3 (H.1 29 42)).toNat 2) (rp_X12_next (upI (upI (f_X12_looksAt 7 (H.1 31 2) H).2 33 (iMul 3 (H.1 29 42)).toNat 5) 33 (iAdd (iMul 3 (H.1 29 42)) 1).toNat ((f_X12_looksAt 7 (H.1 31 2) H).2.1 29 18)) (rp_X12_looksAt 7 (H.1 31 2) H hr))))
                · rw [if_neg q8]
                  exact (rp_X12_takesName 0 ((f_X12_next (upI (f_X12_next (upI (upI (f_X12_looksAt 7 (H.1 31 2) H).2 33 (iMul 3 (H.1 29 42)).toNat 5) 33 (iAdd (iMul 3 (H.1 29 42)) 1).toNat ((f_X12_looksAt 7 (H.1 31 2) H).2.1 29 18))) 33 (iMul 3 (H.1 29 42)).toNat 2)).1 31 0) (f_X12_next (upI (f_X12_next (upI (upI (f_X12_looksAt 7 (H.1 31 2) H).2 33 (iMul 3 (H.1 29 42)).toNat 5) 33 (iAdd (iMul 3 (H.1 29 42)) 1).toNat ((f_X12_looksAt 7 (H.1 31 2) H).2.1 29 18))) 33 (iMul 3 (H.1 29 42)).toNat 2)) (rp_X12_next (upI (f_X12_next (upI (upI (f_X12_looksAt 7 (H.1 31 2) H).2 33 (iMul 3 (H.1 29 42)).toNat 5) 33 (iAdd (iMul 3 (H.1 29 42)) 1).toNat ((f_X12_looksAt 7 (H.1 31 2) H).2.1 29 18))) 33 (iMul 3 (H.1 29 42)).toNat 2) (rp_X12_next (upI (upI (f_X12_looksAt 7 (H.1 31 2) H).2 33 (iMul 3 (H.1 29 42)).toNat 5) 33 (iAdd (iMul 3 (H.1 29 42)) 1).toNat ((f_X12_looksAt 7 (H.1 31 2) H).2.1 29 18)) (rp_X12_looksAt 7 (H.1 31 2) H hr))))
            · rw [if_neg q6]
              by_cases q7 : ((f_X12_takesName 17 ((f_X12_next (upI (f_X12_next (upI (upI (f_X12_looksAt 7 (H.1 31 2) H).2 33 (iMul 3 (H.1 29 42)).toNat 5) 33 (iAdd (iMul 3 (H.1 29 42)) 1).toNat ((f_X12_looksAt 7 (H.1 31 2) H).2.1 29 18))) 33 (iMul 3 (H.1 29 42)).toNat 1)).1 31 3) (f_X12_next (upI (f_X12_next (upI (upI (f_X12_looksAt 7 (H.1 31 2) H).2 33 (iMul 3 (H.1 29 42)).toNat 5) 33 (iAdd (iMul 3 (H.1 29 42)) 1).toNat ((f_X12_looksAt 7 (H.1 31 2) H).2.1 29 18))) 33 (iMul 3 (H.1 29 42)).toNat 1))).1) = 0
              · rw [if_pos q7]
                exact (rp_X12_takesName 17 ((f_X12_next (upI (f_X12_next (upI (upI (f_X12_looksAt 7 (H.1 31 2) H).2 33 (iMul 3 (H.1 29 42)).toNat 5) 33 (iAdd (iMul 3 (H.1 29 42)) 1).toNat ((f_X12_looksAt 7 (H.1 31 2) H).2.1 29 18))) 33 (iMul 3 (H.1 29 42)).toNat 1)).1 31 3) (f_X12_next (upI (f_X12_next (upI (upI (f_X12_looksAt 7 (H.1 31 2) H).2 33 (iMul 3 (H.1 29 42)).toNat 5) 33 (iAdd (iMul 3 (H.1 29 42)) 1).toNat ((f_X12_looksAt 7 (H.1 31 2) H).2.1 29 18))) 33 (iMul 3 (H.1 29 42)).toNat 1)) (rp_X12_next (upI (f_X12_next (upI (upI (f_X12_looksAt 7 (H.1 31 2) H).2 33 (iMul 3 (H.1 29 42)).toNat 5) 33 (iAdd (iMul 3 (H.1 29 42)) 1).toNat ((f_X12_looksAt 7 (H.1 31 2) H).2.1 29 18))) 33 (iMul 3 (H.1 29 42)).toNat 1) (rp_X12_next (upI (upI (f_X12_looksAt 7 (H.1 31 2) H).2 33 (iMul 3 (H.1 29 42)).toNat 5) 33 (iAdd (iMul 3 (H.1 29 42)) 1).toNat ((f_X12_looksAt 7 (H.1 31 2) H).2.1 29 18)) (rp_X12_looksAt 7 (H.1 31 2) H hr))))
              · rw [if_neg q7]
                exact (rp_X12_takesName 17 ((f_X12_next (upI (f_X12_next (upI (upI (f_X12_looksAt 7 (H.1 31 2) H).2 33 (iMul 3 (H.1 29 42)).toNat 5) 33 (iAdd (iMul 3 (H.1 29 42)) 1).toNat ((f_X12_looksAt 7 (H.1 31 2) H).2.1 29 18))) 33 (iMul 3 (H.1 29 42)).toNat 1)).1 31 3) (f_X12_next (upI (f_X12_next (upI (upI (f_X12_looksAt 7 (H.1 31 2) H).2 33 (iMul 3 (H.1 29 42)).toNat 5) 33 (iAdd (iMul 3 (H.1 29 42)) 1).toNat ((f_X12_looksAt 7 (H.1 31 2) H).2.1 29 18))) 33 (iMul 3 (H.1 29 42)).toNat 1)) (rp_X12_next (upI (f_X12_next (upI (upI (f_X12_looksAt 7 (H.1 31 2) H).2 33 (iMul 3 (H.1 29 42)).toNat 5) 33 (iAdd (iMul 3 (H.1 29 42)) 1).toNat ((f_X12_looksAt 7 (H.1 31 2) H).2.1 29 18))) 33 (iMul 3 (H.1 29 42)).toNat 1) (rp_X12_next (upI (upI (f_X12_looksAt 7 (H.1 31 2) H).2 33 (iMul 3 (H.1 29 42)).toNat 5) 33 (iAdd (iMul 3 (H.1 29 42)) 1).toNat ((f_X12_looksAt 7 (H.1 31 2) H).2.1 29 18)) (rp_X12_looksAt 7 (H.1 31 2) H hr))))
          · rw [if_neg q5]
            by_cases q6 : ((f_X12_takesName 17 ((f_X12_next (upI (f_X12_next (upI (upI (f_X12_looksAt 7 (H.1 31 2) H).2 33 (iMul 3 (H.1 29 42)).toNat 5) 33 (iAdd (iMul 3 (H.1 29 42)) 1).toNat ((f_X12_looksAt 7 (H.1 31 2) H).2.1 29 18))) 33 (iMul 3 (H.1 29 42)).toNat 0)).1 31 3) (f_X12_next (upI (f_X12_next (upI (upI (f_X12_looksAt 7 (H.1 31 2) H).2 33 (iMul 3 (H.1 29 42)).toNat 5) 33 (iAdd (iMul 3 (H.1 29 42)) 1).toNat ((f_X12_looksAt 7 (H.1 31 2) H).2.1 29 18))) 33 (iMul 3 (H.1 29 42)).toNat 0))).1) = 0
            · rw [if_pos q6]
              exact (rp_X12_takesName 17 ((f_X12_next (upI (f_X12_next (upI (upI (f_X12_looksAt 7 (H.1 31 2) H).2 33 (iMul 3 (H.1 29 42)).toNat 5) 33 (iAdd (iMul 3 (H.1 29 42)) 1).toNat ((f_X12_looksAt 7 (H.1 31 2) H).2.1 29 18))) 33 (iMul 3 (H.1 29 42)).toNat 0)).1 31 3) (f_X12_next (upI (f_X12_next (upI (upI (f_X12_looksAt 7 (H.1 31 2) H).2 33 (iMul 3 (H.1 29 42)).toNat 5) 33 (iAdd (iMul 3 (H.1 29 42)) 1).toNat ((f_X12_looksAt 7 (H.1 31 2) H).2.1 29 18))) 33 (iMul 3 (H.1 29 42)).toNat 0)) (rp_X12_next (upI (f_X12_next (upI (upI (f_X12_looksAt 7 (H.1 31 2) H).2 33 (iMul 3 (H.1 29 42)).toNat 5) 33 (iAdd (iMul 3 (H.1 29 42)) 1).toNat ((f_X12_looksAt 7 (H.1 31 2) H).2.1 29 18))) 33 (iMul 3 (H.1 29 42)).toNat 0) (rp_X12_next (upI (upI (f_X12_looksAt 7 (H.1 31 2) H).2 33 (iMul 3 (H.1 29 42)).toNat 5) 33 (iAdd (iMul 3 (H.1 29 42)) 1).toNat ((f_X12_looksAt 7 (H.1 31 2) H).2.1 29 18)) (rp_X12_looksAt 7 (H.1 31 2) H hr))))
            · rw [if_neg q6]
              exact (rp_X12_takesName 17 ((f_X12_next (upI (f_X12_next (upI (upI (f_X12_looksAt 7 (H.1 31 2) H).2 33 (iMul 3 (H.1 29 42)).toNat 5) 33 (iAdd (iMul 3 (H.1 29 42)) 1).toNat ((f_X12_looksAt 7 (H.1 31 2) H).2.1 29 18))) 33 (iMul 3 (H.1 29 42)).toNat 0)).1 31 3) (f_X12_next (upI (f_X12_next (upI (upI (f_X12_looksAt 7 (H.1 31 2) H).2 33 (iMul 3 (H.1 29 42)).toNat 5) 33 (iAdd (iMul 3 (H.1 29 42)) 1).toNat ((f_X12_looksAt 7 (H.1 31 2) H).2.1 29 18))) 33 (iMul 3 (H.1 29 42)).toNat 0)) (rp_X12_next (upI (f_X12_next (upI (upI (f_X12_looksAt 7 (H.1 31 2) H).2 33 (iMul 3 (H.1 29 42)).toNat 5) 33 (iAdd (iMul 3 (H.1 29 42)) 1).toNat ((f_X12_looksAt 7 (H.1 31 2) H).2.1 29 18))) 33 (iMul 3 (H.1 29 42)).toNat 0) (rp_X12_next (upI (upI (f_X12_looksAt 7 (H.1 31 2) H).2 33 (iMul 3 (H.1 29 42)).toNat 5) 33 (iAdd (iMul 3 (H.1 29 42)) 1).toNat ((f_X12_looksAt 7 (H.1 31 2) H).2.1 29 18)) (rp_X12_looksAt 7 (H.1 31 2) H hr))))
        · rw [if_neg q4]
          by_cases q5 : ((f_X12_takes 1 60 (f_X12_next (upI (upI (f_X12_looksAt 7 (H.1 31 2) H).2 33 (iMul 3 (H.1 29 42)).toNat 5) 33 (iAdd (iMul 3 (H.1 29 42)) 1).toNat ((f_X12_looksAt 7 (H.1 31 2) H).2.1 29 18)))).1) = 0
          · rw [if_pos q5]
            exact (rp_X12_takes 1 60 (f_X12_next (upI (upI (f_X12_looksAt 7 (H.1 31 2) H).2 33 (iMul 3 (H.1 29 42)).toNat 5) 33 (iAdd (iMul 3 (H.1 29 42)) 1).toNat ((f_X12_looksAt 7 (H.1 31 2) H).2.1 29 18))) (rp_X12_next (upI (upI (f_X12_looksAt 7 (H.1 31 2) H).2 33 (iMul 3 (H.1 29 42)).toNat 5) 33 (iAdd (iMul 3 (H.1 29 42)) 1).toNat ((f_X12_looksAt 7 (H.1 31 2) H).2.1 29 18)) (rp_X12_looksAt 7 (H.1 31 2) H hr)))
          · rw [if_neg q5]
            exact (rp_X12_takes 1 60 (f_X12_next (upI (upI (f_X12_looksAt 7 (H.1 31 2) H).2 33 (iMul 3 (H.1 29 42)).toNat 5) 33 (iAdd (iMul 3 (H.1 29 42)) 1).toNat ((f_X12_looksAt 7 (H.1 31 2) H).2.1 29 18))) (rp_X12_next (upI (upI (f_X12_looksAt 7 (H.1 31 2) H).2 33 (iMul 3 (H.1 29 42)).toNat 5) 33 (iAdd (iMul 3 (H.1 29 42)) 1).toNat ((f_X12_looksAt 7 (H.1 31 2) H).2.1 29 18)) (rp_X12_looksAt 7 (H.1 31 2) H hr)))
  · rw [if_neg q1]
    by_cases q2 : H.1 29 42 = 40
    · rw [if_pos q2]
      exact (rp_X12_bad 4 H hr)
    · rw [if_neg q2]
      by_cases q3 : f_X12_isWord 2036687218 H = 0
      · rw [if_pos q3]
        by_cases q4 : f_X12_isWord 1734702195 (f_X12_next (upI (upI H 33 (iMul 3 (H.1 29 42)).toNat 5) 33 (iAdd (iMul 3 (H.1 29 42)) 1).toNat (H.1 29 18))) = 0
        · rw [if_pos q4]
          by_cases q5 : f_X12_isWord 465726301555 (f_X12_next (upI (upI H 33 (iMul 3 (H.1 29 42)).toNat 5) 33 (iAdd (iMul 3 (H.1 29 42)) 1).toNat (H.1 29 18))) = 0
          · rw [if_pos q5]
            by_cases q6 : f_X12_isWord 470021465459 (f_X12_next (upI (upI H 33 (iMul 3 (H.1 29 42)).toNat 5) 33 (iAdd (iMul 3 (H.1 29 42)) 1).toNat (H.1 29 18))) = 0
            · rw [if_pos q6]
              by_cases q7 : f_X12_isWord 119182682645875 (f_X12_next (upI (upI H 33 (iMul 3 (H.1 29 42)).toNat 5) 33 (iAdd (iMul 3 (H.1 29 42)) 1).toNat (H.1 29 18))) = 0
              · rw [if_pos q7]
                by_cases q8 : f_X12_isWord 427071202675 (f_X12_next (upI (upI H 33 (iMul 3 (H.1 29 42)).toNat 5) 33 (iAdd (iMul 3 (H.1 29 42)) 1).toNat (H.1 29 18))) = 0
                · rw [if_pos q8]
                  exact (rp_X12_bad 1 (f_X12_next (upI (upI H 33 (iMul 3 (H.1 29 42)).toNat 5) 33 (iAdd (iMul 3 (H.1 29 42)) 1).toNat (H.1 29 18))) (rp_X12_next (upI (upI H 33 (iMul 3 (H.1 29 42)).toNat 5) 33 (iAdd (iMul 3 (H.1 29 42)) 1).toNat (H.1 29 18)) hr))
                · rw [if_neg q8]
                  exact (rp_X12_next (upI (f_X12_next (upI (upI H 33 (iMul 3 (H.1 29 42)).toNat 5) 33 (iAdd (iMul 3 (H.1 29 42)) 1).toNat (H.1 29 18))) 33 (iMul 3 (H.1 29 42)).toNat 4) (rp_X12_next (upI (upI H 33 (iMul 3 (H.1 29 42)).toNat 5) 33 (iAdd (iMul 3 (H.1 29 42)) 1).toNat (H.1 29 18)) hr))
              · rw [if_neg q7]
                exact (rp_X12_next (upI (f_X12_next (upI (upI H 33 (iMul 3 (H.1 29 42)).toNat 5) 33 (iAdd (iMul 3 (H.1 29 42)) 1).toNat (H.1 29 18))) 33 (iMul 3 (H.1 29 42)).toNat 3) (rp_X12_next (upI (upI H 33 (iMul 3 (H.1 29 42)).toNat 5) 33 (iAdd (iMul 3 (H.1 29 42)) 1).toNat (H.1 29 18)) hr))
            · rw [if_neg q6]
              by_cases q7 : ((f_X12_takesName 0 ((f_X12_next (upI (f_X12_next (upI (upI H 33 (iMul 3 (H.1 29 42)).toNat 5) 33 (iAdd (iMul 3 (H.1 29 42)) 1).toNat (H.1 29 18))) 33 (iMul 3 (H.1 29 42)).toNat 2)).1 31 0) (f_X12_next (upI (f_X12_next (upI (upI H 33 (iMul 3 (H.1 29 42)).toNat 5) 33 (iAdd (iMul 3 (H.1 29 42)) 1).toNat (H.1 29 18))) 33 (iMul 3 (H.1 29 42)).toNat 2))).1) = 0
              · rw [if_pos q7]
                exact (rp_X12_takesName 0 ((f_X12_next (upI (f_X12_next (upI (upI H 33 (iMul 3 (H.1 29 42)).toNat 5) 33 (iAdd (iMul 3 (H.1 29 42)) 1).toNat (H.1 29 18))) 33 (iMul 3 (H.1 29 42)).toNat 2)).1 31 0) (f_X12_next (upI (f_X12_next (upI (upI H 33 (iMul 3 (H.1 29 42)).toNat 5) 33 (iAdd (iMul 3 (H.1 29 42)) 1).toNat (H.1 29 18))) 33 (iMul 3 (H.1 29 42)).toNat 2)) (rp_X12_next (upI (f_X12_next (upI (upI H 33 (iMul 3 (H.1 29 42)).toNat 5) 33 (iAdd (iMul 3 (H.1 29 42)) 1).toNat (H.1 29 18))) 33 (iMul 3 (H.1 29 42)).toNat 2) (rp_X12_next (upI (upI H 33 (iMul 3 (H.1 29 42)).toNat 5) 33 (iAdd (iMul 3 (H.1 29 42)) 1).toNat (H.1 29 18)) hr)))
              · rw [if_neg q7]
                exact (rp_X12_takesName 0 ((f_X12_next (upI (f_X12_next (upI (upI H 33 (iMul 3 (H.1 29 42)).toNat 5) 33 (iAdd (iMul 3 (H.1 29 42)) 1).toNat (H.1 29 18))) 33 (iMul 3 (H.1 29 42)).toNat 2)).1 31 0) (f_X12_next (upI (f_X12_next (upI (upI H 33 (iMul 3 (H.1 29 42)).toNat 5) 33 (iAdd (iMul 3 (H.1 29 42)) 1).toNat (H.1 29 18))) 33 (iMul 3 (H.1 29 42)).toNat 2)) (rp_X12_next (upI (f_X12_next (upI (upI H 33 (iMul 3 (H.1 29 42)).toNat 5) 33 (iAdd (iMul 3 (H.1 29 42)) 1).toNat (H.1 29 18))) 33 (iMul 3 (H.1 29 42)).toNat 2) (rp_X12_next (upI (upI H 33 (iMul 3 (H.1 29 42)).toNat 5) 33 (iAdd (iMul 3 (H.1 29 42)) 1).toNat (H.1 29 18)) hr)))
          · rw [if_neg q5]
            by_cases q6 : ((f_X12_takesName 17 ((f_X12_next (upI (f_X12_next (upI (upI H 33 (iMul 3 (H.1 29 42)).toNat 5) 33 (iAdd (iMul 3 (H.1 29 42)) 1).toNat (H.1 29 18))) 33 (iMul 3 (H.1 29 42)).toNat 1)).1 31 3) (f_X12_next (upI (f_X12_next (upI (upI H 33 (iMul 3 (H.1 29 42)).toNat 5) 33 (iAdd (iMul 3 (H.1 29 42)) 1).toNat (H.1 29 18))) 33 (iMul 3 (H.1 29 42)).toNat 1))).1) = 0
            · rw [if_pos q6]
              exact (rp_X12_takesName 17 ((f_X12_next (upI (f_X12_next (upI (upI H 33 (iMul 3 (H.1 29 42)).toNat 5) 33 (iAdd (iMul 3 (H.1 29 42)) 1).toNat (H.1 29 18))) 33 (iMul 3 (H.1 29 42)).toNat 1)).1 31 3) (f_X12_next (upI (f_X12_next (upI (upI H 33 (iMul 3 (H.1 29 42)).toNat 5) 33 (iAdd (iMul 3 (H.1 29 42)) 1).toNat (H.1 29 18))) 33 (iMul 3 (H.1 29 42)).toNat 1)) (rp_X12_next (upI (f_X12_next (upI (upI H 33 (iMul 3 (H.1 29 42)).toNat 5) 33 (iAdd (iMul 3 (H.1 29 42)) 1).toNat (H.1 29 18))) 33 (iMul 3 (H.1 29 42)).toNat 1) (rp_X12_next (upI (upI H 33 (iMul 3 (H.1 29 42)).toNat 5) 33 (iAdd (iMul 3 (H.1 29 42)) 1).toNat (H.1 29 18)) hr)))
            · rw [if_neg q6]
              exact (rp_X12_takesName 17 ((f_X12_next (upI (f_X12_next (upI (upI H 33 (iMul 3 (H.1 29 42)).toNat 5) 33 (iAdd (iMul 3 (H.1 29 42)) 1).toNat (H.1 29 18))) 33 (iMul 3 (H.1 29 42)).toNat 1)).1 31 3) (f_X12_next (upI (f_X12_next (upI (upI H 33 (iMul 3 (H.1 29 42)).toNat 5) 33 (iAdd (iMul 3 (H.1 29 42)) 1).toNat (H.1 29 18))) 33 (iMul 3 (H.1 29 42)).toNat 1)) (rp_X12_next (upI (f_X12_next (upI (upI H 33 (iMul 3 (H.1 29 42)).toNat 5) 33 (iAdd (iMul 3 (H.1 29 42)) 1).toNat (H.1 29 18))) 33 (iMul 3 (H.1 29 42)).toNat 1) (rp_X12_next (upI (upI H 33 (iMul 3 (H.1 29 42)).toNat 5) 33 (iAdd (iMul 3 (H.1 29 42)) 1).toNat (H.1 29 18)) hr)))
        · rw [if_neg q4]
          by_cases q5 : ((f_X12_takesName 17 ((f_X12_next (upI (f_X12_next (upI (upI H 33 (iMul 3 (H.1 29 42)).toNat 5) 33 (iAdd (iMul 3 (H.1 29 42)) 1).toNat (H.1 29 18))) 33 (iMul 3 (H.1 29 42)).toNat 0)).1 31 3) (f_X12_next (upI (f_X12_next (upI (upI H 33 (iMul 3 (H.1 29 42)).toNat 5) 33 (iAdd (iMul 3 (H.1 29 42)) 1).toNat (H.1 29 18))) 33 (iMul 3 (H.1 29 42)).toNat 0))).1) = 0
          · rw [if_pos q5]
            exact (rp_X12_takesName 17 ((f_X12_next (upI (f_X12_next (upI (upI H 33 (iMul 3 (H.1 29 42)).toNat 5) 33 (iAdd (iMul 3 (H.1 29 42)) 1).toNat (H.1 29 18))) 33 (iMul 3 (H.1 29 42)).toNat 0)).1 31 3) (f_X12_next (upI (f_X12_next (upI (upI H 33 (iMul 3 (H.1 29 42)).toNat 5) 33 (iAdd (iMul 3 (H.1 29 42)) 1).toNat (H.1 29 18))) 33 (iMul 3 (H.1 29 42)).toNat 0)) (rp_X12_next (upI (f_X12_next (upI (upI H 33 (iMul 3 (H.1 29 42)).toNat 5) 33 (iAdd (iMul 3 (H.1 29 42)) 1).toNat (H.1 29 18))) 33 (iMul 3 (H.1 29 42)).toNat 0) (rp_X12_next (upI (upI H 33 (iMul 3 (H.1 29 42)).toNat 5) 33 (iAdd (iMul 3 (H.1 29 42)) 1).toNat (H.1 29 18)) hr)))
          · rw [if_neg q5]
            exact (rp_X12_takesName 17 ((f_X12_next (upI (f_X12_next (upI (upI H 33 (iMul 3 (H.1 29 42)).toNat 5) 33 (iAdd (iMul 3 (H.1 29 42)) 1).toNat (H.1 29 18))) 33 (iMul 3 (H.1 29 42)).toNat 0)).1 31 3) (f_X12_next (upI (f_X12_next (upI (upI H 33 (iMul 3 (H.1 29 42)).toNat 5) 33 (iAdd (iMul 3 (H.1 29 42)) 1).toNat (H.1 29 18))) 33 (iMul 3 (H.1 29 42)).toNat 0)) (rp_X12_next (upI (f_X12_next (upI (upI H 33 (iMul 3 (H.1 29 42)).toNat 5) 33 (iAdd (iMul 3 (H.1 29 42)) 1).toNat (H.1 29 18))) 33 (iMul 3 (H.1 29 42)).toNat 0) (rp_X12_next (upI (upI H 33 (iMul 3 (H.1 29 42)).toNat 5) 33 (iAdd (iMul 3 (H.1 29 42)) 1).toNat (H.1 29 18)) hr)))
      · rw [if_neg q3]
        by_cases q4 : ((f_X12_takes 1 60 (f_X12_next (upI (upI H 33 (iMul 3 (H.1 29 42)).toNat 5) 33 (iAdd (iMul 3 (H.1 29 42)) 1).toNat (H.1 29 18)))).1) = 0
        · rw [if_pos q4]
          exact (rp_X12_takes 1 60 (f_X12_next (upI (upI H 33 (iMul 3 (H.1 29 42)).toNat 5) 33 (iAdd (iMul 3 (H.1 29 42)) 1).toNat (H.1 29 18))) (rp_X12_next (upI (upI H 33 (iMul 3 (H.1 29 42)).toNat 5) 33 (iAdd (iMul 3 (H.1 29 42)) 1).toNat (H.1 29 18)) hr))
        · rw [if_neg q4]
          exact (rp_X12_takes 1 60 (f_X12_next (upI (upI H 33 (iMul 3 (H.1 29 42)).toNat 5) 33 (iAdd (iMul 3 (H.1 29 42)) 1).toNat (H.1 29 18))) (rp_X12_next (upI (upI H 33 (iMul 3 (H.1 29 42)).toNat 5) 33 (iAdd (iMul 3 (H.1 29 42)) 1).toNat (H.1 29 18)) hr))
/-- line by line, as far as k goes -/
def f_X12_bmain : Nat → hH → Option hH
  | 0, _ => none
  | k + 1, H =>
    if H.1 29 11 = 0 then
      some H
    else
      if ((f_X12_bookLine H).1) = 0 then
        some (f_X12_bookLine H).2
      else
        if ((f_X12_sign 59 (f_X12_bookLine H).2).1) = 0 then
          some (f_X12_sign 59 (f_X12_bookLine H).2).2
        else
          f_X12_bmain k (upI (f_X12_sign 59 (f_X12_bookLine H).2).2 29 42 (iAdd ((f_X12_sign 59 (f_X12_bookLine H).2).2.1 29 42) 1))
/-- behind the reader the fault stays -/
def bkTail (g : Nat → Nat) : Prop := ∀ (a1 : Int) (H : hH), RMs H.2.2.1 → J g rvTab rvInf rvRet 316 rvMth 90 (fun res => FB (g 29) 12 15 (H.1 29 15) res.2) 83 [rf (g 29), pt a1, rvU, rvU] [] H
set_option maxHeartbeats 16000000 in
set_option maxRecDepth 100000 in
theorem jx_X12_bmain {g : Nat → Nat} (hT : bkTail g) (a1 : Int) {r : hH} : ∀ (k : Nat) (H : hH), RMs H.2.2.1 → f_X12_bmain k H = some r → J g rvTab rvInf rvRet 316 rvMth 90 (fun res => FB (g 29) 12 15 (r.1 29 15) res.2) 39 [rf (g 29), pt a1, rvU, rvU] [] H := by
  intro k
  induction k with
  | zero => intro H hr hx; cases hx
  | succ k ih =>
    intro H hr hx
    have hj : 90 < 316 := by decide
    refine J_ld 40 jw hj rfl rfl rfl rfl ?_
    refine J_gfI jw hj rfl (evn rfl) (by decide) rfl (fun r0 => ?_)
    refine J_ifc (t := 83) jw hj rfl (evn rfl) rfl (fun (h0 : H.1 29 11 = 0) => ?_) (fun (h0 : ¬ H.1 29 11 = 0) => ?_)
    · have e : f_X12_bmain (k + 1) H = some H := by
        rw [f_X12_bmain]
        rw [if_pos h0]
      rw [e] at hx
      have e2 := Option.some.inj hx
      subst e2
      exact hT a1 H hr
    · refine J_ld 47 jw hj rfl rfl rfl rfl ?_
      refine J_callV1 jw rfl (Or.inl ⟨_, rfl⟩) rfl rfl (sp_X12_bookLine (g := g) H hr) ?_
      refine J_ifc (t := 62) jw hj rfl (evn rfl) rfl (fun (h1 : ((f_X12_bookLine H).1) = 0) => ?_) (fun (h1 : ¬ ((f_X12_bookLine H).1) = 0) => ?_)
      · refine J_cst 64 jw hj rfl rfl rfl ?_
        refine J_ld 65 jw hj rfl rfl rfl rfl ?_
        refine J_gfI jw hj rfl (evn rfl) (by decide) rfl (fun r1 => ?_)
        refine J_bin jw hj rfl rfl ?_
        have e : f_X12_bmain (k + 1) H = some (f_X12_bookLine H).2 := by
          rw [f_X12_bmain]
          rw [if_neg h0, if_pos h1]
        rw [e] at hx
        have e2 := Option.some.inj hx
        subst e2
        exact J_ret rfl (Or.inl rfl) (fun aw hR => RH_FB hR)
      · refine J_ld 54 jw hj rfl rfl rfl rfl ?_
        refine J_cst 56 jw hj rfl rfl rfl ?_
        refine J_callV1 jw rfl (Or.inl ⟨_, rfl⟩) rfl rfl (sp_X12_sign (g := g) 59 (f_X12_bookLine H).2 (rp_X12_bookLine H hr).1) ?_
        refine J_ifc (t := 70) jw hj rfl (evn rfl) rfl (fun (h2 : ¬ ((f_X12_sign 59 (f_X12_bookLine H).2).1) = 0) => ?_) (fun (h2 : ((f_X12_sign 59 (f_X12_bookLine H).2).1) = 0) => ?_)
        · refine J_ld 71 jw hj rfl rfl rfl rfl ?_
          refine J_dup 72 jw hj rfl rfl ?_
          refine J_gfI jw hj rfl (evn rfl) (by decide) rfl (fun r2 => ?_)
          refine J_cst 76 jw hj rfl rfl rfl ?_
          refine J_bin jw hj rfl rfl ?_
          refine J_pfI jw hj rfl (evn rfl) rfl ?_
          refine J_goto 39 jw hj rfl rfl ?_
          have e : f_X12_bmain (k + 1) H = f_X12_bmain k (upI (f_X12_sign 59 (f_X12_bookLine H).2).2 29 42 (iAdd ((f_X12_sign 59 (f_X12_bookLine H).2).2.1 29 42) 1)) := by
            rw [f_X12_bmain]
            rw [if_neg h0, if_neg h1, if_neg h2]
          rw [e] at hx
          exact ih (upI (f_X12_sign 59 (f_X12_bookLine H).2).2 29 42 (iAdd ((f_X12_sign 59 (f_X12_bookLine H).2).2.1 29 42) 1)) (rp_X12_sign 59 (f_X12_bookLine H).2 (rp_X12_bookLine H hr)) hx
        · refine J_cst 64 jw hj rfl rfl rfl ?_
          refine J_ld 65 jw hj rfl rfl rfl rfl ?_
          refine J_gfI jw hj rfl (evn rfl) (by decide) rfl (fun r3 => ?_)
          refine J_bin jw hj rfl rfl ?_
          have e : f_X12_bmain (k + 1) H = some (f_X12_sign 59 (f_X12_bookLine H).2).2 := by
            rw [f_X12_bmain]
            rw [if_neg h0, if_neg h1, if_pos h2]
          rw [e] at hx
          have e2 := Option.some.inj hx
          subst e2
          exact J_ret rfl (Or.inl rfl) (fun aw hR => RH_FB hR)
def f_X12_book (k : Nat) (H : hH) : Option hH := f_X12_bmain k (f_X12_next (upI (upI (f_X12_taken 400 (upI H 29 0 0)) 29 15 0) 29 42 0))
set_option maxHeartbeats 16000000 in
set_option maxRecDepth 100000 in
theorem sp_X12_book {g : Nat → Nat} (hT : bkTail g) (k : Nat) (a1 : Int) (ha : a1 = 0 ∨ a1 = 1) (H : hH) (hr : RMs H.2.2.1) {r : hH} (hx : f_X12_book k H = some r) : ∀ aw : rvH, RH g aw H → exL [rf (g 29), pt a1] → PCM rvTab rvInf rvRet 316 rvMth 90 [rf (g 29), pt a1] aw (fun res => FB (g 29) 12 15 (r.1 29 15) res.2) := by
  have hj : 90 < 316 := by decide
  refine J_PCMb hj (Nat.le_of_ble_eq_true rfl) ?_
  show J g rvTab rvInf rvRet 316 rvMth 90 _ 0 [rf (g 29), pt a1, rvU, rvU] [] H
  refine J_ld 1 jw hj rfl rfl rfl rfl ?_
  refine J_cst 2 jw hj rfl rfl rfl ?_
  refine J_pfI jw hj rfl (evn rfl) rfl ?_
  refine J_ld 6 jw hj rfl rfl rfl rfl ?_
  refine J_cst 7 jw hj rfl rfl rfl ?_
  refine J_cst 8 jw hj rfl rfl rfl ?_
  refine J_callS1 jw rfl rfl rfl rfl (sp_X12_isIn (g := g) a1 0 1 (upI H 29 0 0)) ?_
  refine J_ifc (t := 18) jw hj rfl (evn rfl) rfl (fun (h0 : ¬ f_X12_isIn a1 0 1 = 0) => ?_) (fun (h0 : f_X12_isIn a1 0 1 = 0) => ?_)
  · refine J_ld 19 jw hj rfl rfl rfl rfl ?_
    refine J_cst 22 jw hj rfl rfl rfl ?_
    refine J_callV0 jw rfl (Or.inl ⟨_, rfl⟩) rfl rfl (sp_X12_taken (g := g) 400 (upI H 29 0 0)) ?_
    refine J_ld 26 jw hj rfl rfl rfl rfl ?_
    refine J_cst 27 jw hj rfl rfl rfl ?_
    refine J_pfI jw hj rfl (evn rfl) rfl ?_
    refine J_ld 31 jw hj rfl rfl rfl rfl ?_
    refine J_cst 32 jw hj rfl rfl rfl ?_
    refine J_pfI jw hj rfl (evn rfl) rfl ?_
    refine J_ld 36 jw hj rfl rfl rfl rfl ?_
    refine J_callV0 jw rfl (Or.inl ⟨_, rfl⟩) rfl rfl (sp_X12_next (g := g) (upI (upI (f_X12_taken 400 (upI H 29 0 0)) 29 15 0) 29 42 0) (rp_X12_taken 400 (upI H 29 0 0) hr).1) ?_
    exact jx_X12_bmain hT a1 k _ (rp_X12_next (upI (upI (f_X12_taken 400 (upI H 29 0 0)) 29 15 0) 29 42 0) (rp_X12_taken 400 (upI H 29 0 0) hr)) hx
  · refine J_cst 17 jw hj rfl rfl rfl ?_
    exact absurd h0 (bk_in ha)
