/-! Rows filled, a new Town, the trial life begun (written by wip/p4/top.py). -/
def upRow (H : hH) (p : Nat) (v : Int) (n : Nat) : hH := (fun p' j' => if p' = p ∧ j' < n then v else H.1 p' j', H.2)
theorem upRow_0 (H : hH) (p : Nat) (v : Int) : upRow H p v 0 = H := by
  unfold upRow
  have e : (fun p' j' => if p' = p ∧ j' < 0 then v else H.1 p' j') = H.1 := by
    funext p' j'
    rw [if_neg (fun q => absurd q.2 (Nat.not_lt_zero _))]
  rw [e]
theorem upRow_s (H : hH) (p : Nat) (v : Int) (n : Nat) : upI (upRow H p v n) p n v = upRow H p v (n + 1) := by
  unfold upI upRow
  have e : (fun p' j' => if p' = p ∧ j' = n then v else (if p' = p ∧ j' < n then v else H.1 p' j')) = (fun p' j' => if p' = p ∧ j' < n + 1 then v else H.1 p' j') := by
    funext p' j'
    by_cases h1 : p' = p ∧ j' < n + 1
    · rw [if_pos h1]
      by_cases h2 : p' = p ∧ j' = n
      · rw [if_pos h2]
      · rw [if_neg h2, if_pos ⟨h1.1, by have := h1.2; have : ¬ j' = n := fun q => h2 ⟨h1.1, q⟩; omega⟩]
    · rw [if_neg h1, if_neg (fun q => h1 ⟨q.1, by have := q.2; omega⟩), if_neg (fun q => h1 ⟨q.1, by have := q.2; omega⟩)]
  exact congrArg (fun f => (f, H.2)) e
theorem lp_fill {g : Nat → Nat} (p n : Nat) (v : Int) (H : hH) (hk : H.2.2.1 p 1000 = some n) (hn : n ≤ 2147483647) : ∀ (k i : Nat), i + k = n → J g rvTab rvInf rvRet 316 rvMth 1 (fun res => res.1 = none ∧ RH g res.2 (upRow H p v n)) 5 [rf (g p), pt v, pt (i : Int), pt (n : Int)] [] (upRow H p v i) := by
  intro k
  induction k with
  | zero =>
    intro i hi
    have hj : 1 < 316 := by decide
    refine J_ld 6 jw hj rfl rfl rfl rfl ?_
    refine J_ld 7 jw hj rfl rfl rfl rfl ?_
    refine J_icmp (t := 20) jw hj rfl (evn rfl) rfl (fun (h0 : ¬ (i : Int) < (n : Int)) => ?_) (fun (h0 : (i : Int) < (n : Int)) => ?_)
    · have e : i = n := by omega
      subst e
      exact J_ret rfl (Or.inr (Or.inr rfl)) (fun aw hR => ⟨rfl, hR⟩)
    · exact absurd h0 (by omega)
  | succ k ih =>
    intro i hi
    have hj : 1 < 316 := by decide
    refine J_ld 6 jw hj rfl rfl rfl rfl ?_
    refine J_ld 7 jw hj rfl rfl rfl rfl ?_
    refine J_icmp (t := 20) jw hj rfl (evn rfl) rfl (fun (h0 : ¬ (i : Int) < (n : Int)) => ?_) (fun (h0 : (i : Int) < (n : Int)) => ?_)
    · exact absurd h0 (by omega)
    · refine J_ld 11 jw hj rfl rfl rfl rfl ?_
      refine J_ld 12 jw hj rfl rfl rfl rfl ?_
      refine J_ld 13 jw hj rfl rfl rfl rfl ?_
      refine J_iast jw hj rfl (Or.inl rfl) (fun _ => ?_)
      refine J_iinc (al' := [rf (g p), pt v, pt (iAdd (i : Int) 1), pt (n : Int)]) jw hj rfl (evn rfl) rfl rfl ?_
      refine J_goto 5 jw hj rfl rfl ?_
      rw [show iAdd (i : Int) 1 = ((i + 1 : Nat) : Int) from iAdd_1 (by omega), show (i : Int).toNat = i from Int.toNat_natCast i, upRow_s]
      exact ih (i + 1) (by omega)
theorem sp_fill {g : Nat → Nat} (p n : Nat) (v : Int) (H : hH) (hk : H.2.2.1 p 1000 = some n) (hn : n ≤ 2147483647 := by decide) : SP g rvTab rvInf rvRet 316 rvMth 1 [rf (g p), pt v] H none (upRow H p v n) := by
  have hj : 1 < 316 := by decide
  refine J_SP hj (Nat.le_of_ble_eq_true rfl) ?_
  show J g rvTab rvInf rvRet 316 rvMth 1 _ 0 [rf (g p), pt v, rvU, rvU] [] H
  refine J_cst 1 jw hj rfl rfl rfl ?_
  refine J_st 2 [rf (g p), pt v, pt 0, rvU] (k := 2) jw hj rfl (Or.inr (Or.inr (Or.inl ⟨_, rfl, rfl, rfl⟩))) rfl ?_
  refine J_ld 3 jw hj rfl rfl rfl rfl ?_
  refine J_len (n := n) jw hj rfl (evn rfl) hk ?_
  refine J_st 5 [rf (g p), pt v, pt 0, pt (n : Int)] (k := 3) jw hj rfl (Or.inr (Or.inr (Or.inl ⟨_, rfl, rfl, rfl⟩))) rfl ?_
  have e := lp_fill (g := g) p n v H hk hn n 0 (Nat.zero_add n)
  rw [upRow_0] at e
  exact e
def f_X10_init (H : hH) : hH := (upR (upN (upR (upN (upR (upN (upR (upN (upR (upN (upR (upN (upR (upN H) 60 0 (some 61))) 60 1 (some 62))) 60 2 (some 63))) 60 3 (some 64))) 60 4 (some 65))) 60 5 (some 66))) 60 6 (some 67))
theorem sp_X10_init {g : Nat → Nat} (H : hH) (hn : H.2.2.2 = 61) (hg : ∀ n, 60 ≤ n → g (n + 1) = g n + 1) : SP g rvTab rvInf rvRet 316 rvMth 129 [rf (g 60)] H none (f_X10_init H) := by
  have hj : 129 < 316 := by decide
  refine J_SP hj (Nat.le_of_ble_eq_true rfl) ?_
  show J g rvTab rvInf rvRet 316 rvMth 129 _ 0 [rf (g 60)] [] H
  refine J_ld 1 jw hj rfl rfl rfl rfl ?_
  refine J_obj 4 rfl rfl rfl ?_
  refine J_ld 5 jw hj rfl rfl rfl rfl ?_
  refine J_cst 6 jw hj rfl rfl rfl ?_
  refine J_newa 8 (n := 61) jw hj rfl hn (hg _ (by decide)) rfl ?_
  refine J_pfR jw hj rfl (evn rfl) (by decide) ?_
  refine J_ld 12 jw hj rfl rfl rfl rfl ?_
  refine J_cst 14 jw hj rfl rfl rfl ?_
  refine J_newa 16 (n := 62) jw hj rfl (upN_n hn) (hg _ (by decide)) rfl ?_
  refine J_pfR jw hj rfl (evn rfl) (by decide) ?_
  refine J_ld 20 jw hj rfl rfl rfl rfl ?_
  refine J_cst 22 jw hj rfl rfl rfl ?_
  refine J_newa 24 (n := 63) jw hj rfl (upN_n (upN_n hn)) (hg _ (by decide)) rfl ?_
  refine J_pfR jw hj rfl (evn rfl) (by decide) ?_
  refine J_ld 28 jw hj rfl rfl rfl rfl ?_
  refine J_cst 30 jw hj rfl rfl rfl ?_
  refine J_newa 32 (n := 64) jw hj rfl (upN_n (upN_n (upN_n hn))) (hg _ (by decide)) rfl ?_
  refine J_pfR jw hj rfl (evn rfl) (by decide) ?_
  refine J_ld 36 jw hj rfl rfl rfl rfl ?_
  refine J_cst 37 jw hj rfl rfl rfl ?_
  refine J_newa 39 (n := 65) jw hj rfl (upN_n (upN_n (upN_n (upN_n hn)))) (hg _ (by decide)) rfl ?_
  refine J_pfR jw hj rfl (evn rfl) (by decide) ?_
  refine J_ld 43 jw hj rfl rfl rfl rfl ?_
  refine J_cst 44 jw hj rfl rfl rfl ?_
  refine J_newa 46 (n := 66) jw hj rfl (upN_n (upN_n (upN_n (upN_n (upN_n hn))))) (hg _ (by decide)) rfl ?_
  refine J_pfR jw hj rfl (evn rfl) (by decide) ?_
  refine J_ld 50 jw hj rfl rfl rfl rfl ?_
  refine J_cst 51 jw hj rfl rfl rfl ?_
  refine J_newa 53 (n := 67) jw hj rfl (upN_n (upN_n (upN_n (upN_n (upN_n (upN_n hn)))))) (hg _ (by decide)) rfl ?_
  refine J_pfR jw hj rfl (evn rfl) (by decide) ?_
  exact J_ret rfl (Or.inr (Or.inr rfl)) (fun aw hR => by show _ ∧ _; unfold f_X10_init; exact ⟨rfl, hR⟩)
def f_X2_beginIn (H : hH) : hH := (upRow (upRow (upI (upI (upI (upI (upR H 52 0 (some 60)) 52 1 0) 52 2 0) 52 3 0) 52 4 0) 53 0 10) 54 0 3)
theorem sp_X2_beginIn {g : Nat → Nat} (H : hH) (h6 : H.2.2.1 52 6 = some 53) (h7 : H.2.2.1 52 7 = some 54) (hl53 : H.2.2.1 53 1000 = some 10) (hl54 : H.2.2.1 54 1000 = some 3) : SP g rvTab rvInf rvRet 316 rvMth 130 [rf (g 52), rf (g 60)] H none (f_X2_beginIn H) := by
  have hj : 130 < 316 := by decide
  refine J_SP hj (Nat.le_of_ble_eq_true rfl) ?_
  show J g rvTab rvInf rvRet 316 rvMth 130 _ 0 [rf (g 52), rf (g 60)] [] H
  refine J_ld 1 jw hj rfl rfl rfl rfl ?_
  refine J_ld 2 jw hj rfl rfl rfl rfl ?_
  refine J_pfR jw hj rfl (evn rfl) (by decide) ?_
  refine J_ld 6 jw hj rfl rfl rfl rfl ?_
  refine J_cst 7 jw hj rfl rfl rfl ?_
  refine J_pfI jw hj rfl (evn rfl) rfl ?_
  refine J_ld 11 jw hj rfl rfl rfl rfl ?_
  refine J_cst 12 jw hj rfl rfl rfl ?_
  refine J_pfI jw hj rfl (evn rfl) rfl ?_
  refine J_ld 16 jw hj rfl rfl rfl rfl ?_
  refine J_cst 17 jw hj rfl rfl rfl ?_
  refine J_pfI jw hj rfl (evn rfl) rfl ?_
  refine J_ld 21 jw hj rfl rfl rfl rfl ?_
  refine J_cst 22 jw hj rfl rfl rfl ?_
  refine J_pfI jw hj rfl (evn rfl) rfl ?_
  refine J_ld 26 jw hj rfl rfl rfl rfl ?_
  refine J_gfR (k := 53) jw hj rfl (evn rfl) (by decide) (by decide) (by first | exact h6 | exact h7) ?_
  refine J_cst 30 jw hj rfl rfl rfl ?_
  refine J_callS0 jw rfl rfl rfl rfl (sp_fill (g := g) 53 10 0 (upI (upI (upI (upI (upR H 52 0 (some 60)) 52 1 0) 52 2 0) 52 3 0) 52 4 0) hl53) ?_
  refine J_ld 34 jw hj rfl rfl rfl rfl ?_
  refine J_gfR (k := 54) jw hj rfl (evn rfl) (by decide) (by decide) (by first | exact h6 | exact h7) ?_
  refine J_cst 38 jw hj rfl rfl rfl ?_
  refine J_callS0 jw rfl rfl rfl rfl (sp_fill (g := g) 54 3 0 (upRow (upI (upI (upI (upI (upR H 52 0 (some 60)) 52 1 0) 52 2 0) 52 3 0) 52 4 0) 53 0 10) hl54) ?_
  exact J_ret rfl (Or.inr (Or.inr rfl)) (fun aw hR => by show _ ∧ _; unfold f_X2_beginIn; exact ⟨rfl, hR⟩)
