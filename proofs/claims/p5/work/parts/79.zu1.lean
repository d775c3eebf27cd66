/-! The tape's methods, of the tape's own references alone (written by wip/p42/xs.py). -/
def rtL : List (Nat × Nat × Nat) := [(4, 0, 5), (4, 1, 6), (4, 3, 7), (4, 4, 8), (4, 5, 9), (4, 6, 10)]
def RT (r : Nat → Nat → Option Nat) : Prop := ∀ q ∈ rtL, r q.1 q.2.1 = some q.2.2
theorem RTa {r : Nat → Nat → Option Nat} (h : RT r) {p f k : Nat} (hm : rtL.elem (p, f, k) = true) : r p f = some k := h (p, f, k) (List.elem_iff.mp hm)
set_option maxHeartbeats 16000000 in
set_option maxRecDepth 100000 in
theorem st_X9_advance {g : Nat → Nat}  (H : hH) (hr : RT H.2.2.1) : SP g rvTab rvInf rvRet 316 rvMth 5 [rf (g 4)] H (none) (f_X9_advance H) := by
  have hj : 5 < 316 := by decide
  refine J_SP hj (Nat.le_of_ble_eq_true rfl) ?_
  show J g rvTab rvInf rvRet 316 rvMth 5 _ 0 [rf (g 4)] [] H
  refine J_ld 1 jw hj rfl rfl rfl rfl ?_
  refine J_gfI jw hj rfl (evn rfl) (by decide) rfl (fun r0 => ?_)
  refine J_cst 5 jw hj rfl rfl rfl ?_
  refine J_bin jw hj rfl rfl ?_
  refine J_ld 7 jw hj rfl rfl rfl rfl ?_
  refine J_gfI jw hj rfl (evn rfl) (by decide) rfl (fun r1 => ?_)
  refine J_icmp (t := 62) jw hj rfl (evn rfl) rfl (fun (h0 : ¬ iAdd (H.1 4 9) 1 < H.1 4 7) => ?_) (fun (h0 : iAdd (H.1 4 9) 1 < H.1 4 7) => ?_)
  · exact J_ret rfl (Or.inr (Or.inr rfl)) (fun aw hR => by show _ ∧ _; unfold f_X9_advance; rw [if_neg h0]; exact ⟨rfl, hR⟩)
  · refine J_ld 14 jw hj rfl rfl rfl rfl ?_
    refine J_dup 15 jw hj rfl rfl ?_
    refine J_gfI jw hj rfl (evn rfl) (by decide) rfl (fun r2 => ?_)
    refine J_cst 19 jw hj rfl rfl rfl ?_
    refine J_bin jw hj rfl rfl ?_
    refine J_pfI jw hj rfl (evn rfl) rfl ?_
    refine J_ld 24 jw hj rfl rfl rfl rfl ?_
    refine J_ld 25 jw hj rfl rfl rfl rfl ?_
    refine J_gfR (k := 7) jw hj rfl (evn rfl) (by decide) (by decide) (RTa hr rfl) ?_
    refine J_ld 29 jw hj rfl rfl rfl rfl ?_
    refine J_gfI jw hj rfl (evn rfl) (by decide) rfl (fun r3 => ?_)
    refine J_iald jw hj rfl (Or.inr rfl) (fun z4 r4 => ?_)
    refine J_pfI jw hj rfl (evn rfl) rfl ?_
    refine J_ld 37 jw hj rfl rfl rfl rfl ?_
    refine J_ld 38 jw hj rfl rfl rfl rfl ?_
    refine J_gfR (k := 9) jw hj rfl (evn rfl) (by decide) (by decide) (RTa hr rfl) ?_
    refine J_ld 42 jw hj rfl rfl rfl rfl ?_
    refine J_gfI jw hj rfl (evn rfl) (by decide) rfl (fun r5 => ?_)
    refine J_iald jw hj rfl (Or.inl rfl) (fun z6 r6 => ?_)
    refine J_pfI jw hj rfl (evn rfl) rfl ?_
    refine J_ld 50 jw hj rfl rfl rfl rfl ?_
    refine J_ld 51 jw hj rfl rfl rfl rfl ?_
    refine J_gfR (k := 10) jw hj rfl (evn rfl) (by decide) (by decide) (RTa hr rfl) ?_
    refine J_ld 55 jw hj rfl rfl rfl rfl ?_
    refine J_gfI jw hj rfl (evn rfl) (by decide) rfl (fun r7 => ?_)
    refine J_lald jw hj rfl (evn rfl) (fun _ => ?_)
    refine J_pfL jw hj rfl (evn rfl) rfl ?_
    exact J_ret rfl (Or.inr (Or.inr rfl)) (fun aw hR => by show _ ∧ _; unfold f_X9_advance; rw [if_pos h0]; exact ⟨rfl, hR⟩)
theorem rp_X9_advance {P : (Nat → Nat → Option Nat) → Prop}  (H : hH) (hr : P H.2.2.1) : P (f_X9_advance H).2.2.1 := by
  unfold f_X9_advance
  by_cases q1 : iAdd (H.1 4 9) 1 < H.1 4 7
  · rw [if_pos q1]
    exact hr
  · rw [if_neg q1]
    exact hr
set_option maxHeartbeats 16000000 in
set_option maxRecDepth 100000 in
theorem st_X9_fail {g : Nat → Nat} (a1 : Int) (H : hH) (hr : RT H.2.2.1) : SP g rvTab rvInf rvRet 316 rvMth 9 [rf (g 4), pt a1] H (some (pt (f_X9_fail a1 H).1)) (f_X9_fail a1 H).2 := by
  have hj : 9 < 316 := by decide
  refine J_SP hj (Nat.le_of_ble_eq_true rfl) ?_
  show J g rvTab rvInf rvRet 316 rvMth 9 _ 0 [rf (g 4), pt a1] [] H
  refine J_ld 1 jw hj rfl rfl rfl rfl ?_
  refine J_ld 2 jw hj rfl rfl rfl rfl ?_
  refine J_pfI jw hj rfl (evn rfl) rfl ?_
  refine J_ld 6 jw hj rfl rfl rfl rfl ?_
  refine J_ld 7 jw hj rfl rfl rfl rfl ?_
  refine J_gfR (k := 8) jw hj rfl (evn rfl) (by decide) (by decide) (RTa hr rfl) ?_
  refine J_ld 11 jw hj rfl rfl rfl rfl ?_
  refine J_gfI jw hj rfl (evn rfl) (by decide) rfl (fun r0 => ?_)
  refine J_iald jw hj rfl (Or.inl rfl) (fun z1 r1 => ?_)
  refine J_pfI jw hj rfl (evn rfl) rfl ?_
  refine J_cst 19 jw hj rfl rfl rfl ?_
  exact J_ret rfl (Or.inl rfl) (fun aw hR => by show _ ∧ _; unfold f_X9_fail; exact ⟨rfl, hR⟩)
theorem rp_X9_fail {P : (Nat → Nat → Option Nat) → Prop} (a1 : Int) (H : hH) (hr : P H.2.2.1) : P (f_X9_fail a1 H).2.2.2.1 := by
  unfold f_X9_fail
  exact hr
set_option maxHeartbeats 16000000 in
set_option maxRecDepth 100000 in
theorem st_X9_passSign {g : Nat → Nat} (a1 : Int) (H : hH) (hr : RT H.2.2.1) : SP g rvTab rvInf rvRet 316 rvMth 10 [rf (g 4), pt a1] H (some (pt (f_X9_passSign a1 H).1)) (f_X9_passSign a1 H).2 := by
  have hj : 10 < 316 := by decide
  refine J_SP hj (Nat.le_of_ble_eq_true rfl) ?_
  show J g rvTab rvInf rvRet 316 rvMth 10 _ 0 [rf (g 4), pt a1] [] H
  refine J_ld 1 jw hj rfl rfl rfl rfl ?_
  refine J_ld 2 jw hj rfl rfl rfl rfl ?_
  refine J_callV1 jw rfl (Or.inl ⟨_, rfl⟩) rfl rfl (sp_X9_isAtSign (g := g) a1 H) ?_
  refine J_ifc (t := 14) jw hj rfl (evn rfl) rfl (fun (h0 : ¬ f_X9_isAtSign a1 H = 0) => ?_) (fun (h0 : f_X9_isAtSign a1 H = 0) => ?_)
  · refine J_ld 15 jw hj rfl rfl rfl rfl ?_
    refine J_callV0 jw rfl (Or.inl ⟨_, rfl⟩) rfl rfl (st_X9_advance (g := g) H hr) ?_
    refine J_cst 19 jw hj rfl rfl rfl ?_
    exact J_ret rfl (Or.inl rfl) (fun aw hR => by show _ ∧ _; unfold f_X9_passSign; rw [if_neg h0]; exact ⟨rfl, hR⟩)
  · refine J_ld 9 jw hj rfl rfl rfl rfl ?_
    refine J_cst 10 jw hj rfl rfl rfl ?_
    refine J_callV1 jw rfl (Or.inl ⟨_, rfl⟩) rfl rfl (st_X9_fail (g := g) 1 H hr) ?_
    exact J_ret rfl (Or.inl rfl) (fun aw hR => by show _ ∧ _; unfold f_X9_passSign; rw [if_pos h0]; exact ⟨rfl, hR⟩)
theorem rp_X9_passSign {P : (Nat → Nat → Option Nat) → Prop} (a1 : Int) (H : hH) (hr : P H.2.2.1) : P (f_X9_passSign a1 H).2.2.2.1 := by
  unfold f_X9_passSign
  by_cases q1 : f_X9_isAtSign a1 H = 0
  · rw [if_pos q1]
    exact (rp_X9_fail 1 H hr)
  · rw [if_neg q1]
    exact (rp_X9_advance H hr)
set_option maxHeartbeats 16000000 in
set_option maxRecDepth 100000 in
theorem st_X9_passNumber {g : Nat → Nat} (a1 : Int) (a2 : Int) (H : hH) (hr : RT H.2.2.1) : SP g rvTab rvInf rvRet 316 rvMth 12 [rf (g 4), pt a1, pt a2] H (some (pt (f_X9_passNumber a1 a2 H).1)) (f_X9_passNumber a1 a2 H).2 := by
  have hj : 12 < 316 := by decide
  refine J_SP hj (Nat.le_of_ble_eq_true rfl) ?_
  show J g rvTab rvInf rvRet 316 rvMth 12 _ 0 [rf (g 4), pt a1, pt a2, rvU] [] H
  refine J_ld 1 jw hj rfl rfl rfl rfl ?_
  refine J_gfI jw hj rfl (evn rfl) (by decide) rfl (fun r0 => ?_)
  refine J_cst 5 jw hj rfl rfl rfl ?_
  refine J_icmp (t := 16) jw hj rfl (evn rfl) rfl (fun (h0 : H.1 4 10 = 3) => ?_) (fun (h0 : ¬ H.1 4 10 = 3) => ?_)
  · refine J_ld 17 jw hj rfl rfl rfl rfl ?_
    refine J_gfI jw hj rfl (evn rfl) (by decide) rfl (fun r1 => ?_)
    refine J_st 21 [rf (g 4), pt a1, pt a2, pt (H.1 4 11)] (k := 3) jw hj rfl (Or.inr (Or.inr (Or.inl ⟨_, rfl, rfl, rfl⟩))) rfl ?_
    refine J_ld 22 jw hj rfl rfl rfl rfl ?_
    refine J_ld 23 jw hj rfl rfl rfl rfl ?_
    refine J_ld 24 jw hj rfl rfl rfl rfl ?_
    refine J_callS1 jw rfl rfl rfl rfl (sp_X11_isWithin (g := g) (H.1 4 11) a1 a2 H) ?_
    refine J_ifc (t := 38) jw hj rfl (evn rfl) rfl (fun (h1 : ¬ f_X11_isWithin (H.1 4 11) a1 a2 = 0) => ?_) (fun (h1 : f_X11_isWithin (H.1 4 11) a1 a2 = 0) => ?_)
    · refine J_ld 39 jw hj rfl rfl rfl rfl ?_
      refine J_callV0 jw rfl (Or.inl ⟨_, rfl⟩) rfl rfl (st_X9_advance (g := g) H hr) ?_
      refine J_ld 43 jw hj rfl rfl rfl rfl ?_
      exact J_ret rfl (Or.inl rfl) (fun aw hR => by show _ ∧ _; unfold f_X9_passNumber; rw [if_pos h0, if_neg h1]; exact ⟨rfl, hR⟩)
    · refine J_ld 31 jw hj rfl rfl rfl rfl ?_
      refine J_cst 32 jw hj rfl rfl rfl ?_
      refine J_callV1 jw rfl (Or.inl ⟨_, rfl⟩) rfl rfl (st_X9_fail (g := g) 2 H hr) ?_
      refine J_pop 36 jw hj rfl rfl ?_
      refine J_cst 37 jw hj rfl rfl rfl ?_
      exact J_ret rfl (Or.inl rfl) (fun aw hR => by show _ ∧ _; unfold f_X9_passNumber; rw [if_pos h0, if_pos h1]; exact ⟨rfl, hR⟩)
  · refine J_ld 9 jw hj rfl rfl rfl rfl ?_
    refine J_cst 10 jw hj rfl rfl rfl ?_
    refine J_callV1 jw rfl (Or.inl ⟨_, rfl⟩) rfl rfl (st_X9_fail (g := g) 1 H hr) ?_
    refine J_pop 14 jw hj rfl rfl ?_
    refine J_cst 15 jw hj rfl rfl rfl ?_
    exact J_ret rfl (Or.inl rfl) (fun aw hR => by show _ ∧ _; unfold f_X9_passNumber; rw [if_neg h0]; exact ⟨rfl, hR⟩)
theorem rp_X9_passNumber {P : (Nat → Nat → Option Nat) → Prop} (a1 : Int) (a2 : Int) (H : hH) (hr : P H.2.2.1) : P (f_X9_passNumber a1 a2 H).2.2.2.1 := by
  unfold f_X9_passNumber
  by_cases q1 : H.1 4 10 = 3
  · rw [if_pos q1]
    by_cases q2 : f_X11_isWithin (H.1 4 11) a1 a2 = 0
    · rw [if_pos q2]
      exact (rp_X9_fail 2 H hr)
    · rw [if_neg q2]
      exact (rp_X9_advance H hr)
  · rw [if_neg q1]
    exact (rp_X9_fail 1 H hr)
theorem lt_X9_wordOf {g : Nat → Nat} (a1 : Int64) (H : hH) (hr : RT H.2.2.1) : ∀ (k i : Nat), i + k = 23 → J g rvTab rvInf rvRet 316 rvMth 2 (fun res => res.1 = some (pt (fstI (fun i => decide (H.2.1 6 i = a1)) k i)) ∧ RH g res.2 H) 2 [rf (g 4), lg a1, rvU, pt (i : Int)] [] H := by
  intro k
  induction k with
  | zero =>
    intro i hk
    have hj : 2 < 316 := by decide
    refine J_ld 3 jw hj rfl rfl rfl rfl ?_
    refine J_cst 5 jw hj rfl rfl rfl ?_
    refine J_icmp (t := 27) jw hj rfl (evn rfl) rfl (fun (h0 : ¬ (i : Int) < 23) => ?_) (fun (h0 : (i : Int) < 23) => ?_)
    · refine J_cst 28 jw hj rfl rfl rfl ?_
      exact J_ret rfl (Or.inl rfl) (fun aw hR => ⟨rfl, hR⟩)
    · exact absurd h0 (by omega)
  | succ k ih =>
    intro i hk
    have hj : 2 < 316 := by decide
    refine J_ld 3 jw hj rfl rfl rfl rfl ?_
    refine J_cst 5 jw hj rfl rfl rfl ?_
    refine J_icmp (t := 27) jw hj rfl (evn rfl) rfl (fun (h0 : ¬ (i : Int) < 23) => ?_) (fun (h0 : (i : Int) < 23) => ?_)
    · exact absurd h0 (by omega)
    · refine J_ld 9 jw hj rfl rfl rfl rfl ?_
      refine J_gfR (k := 6) jw hj rfl (evn rfl) (by decide) (by decide) (RTa hr rfl) ?_
      refine J_ld 13 jw hj rfl rfl rfl rfl ?_
      refine J_lald jw hj rfl (evn rfl) (fun _ => ?_)
      refine J_ld 15 jw hj rfl rfl rfl rfl ?_
      refine J_lcmp jw hj rfl (evn rfl) ?_
      refine J_ifc (t := 21) jw hj rfl (evn rfl) rfl (fun (h1 : ¬ ((lg_cmp (H.2.1 6 ((i : Int)).toNat) a1).toInt) = 0) => ?_) (fun (h1 : ((lg_cmp (H.2.1 6 ((i : Int)).toNat) a1).toInt) = 0) => ?_)
      · refine J_iinc (al' := [rf (g 4), lg a1, rvU, pt (iAdd (i : Int) 1)]) jw hj rfl (evn rfl) rfl rfl ?_
        refine J_goto 2 jw hj rfl rfl ?_
        rw [show iAdd (i : Int) 1 = ((i + 1 : Nat) : Int) from iAdd_1 (by omega)]
        have e := ih (i + 1) (by omega)
        have e2 : fstI (fun i => decide (H.2.1 6 i = a1)) (k + 1) i = fstI (fun i => decide (H.2.1 6 i = a1)) k (i + 1) := by
          show (if decide (H.2.1 6 i = a1) = true then _ else _) = _
          rw [if_neg (fun q => h1 ((lgc0 _ _).mpr (by simpa using q)))]
        rw [e2]
        exact e
      · refine J_ld 20 jw hj rfl rfl rfl rfl ?_
        exact J_ret rfl (Or.inl rfl) (fun aw hR => by
        refine ⟨?_, hR⟩
        show some (pt (i : Int)) = some (pt (if decide (H.2.1 6 i = a1) = true then (i : Int) else _))
        rw [if_pos (by simpa using (lgc0 _ _).mp h1)])
theorem st_X9_wordOf {g : Nat → Nat} (a1 : Int64) (H : hH) (hr : RT H.2.2.1) : SP g rvTab rvInf rvRet 316 rvMth 2 [rf (g 4), lg a1] H (some (pt (f_X9_wordOf a1 H))) H := by
  have hj : 2 < 316 := by decide
  refine J_SP hj (Nat.le_of_ble_eq_true rfl) ?_
  show J g rvTab rvInf rvRet 316 rvMth 2 _ 0 [rf (g 4), lg a1, rvU, rvU] [] H
  refine J_cst 1 jw hj rfl rfl rfl ?_
  refine J_st 2 [rf (g 4), lg a1, rvU, pt 0] (k := 3) jw hj rfl (Or.inr (Or.inr (Or.inl ⟨_, rfl, rfl, rfl⟩))) rfl ?_
  exact lt_X9_wordOf a1 H hr 23 0 rfl
set_option maxHeartbeats 16000000 in
set_option maxRecDepth 100000 in
theorem lt_X9_blanks {g : Nat → Nat} {Post : xRes2 → Prop} (a1 : Int) : ∀ (k : Nat)  (H : hH) (w : rvV), RT H.2.2.1 → (H.1 4 2 - H.1 4 8).toNat ≤ k → (∀ w : rvV, J g rvTab rvInf rvRet 316 rvMth 4 Post 39 [rf (g 4), pt a1, w] [] (f_X9_blanks a1 k H)) → J g rvTab rvInf rvRet 316 rvMth 4 Post 0 [rf (g 4), pt a1, w] [] H := by
  intro k
  induction k with
  | zero =>
    intro  H w hr hm hx
    have hj : 4 < 316 := by decide
    refine J_ld 1 jw hj rfl rfl rfl rfl ?_
    refine J_gfI jw hj rfl (evn rfl) (by decide) rfl (fun r0 => ?_)
    refine J_ld 5 jw hj rfl rfl rfl rfl ?_
    refine J_gfI jw hj rfl (evn rfl) (by decide) rfl (fun r1 => ?_)
    refine J_icmp (t := 39) jw hj rfl (evn rfl) rfl (fun (h0 : ¬ H.1 4 8 < H.1 4 2) => ?_) (fun (h0 : H.1 4 8 < H.1 4 2) => ?_)
    · exact hx w
    · exfalso; omega
  | succ k ih =>
    intro  H w hr hm hx
    have hj : 4 < 316 := by decide
    refine J_ld 1 jw hj rfl rfl rfl rfl ?_
    refine J_gfI jw hj rfl (evn rfl) (by decide) rfl (fun r0 => ?_)
    refine J_ld 5 jw hj rfl rfl rfl rfl ?_
    refine J_gfI jw hj rfl (evn rfl) (by decide) rfl (fun r1 => ?_)
    refine J_icmp (t := 39) jw hj rfl (evn rfl) rfl (fun (h0 : ¬ H.1 4 8 < H.1 4 2) => ?_) (fun (h0 : H.1 4 8 < H.1 4 2) => ?_)
    · have e : f_X9_blanks a1 (k + 1) H = H := by
        rw [f_X9_blanks]
        rw [if_neg h0]
      rw [e] at hx
      exact hx w
    · refine J_ld 12 jw hj rfl rfl rfl rfl ?_
      refine J_gfR (k := 5) jw hj rfl (evn rfl) (by decide) (by decide) (RTa hr rfl) ?_
      refine J_ld 16 jw hj rfl rfl rfl rfl ?_
      refine J_gfI jw hj rfl (evn rfl) (by decide) rfl (fun r2 => ?_)
      refine J_iald jw hj rfl (Or.inr rfl) (fun z3 r3 => ?_)
      refine J_callS1 jw rfl rfl rfl rfl (sp_X9_isBlank (g := g) (H.1 5 (H.1 4 8).toNat) H) ?_
      refine J_ifc (t := 39) jw hj rfl (evn rfl) rfl (fun (h1 : f_X9_isBlank (H.1 5 (H.1 4 8).toNat) = 0) => ?_) (fun (h1 : ¬ f_X9_isBlank (H.1 5 (H.1 4 8).toNat) = 0) => ?_)
      · have e : f_X9_blanks a1 (k + 1) H = H := by
          rw [f_X9_blanks]
          rw [if_pos h0, if_pos h1]
        rw [e] at hx
        exact hx w
      · refine J_ld 27 jw hj rfl rfl rfl rfl ?_
        refine J_dup 28 jw hj rfl rfl ?_
        refine J_gfI jw hj rfl (evn rfl) (by decide) rfl (fun r4 => ?_)
        refine J_cst 32 jw hj rfl rfl rfl ?_
        refine J_bin jw hj rfl rfl ?_
        refine J_pfI jw hj rfl (evn rfl) rfl ?_
        refine J_goto 0 jw hj rfl rfl ?_
        have e : f_X9_blanks a1 (k + 1) H = f_X9_blanks a1 k (upI H 4 8 (iAdd (H.1 4 8) 1)) := by
          rw [f_X9_blanks]
          rw [if_pos h0, if_neg h1]
        rw [e] at hx
        exact ih  (upI H 4 8 (iAdd (H.1 4 8) 1)) w hr (by exact mpX r0 r1 h0 hm) hx
theorem rp_X9_blanks {P : (Nat → Nat → Option Nat) → Prop} (a1 : Int) : ∀ (k : Nat)  (H : hH), P H.2.2.1 → P (f_X9_blanks a1 k H).2.2.1 := by
  intro k
  induction k with
  | zero => intro  H hr; exact hr
  | succ k ih =>
    intro  H hr
    rw [f_X9_blanks]
    by_cases q2 : H.1 4 8 < H.1 4 2
    · rw [if_pos q2]
      by_cases q3 : f_X9_isBlank (H.1 5 (H.1 4 8).toNat) = 0
      · rw [if_pos q3]
        exact hr
      · rw [if_neg q3]
        exact ih  (upI H 4 8 (iAdd (H.1 4 8) 1)) hr
    · rw [if_neg q2]
      exact hr
set_option maxHeartbeats 16000000 in
set_option maxRecDepth 100000 in
theorem lt_X9_run {g : Nat → Nat} {Post : xRes2 → Prop}  : ∀ (k : Nat) (l : Int) (d : Int) (n : Int) (m : Int64) (H : hH) (w : rvV), RT H.2.2.1 → (H.1 4 2 - H.1 4 8).toNat ≤ k → (∀ w : rvV, J g rvTab rvInf rvRet 316 rvMth 3 Post 111 [rf (g 4), pt ((f_X9_run k l d n m H).1), pt ((f_X9_run k l d n m H).2.1), pt ((f_X9_run k l d n m H).2.2.1), lg ((f_X9_run k l d n m H).2.2.2.1), rvU, w] [] (f_X9_run k l d n m H).2.2.2.2) → J g rvTab rvInf rvRet 316 rvMth 3 Post 9 [rf (g 4), pt l, pt d, pt n, lg m, rvU, w] [] H := by
  intro k
  induction k with
  | zero =>
    intro l d n m H w hr hm hx
    have hj : 3 < 316 := by decide
    refine J_ld 10 jw hj rfl rfl rfl rfl ?_
    refine J_gfI jw hj rfl (evn rfl) (by decide) rfl (fun r0 => ?_)
    refine J_ld 14 jw hj rfl rfl rfl rfl ?_
    refine J_gfI jw hj rfl (evn rfl) (by decide) rfl (fun r1 => ?_)
    refine J_icmp (t := 111) jw hj rfl (evn rfl) rfl (fun (h0 : ¬ H.1 4 8 < H.1 4 2) => ?_) (fun (h0 : H.1 4 8 < H.1 4 2) => ?_)
    · exact hx w
    · exfalso; omega
  | succ k ih =>
    intro l d n m H w hr hm hx
    have hj : 3 < 316 := by decide
    refine J_ld 10 jw hj rfl rfl rfl rfl ?_
    refine J_gfI jw hj rfl (evn rfl) (by decide) rfl (fun r0 => ?_)
    refine J_ld 14 jw hj rfl rfl rfl rfl ?_
    refine J_gfI jw hj rfl (evn rfl) (by decide) rfl (fun r1 => ?_)
    refine J_icmp (t := 111) jw hj rfl (evn rfl) rfl (fun (h0 : ¬ H.1 4 8 < H.1 4 2) => ?_) (fun (h0 : H.1 4 8 < H.1 4 2) => ?_)
    · have e : f_X9_run (k + 1) l d n m H = (l, d, n, m, H) := by
        rw [f_X9_run]
        rw [if_neg h0]
      rw [e] at hx
      exact hx w
    · refine J_ld 21 jw hj rfl rfl rfl rfl ?_
      refine J_gfR (k := 5) jw hj rfl (evn rfl) (by decide) (by decide) (RTa hr rfl) ?_
      refine J_ld 25 jw hj rfl rfl rfl rfl ?_
      refine J_gfI jw hj rfl (evn rfl) (by decide) rfl (fun r2 => ?_)
      refine J_iald jw hj rfl (Or.inr rfl) (fun z3 r3 => ?_)
      refine J_callS1 jw rfl rfl rfl rfl (sp_X9_isDigit (g := g) (H.1 5 (H.1 4 8).toNat) H) ?_
      refine J_ifc (t := 50) jw hj rfl (evn rfl) rfl (fun (h1 : ¬ f_X9_isDigit (H.1 5 (H.1 4 8).toNat) = 0) => ?_) (fun (h1 : f_X9_isDigit (H.1 5 (H.1 4 8).toNat) = 0) => ?_)
      · refine J_ld 51 jw hj rfl rfl rfl rfl ?_
        refine J_gfR (k := 5) jw hj rfl (evn rfl) (by decide) (by decide) (RTa hr rfl) ?_
        refine J_ld 55 jw hj rfl rfl rfl rfl ?_
        refine J_gfI jw hj rfl (evn rfl) (by decide) rfl (fun r4 => ?_)
        refine J_iald jw hj rfl (Or.inr rfl) (fun z5 r5 => ?_)
        refine J_st 61 [rf (g 4), pt l, pt d, pt n, lg m, rvU, pt (H.1 5 (H.1 4 8).toNat)] (k := 6) jw hj rfl (Or.inl ⟨rfl, rfl⟩) rfl ?_
        refine J_ld 63 jw hj rfl rfl rfl rfl ?_
        refine J_callS1 jw rfl rfl rfl rfl (sp_X9_isLetter (g := g) (H.1 5 (H.1 4 8).toNat) H) ?_
        refine J_ifc (t := 84) jw hj rfl (evn rfl) rfl (fun (h2 : f_X9_isLetter (H.1 5 (H.1 4 8).toNat) = 0) => ?_) (fun (h2 : ¬ f_X9_isLetter (H.1 5 (H.1 4 8).toNat) = 0) => ?_)
        · refine J_iinc (al' := [rf (g 4), pt l, pt (iAdd d 1), pt n, lg m, rvU, pt (H.1 5 (H.1 4 8).toNat)]) jw hj rfl (evn rfl) rfl rfl ?_
          refine J_ld 88 jw hj rfl rfl rfl rfl ?_
          refine J_cst 90 jw hj rfl rfl rfl ?_
          refine J_bin jw hj rfl rfl ?_
          refine J_ld 93 jw hj rfl rfl rfl rfl ?_
          refine J_bin jw hj rfl rfl ?_
          refine J_cst 96 jw hj rfl rfl rfl ?_
          refine J_bin jw hj rfl rfl ?_
          refine J_st 98 [rf (g 4), pt l, pt (iAdd d 1), pt (iSub (iAdd (iMul n 10) (H.1 5 (H.1 4 8).toNat)) 48), lg m, rvU, pt (H.1 5 (H.1 4 8).toNat)] (k := 3) jw hj rfl (Or.inr (Or.inr (Or.inl ⟨_, rfl, rfl, rfl⟩))) rfl ?_
          refine J_ld 99 jw hj rfl rfl rfl rfl ?_
          refine J_dup 100 jw hj rfl rfl ?_
          refine J_gfI jw hj rfl (evn rfl) (by decide) rfl (fun r6 => ?_)
          refine J_cst 104 jw hj rfl rfl rfl ?_
          refine J_bin jw hj rfl rfl ?_
          refine J_pfI jw hj rfl (evn rfl) rfl ?_
          refine J_goto 9 jw hj rfl rfl ?_
          have e : f_X9_run (k + 1) l d n m H = f_X9_run k l (iAdd d 1) (iSub (iAdd (iMul n 10) (H.1 5 (H.1 4 8).toNat)) 48) m (upI H 4 8 (iAdd (H.1 4 8) 1)) := by
            rw [f_X9_run]
            rw [if_pos h0, if_neg h1, if_pos h2]
          rw [e] at hx
          exact ih l (iAdd d 1) (iSub (iAdd (iMul n 10) (H.1 5 (H.1 4 8).toNat)) 48) m (upI H 4 8 (iAdd (H.1 4 8) 1)) (pt (H.1 5 (H.1 4 8).toNat)) hr (by exact mpX r0 r1 h0 hm) hx
        · refine J_iinc (al' := [rf (g 4), pt (iAdd l 1), pt d, pt n, lg m, rvU, pt (H.1 5 (H.1 4 8).toNat)]) jw hj rfl (evn rfl) rfl rfl ?_
          refine J_ld 74 jw hj rfl rfl rfl rfl ?_
          refine J_ld 76 jw hj rfl rfl rfl rfl ?_
          refine J_callS1 jw rfl rfl rfl rfl (sp_X9_withLetter (g := g) m (H.1 5 (H.1 4 8).toNat) H) ?_
          refine J_lst 81 [rf (g 4), pt (iAdd l 1), pt d, pt n, lg (f_X9_withLetter m (H.1 5 (H.1 4 8).toNat)), rvU, pt (H.1 5 (H.1 4 8).toNat)] (k := 4) jw hj rfl (Or.inl ⟨rfl, rfl⟩) rfl ?_
          refine J_goto 98 jw hj rfl rfl ?_
          refine J_ld 99 jw hj rfl rfl rfl rfl ?_
          refine J_dup 100 jw hj rfl rfl ?_
          refine J_gfI jw hj rfl (evn rfl) (by decide) rfl (fun r7 => ?_)
          refine J_cst 104 jw hj rfl rfl rfl ?_
          refine J_bin jw hj rfl rfl ?_
          refine J_pfI jw hj rfl (evn rfl) rfl ?_
          refine J_goto 9 jw hj rfl rfl ?_
          have e : f_X9_run (k + 1) l d n m H = f_X9_run k (iAdd l 1) d n (f_X9_withLetter m (H.1 5 (H.1 4 8).toNat)) (upI H 4 8 (iAdd (H.1 4 8) 1)) := by
            rw [f_X9_run]
            rw [if_pos h0, if_neg h1, if_neg h2]
          rw [e] at hx
          exact ih (iAdd l 1) d n (f_X9_withLetter m (H.1 5 (H.1 4 8).toNat)) (upI H 4 8 (iAdd (H.1 4 8) 1)) (pt (H.1 5 (H.1 4 8).toNat)) hr (by exact mpX r0 r1 h0 hm) hx
      · refine J_ld 36 jw hj rfl rfl rfl rfl ?_
        refine J_gfR (k := 5) jw hj rfl (evn rfl) (by decide) (by decide) (RTa hr rfl) ?_
        refine J_ld 40 jw hj rfl rfl rfl rfl ?_
        refine J_gfI jw hj rfl (evn rfl) (by decide) rfl (fun r8 => ?_)
        refine J_iald jw hj rfl (Or.inr rfl) (fun z9 r9 => ?_)
        refine J_callS1 jw rfl rfl rfl rfl (sp_X9_isLetter (g := g) (H.1 5 (H.1 4 8).toNat) H) ?_
        refine J_ifc (t := 111) jw hj rfl (evn rfl) rfl (fun (h3 : f_X9_isLetter (H.1 5 (H.1 4 8).toNat) = 0) => ?_) (fun (h3 : ¬ f_X9_isLetter (H.1 5 (H.1 4 8).toNat) = 0) => ?_)
        · have e : f_X9_run (k + 1) l d n m H = (l, d, n, m, H) := by
            rw [f_X9_run]
            rw [if_pos h0, if_pos h1, if_pos h3]
          rw [e] at hx
          exact hx w
        · refine J_ld 51 jw hj rfl rfl rfl rfl ?_
          refine J_gfR (k := 5) jw hj rfl (evn rfl) (by decide) (by decide) (RTa hr rfl) ?_
          refine J_ld 55 jw hj rfl rfl rfl rfl ?_
          refine J_gfI jw hj rfl (evn rfl) (by decide) rfl (fun r10 => ?_)
          refine J_iald jw hj rfl (Or.inr rfl) (fun z11 r11 => ?_)
          refine J_st 61 [rf (g 4), pt l, pt d, pt n, lg m, rvU, pt (H.1 5 (H.1 4 8).toNat)] (k := 6) jw hj rfl (Or.inl ⟨rfl, rfl⟩) rfl ?_
          refine J_ld 63 jw hj rfl rfl rfl rfl ?_
          refine J_callS1 jw rfl rfl rfl rfl (sp_X9_isLetter (g := g) (H.1 5 (H.1 4 8).toNat) H) ?_
          refine J_ifc (t := 84) jw hj rfl (evn rfl) rfl (fun (h4 : f_X9_isLetter (H.1 5 (H.1 4 8).toNat) = 0) => ?_) (fun (h4 : ¬ f_X9_isLetter (H.1 5 (H.1 4 8).toNat) = 0) => ?_)
          · refine J_iinc (al' := [rf (g 4), pt l, pt (iAdd d 1), pt n, lg m, rvU, pt (H.1 5 (H.1 4 8).toNat)]) jw hj rfl (evn rfl) rfl rfl ?_
            refine J_ld 88 jw hj rfl rfl rfl rfl ?_
            refine J_cst 90 jw hj rfl rfl rfl ?_
            refine J_bin jw hj rfl rfl ?_
            refine J_ld 93 jw hj rfl rfl rfl rfl ?_
            refine J_bin jw hj rfl rfl ?_
            refine J_cst 96 jw hj rfl rfl rfl ?_
            refine J_bin jw hj rfl rfl ?_
            refine J_st 98 [rf (g 4), pt l, pt (iAdd d 1), pt (iSub (iAdd (iMul n 10) (H.1 5 (H.1 4 8).toNat)) 48), lg m, rvU, pt (H.1 5 (H.1 4 8).toNat)] (k := 3) jw hj rfl (Or.inr (Or.inr (Or.inl ⟨_, rfl, rfl, rfl⟩))) rfl ?_
            refine J_ld 99 jw hj rfl rfl rfl rfl ?_
            refine J_dup 100 jw hj rfl rfl ?_
            refine J_gfI jw hj rfl (evn rfl) (by decide) rfl (fun r12 => ?_)
            refine J_cst 104 jw hj rfl rfl rfl ?_
            refine J_bin jw hj rfl rfl ?_
            refine J_pfI jw hj rfl (evn rfl) rfl ?_
            refine J_goto 9 jw hj rfl rfl ?_
            have e : f_X9_run (k + 1) l d n m H = f_X9_run k l (iAdd d 1) (iSub (iAdd (iMul n 10) (H.1 5 (H.1 4 8).toNat)) 48) m (upI H 4 8 (iAdd (H.1 4 8) 1)) := by
              rw [f_X9_run]
              rw [if_pos h0, if_pos h1, if_neg h3, if_pos h4]
            rw [e] at hx
            exact ih l (iAdd d 1) (iSub (iAdd (iMul n 10) (H.1 5 (H.1 4 8).toNat)) 48) m (upI H 4 8 (iAdd (H.1 4 8) 1)) (pt (H.1 5 (H.1 4 8).toNat)) hr (by exact mpX r0 r1 h0 hm) hx
          · refine J_iinc (al' := [rf (g 4), pt (iAdd l 1), pt d, pt n, lg m, rvU, pt (H.1 5 (H.1 4 8).toNat)]) jw hj rfl (evn rfl) rfl rfl ?_
            refine J_ld 74 jw hj rfl rfl rfl rfl ?_
            refine J_ld 76 jw hj rfl rfl rfl rfl ?_
            refine J_callS1 jw rfl rfl rfl rfl (sp_X9_withLetter (g := g) m (H.1 5 (H.1 4 8).toNat) H) ?_
            refine J_lst 81 [rf (g 4), pt (iAdd l 1), pt d, pt n, lg (f_X9_withLetter m (H.1 5 (H.1 4 8).toNat)), rvU, pt (H.1 5 (H.1 4 8).toNat)] (k := 4) jw hj rfl (Or.inl ⟨rfl, rfl⟩) rfl ?_
            refine J_goto 98 jw hj rfl rfl ?_
            refine J_ld 99 jw hj rfl rfl rfl rfl ?_
            refine J_dup 100 jw hj rfl rfl ?_
            refine J_gfI jw hj rfl (evn rfl) (by decide) rfl (fun r13 => ?_)
            refine J_cst 104 jw hj rfl rfl rfl ?_
            refine J_bin jw hj rfl rfl ?_
            refine J_pfI jw hj rfl (evn rfl) rfl ?_
            refine J_goto 9 jw hj rfl rfl ?_
            have e : f_X9_run (k + 1) l d n m H = f_X9_run k (iAdd l 1) d n (f_X9_withLetter m (H.1 5 (H.1 4 8).toNat)) (upI H 4 8 (iAdd (H.1 4 8) 1)) := by
              rw [f_X9_run]
              rw [if_pos h0, if_pos h1, if_neg h3, if_neg h4]
            rw [e] at hx
            exact ih (iAdd l 1) d n (f_X9_withLetter m (H.1 5 (H.1 4 8).toNat)) (upI H 4 8 (iAdd (H.1 4 8) 1)) (pt (H.1 5 (H.1 4 8).toNat)) hr (by exact mpX r0 r1 h0 hm) hx
theorem rp_X9_run {P : (Nat → Nat → Option Nat) → Prop}  : ∀ (k : Nat) (l : Int) (d : Int) (n : Int) (m : Int64) (H : hH), P H.2.2.1 → P (f_X9_run k l d n m H).2.2.2.2.2.2.1 := by
  intro k
  induction k with
  | zero => intro l d n m H hr; exact hr
  | succ k ih =>
    intro l d n m H hr
    rw [f_X9_run]
    by_cases q2 : H.1 4 8 < H.1 4 2
    · rw [if_pos q2]
      by_cases q3 : f_X9_isDigit (H.1 5 (H.1 4 8).toNat) = 0
      · rw [if_pos q3]
        by_cases q4 : f_X9_isLetter (H.1 5 (H.1 4 8).toNat) = 0
        · rw [if_pos q4]
          exact hr
        · rw [if_neg q4]
          by_cases q5 : f_X9_isLetter (H.1 5 (H.1 4 8).toNat) = 0
          · rw [if_pos q5]
            exact ih l (iAdd d 1) (iSub (iAdd (iMul n 10) (H.1 5 (H.1 4 8).toNat)) 48) m (upI H 4 8 (iAdd (H.1 4 8) 1)) hr
          · rw [if_neg q5]
            exact ih (iAdd l 1) d n (f_X9_withLetter m (H.1 5 (H.1 4 8).toNat)) (upI H 4 8 (iAdd (H.1 4 8) 1)) hr
      · rw [if_neg q3]
        by_cases q4 : f_X9_isLetter (H.1 5 (H.1 4 8).toNat) = 0
        · rw [if_pos q4]
          exact ih l (iAdd d 1) (iSub (iAdd (iMul n 10) (H.1 5 (H.1 4 8).toNat)) 48) m (upI H 4 8 (iAdd (H.1 4 8) 1)) hr
        · rw [if_neg q4]
          exact ih (iAdd l 1) d n (f_X9_withLetter m (H.1 5 (H.1 4 8).toNat)) (upI H 4 8 (iAdd (H.1 4 8) 1)) hr
    · rw [if_neg q2]
      exact hr
set_option maxHeartbeats 16000000 in
set_option maxRecDepth 100000 in
theorem jt_X9_runEnd {g : Nat → Nat} (l : Int) (d : Int) (n : Int) (m : Int64) {w : rvV} (H : hH) (hr : RT H.2.2.1) : J g rvTab rvInf rvRet 316 rvMth 3 (fun res => res.1 = some (pt (f_X9_runEnd l d n m H).1) ∧ RH g res.2 (f_X9_runEnd l d n m H).2) 111 [rf (g 4), pt l, pt d, pt n, lg m, rvU, w] [] H := by
  have hj : 3 < 316 := by decide
  refine J_ld 112 jw hj rfl rfl rfl rfl ?_
  refine J_ifc (t := 166) jw hj rfl (evn rfl) rfl (fun (h0 : ¬ d = 0) => ?_) (fun (h0 : d = 0) => ?_)
  · refine J_ld 167 jw hj rfl rfl rfl rfl ?_
    refine J_gfR (k := 9) jw hj rfl (evn rfl) (by decide) (by decide) (RTa hr rfl) ?_
    refine J_ld 171 jw hj rfl rfl rfl rfl ?_
    refine J_gfI jw hj rfl (evn rfl) (by decide) rfl (fun r0 => ?_)
    refine J_ld 175 jw hj rfl rfl rfl rfl ?_
    refine J_iast jw hj rfl (Or.inl rfl) (fun _ => ?_)
    refine J_ld 177 jw hj rfl rfl rfl rfl ?_
    refine J_ifc (t := 189) jw hj rfl (evn rfl) rfl (fun (h1 : ¬ l = 0) => ?_) (fun (h1 : l = 0) => ?_)
    · refine J_cst 190 jw hj rfl rfl rfl ?_
      exact J_ret rfl (Or.inl rfl) (fun aw hR => by show _ ∧ _; unfold f_X9_runEnd; rw [if_neg h0, if_neg h1]; exact ⟨rfl, hR⟩)
    · refine J_ld 181 jw hj rfl rfl rfl rfl ?_
      refine J_cst 182 jw hj rfl rfl rfl ?_
      refine J_icmp (t := 189) jw hj rfl (evn rfl) rfl (fun (h2 : 3 < d) => ?_) (fun (h2 : ¬ 3 < d) => ?_)
      · refine J_cst 190 jw hj rfl rfl rfl ?_
        exact J_ret rfl (Or.inl rfl) (fun aw hR => by show _ ∧ _; unfold f_X9_runEnd; rw [if_neg h0, if_pos h1, if_pos h2]; exact ⟨rfl, hR⟩)
      · refine J_cst 186 jw hj rfl rfl rfl ?_
        refine J_goto 190 jw hj rfl rfl ?_
        exact J_ret rfl (Or.inl rfl) (fun aw hR => by show _ ∧ _; unfold f_X9_runEnd; rw [if_neg h0, if_pos h1, if_neg h2]; exact ⟨rfl, hR⟩)
  · refine J_ld 116 jw hj rfl rfl rfl rfl ?_
    refine J_cst 118 jw hj rfl rfl rfl ?_
    refine J_icmp (t := 166) jw hj rfl (evn rfl) rfl (fun (h3 : 7 < l) => ?_) (fun (h3 : ¬ 7 < l) => ?_)
    · refine J_ld 167 jw hj rfl rfl rfl rfl ?_
      refine J_gfR (k := 9) jw hj rfl (evn rfl) (by decide) (by decide) (RTa hr rfl) ?_
      refine J_ld 171 jw hj rfl rfl rfl rfl ?_
      refine J_gfI jw hj rfl (evn rfl) (by decide) rfl (fun r1 => ?_)
      refine J_ld 175 jw hj rfl rfl rfl rfl ?_
      refine J_iast jw hj rfl (Or.inl rfl) (fun _ => ?_)
      refine J_ld 177 jw hj rfl rfl rfl rfl ?_
      refine J_ifc (t := 189) jw hj rfl (evn rfl) rfl (fun (h4 : ¬ l = 0) => ?_) (fun (h4 : l = 0) => ?_)
      · refine J_cst 190 jw hj rfl rfl rfl ?_
        exact J_ret rfl (Or.inl rfl) (fun aw hR => by show _ ∧ _; unfold f_X9_runEnd; rw [if_pos h0, if_pos h3, if_neg h4]; exact ⟨rfl, hR⟩)
      · refine J_ld 181 jw hj rfl rfl rfl rfl ?_
        refine J_cst 182 jw hj rfl rfl rfl ?_
        refine J_icmp (t := 189) jw hj rfl (evn rfl) rfl (fun (h5 : 3 < d) => ?_) (fun (h5 : ¬ 3 < d) => ?_)
        · refine J_cst 190 jw hj rfl rfl rfl ?_
          exact J_ret rfl (Or.inl rfl) (fun aw hR => by show _ ∧ _; unfold f_X9_runEnd; rw [if_pos h0, if_pos h3, if_pos h4, if_pos h5]; exact ⟨rfl, hR⟩)
        · refine J_cst 186 jw hj rfl rfl rfl ?_
          refine J_goto 190 jw hj rfl rfl ?_
          exact J_ret rfl (Or.inl rfl) (fun aw hR => by show _ ∧ _; unfold f_X9_runEnd; rw [if_pos h0, if_pos h3, if_pos h4, if_neg h5]; exact ⟨rfl, hR⟩)
    · refine J_ld 122 jw hj rfl rfl rfl rfl ?_
      refine J_gfR (k := 10) jw hj rfl (evn rfl) (by decide) (by decide) (RTa hr rfl) ?_
      refine J_ld 126 jw hj rfl rfl rfl rfl ?_
      refine J_gfI jw hj rfl (evn rfl) (by decide) rfl (fun r2 => ?_)
      refine J_ld 131 jw hj rfl rfl rfl rfl ?_
      refine J_last jw hj rfl (evn rfl) (fun _ => ?_)
      refine J_ld 133 jw hj rfl rfl rfl rfl ?_
      refine J_gfR (k := 9) jw hj rfl (evn rfl) (by decide) (by decide) (RTa hr rfl) ?_
      refine J_ld 137 jw hj rfl rfl rfl rfl ?_
      refine J_gfI jw hj rfl (evn rfl) (by decide) rfl (fun r3 => ?_)
      refine J_ld 141 jw hj rfl rfl rfl rfl ?_
      refine J_ld 143 jw hj rfl rfl rfl rfl ?_
      refine J_callV1 jw rfl (Or.inl ⟨_, rfl⟩) rfl rfl (st_X9_wordOf (g := g) m (upL H 10 (H.1 4 7).toNat m) hr) ?_
      refine J_iast jw hj rfl (Or.inl rfl) (fun _ => ?_)
      refine J_ld 148 jw hj rfl rfl rfl rfl ?_
      refine J_gfR (k := 9) jw hj rfl (evn rfl) (by decide) (by decide) (RTa hr rfl) ?_
      refine J_ld 152 jw hj rfl rfl rfl rfl ?_
      refine J_gfI jw hj rfl (evn rfl) (by decide) rfl (fun r4 => ?_)
      refine J_iald jw hj rfl (Or.inl rfl) (fun z5 r5 => ?_)
      refine J_cst 157 jw hj rfl rfl rfl ?_
      refine J_icmp (t := 164) jw hj rfl (evn rfl) rfl (fun (h6 : ¬ ((upI (upL H 10 (H.1 4 7).toNat m) 9 (H.1 4 7).toNat (f_X9_wordOf m H)).1 9 (H.1 4 7).toNat) = (-1)) => ?_) (fun (h6 : ((upI (upL H 10 (H.1 4 7).toNat m) 9 (H.1 4 7).toNat (f_X9_wordOf m H)).1 9 (H.1 4 7).toNat) = (-1)) => ?_)
      · refine J_cst 165 jw hj rfl rfl rfl ?_
        exact J_ret rfl (Or.inl rfl) (fun aw hR => by show _ ∧ _; unfold f_X9_runEnd; rw [if_pos h0, if_neg h3, if_neg h6]; exact ⟨rfl, hR⟩)
      · refine J_cst 161 jw hj rfl rfl rfl ?_
        refine J_goto 165 jw hj rfl rfl ?_
        exact J_ret rfl (Or.inl rfl) (fun aw hR => by show _ ∧ _; unfold f_X9_runEnd; rw [if_pos h0, if_neg h3, if_pos h6]; exact ⟨rfl, hR⟩)
theorem rp_X9_runEnd {P : (Nat → Nat → Option Nat) → Prop} (l : Int) (d : Int) (n : Int) (m : Int64) (H : hH) (hr : P H.2.2.1) : P (f_X9_runEnd l d n m H).2.2.2.1 := by
  unfold f_X9_runEnd
  by_cases q1 : d = 0
  · rw [if_pos q1]
    by_cases q2 : 7 < l
    · rw [if_pos q2]
      by_cases q3 : l = 0
      · rw [if_pos q3]
        by_cases q4 : 3 < d
        · rw [if_pos q4]
          exact hr
        · rw [if_neg q4]
          exact hr
      · rw [if_neg q3]
        exact hr
    · rw [if_neg q2]
      by_cases q3 : ((upI (upL H 10 (H.1 4 7).toNat m) 9 (H.1 4 7).toNat (f_X9_wordOf m H)).1 9 (H.1 4 7).toNat) = (-1)
      · rw [if_pos q3]
        exact hr
      · rw [if_neg q3]
        exact hr
  · rw [if_neg q1]
    by_cases q2 : l = 0
    · rw [if_pos q2]
      by_cases q3 : 3 < d
      · rw [if_pos q3]
        exact hr
      · rw [if_neg q3]
        exact hr
    · rw [if_neg q2]
      exact hr
theorem rp_X9_scanRun {P : (Nat → Nat → Option Nat) → Prop} (H : hH) (hr : P H.2.2.1) : P (f_X9_scanRun H).2.2.2.1 := rp_X9_runEnd _ _ _ _ _ (rp_X9_run _ 0 0 0 0 H hr)
theorem st_X9_scanRun {g : Nat → Nat} (H : hH) (hr : RT H.2.2.1) : SP g rvTab rvInf rvRet 316 rvMth 3 [rf (g 4)] H (some (pt (f_X9_scanRun H).1)) (f_X9_scanRun H).2 := by
  have hj : 3 < 316 := by decide
  refine J_SP hj (Nat.le_of_ble_eq_true rfl) ?_
  show J g rvTab rvInf rvRet 316 rvMth 3 _ 0 [rf (g 4), rvU, rvU, rvU, rvU, rvU, rvU] [] H
  refine J_cst 1 jw hj rfl rfl rfl ?_
  refine J_st 2 [rf (g 4), pt 0, rvU, rvU, rvU, rvU, rvU] (k := 1) jw hj rfl (Or.inr (Or.inr (Or.inl ⟨_, rfl, rfl, rfl⟩))) rfl ?_
  refine J_cst 3 jw hj rfl rfl rfl ?_
  refine J_st 4 [rf (g 4), pt 0, pt 0, rvU, rvU, rvU, rvU] (k := 2) jw hj rfl (Or.inr (Or.inr (Or.inl ⟨_, rfl, rfl, rfl⟩))) rfl ?_
  refine J_cst 5 jw hj rfl rfl rfl ?_
  refine J_st 6 [rf (g 4), pt 0, pt 0, pt 0, rvU, rvU, rvU] (k := 3) jw hj rfl (Or.inr (Or.inr (Or.inl ⟨_, rfl, rfl, rfl⟩))) rfl ?_
  refine J_lc (n := 0) 7 jw hj rfl (Or.inl ⟨_, rfl, by decide +kernel, rfl⟩) ?_
  refine J_lst 9 [rf (g 4), pt 0, pt 0, pt 0, lg 0, rvU, rvU] (k := 4) jw hj rfl (Or.inl ⟨rfl, rfl⟩) rfl ?_
  exact lt_X9_run _ 0 0 0 0 H rvU hr (Nat.le_refl _) (fun w => jt_X9_runEnd _ _ _ _ _ (rp_X9_run _ 0 0 0 0 H hr))
set_option maxHeartbeats 16000000 in
set_option maxRecDepth 100000 in
theorem jt_X9_tok {g : Nat → Nat} (a1 : Int) {w : rvV} (H : hH) (hr : RT H.2.2.1) : J g rvTab rvInf rvRet 316 rvMth 4 (fun res => res.1 = some (pt (f_X9_tok a1 H).1) ∧ RH g res.2 (f_X9_tok a1 H).2) 39 [rf (g 4), pt a1, w] [] H := by
  have hj : 4 < 316 := by decide
  refine J_ld 40 jw hj rfl rfl rfl rfl ?_
  refine J_gfR (k := 9) jw hj rfl (evn rfl) (by decide) (by decide) (RTa hr rfl) ?_
  refine J_ld 44 jw hj rfl rfl rfl rfl ?_
  refine J_gfI jw hj rfl (evn rfl) (by decide) rfl (fun r0 => ?_)
  refine J_cst 48 jw hj rfl rfl rfl ?_
  refine J_iast jw hj rfl (Or.inl rfl) (fun _ => ?_)
  refine J_ld 50 jw hj rfl rfl rfl rfl ?_
  refine J_gfR (k := 10) jw hj rfl (evn rfl) (by decide) (by decide) (RTa hr rfl) ?_
  refine J_ld 54 jw hj rfl rfl rfl rfl ?_
  refine J_gfI jw hj rfl (evn rfl) (by decide) rfl (fun r1 => ?_)
  refine J_lc (n := 0) 58 jw hj rfl (Or.inl ⟨_, rfl, by decide +kernel, rfl⟩) ?_
  refine J_last jw hj rfl (evn rfl) (fun _ => ?_)
  refine J_ld 60 jw hj rfl rfl rfl rfl ?_
  refine J_gfR (k := 8) jw hj rfl (evn rfl) (by decide) (by decide) (RTa hr rfl) ?_
  refine J_ld 64 jw hj rfl rfl rfl rfl ?_
  refine J_gfI jw hj rfl (evn rfl) (by decide) rfl (fun r2 => ?_)
  refine J_ld 68 jw hj rfl rfl rfl rfl ?_
  refine J_gfI jw hj rfl (evn rfl) (by decide) rfl (fun r3 => ?_)
  refine J_iast jw hj rfl (Or.inl rfl) (fun _ => ?_)
  refine J_ld 73 jw hj rfl rfl rfl rfl ?_
  refine J_gfI jw hj rfl (evn rfl) (by decide) rfl (fun r4 => ?_)
  refine J_ld 77 jw hj rfl rfl rfl rfl ?_
  refine J_icmp (t := 100) jw hj rfl (evn rfl) rfl (fun (h0 : ¬ a1 < H.1 4 2) => ?_) (fun (h0 : a1 < H.1 4 2) => ?_)
  · refine J_ld 101 jw hj rfl rfl rfl rfl ?_
    refine J_gfI jw hj rfl (evn rfl) (by decide) rfl (fun r5 => ?_)
    refine J_ld 105 jw hj rfl rfl rfl rfl ?_
    refine J_gfI jw hj rfl (evn rfl) (by decide) rfl (fun r6 => ?_)
    refine J_icmp (t := 113) jw hj rfl (evn rfl) rfl (fun (h1 : H.1 4 8 < H.1 4 2) => ?_) (fun (h1 : ¬ H.1 4 8 < H.1 4 2) => ?_)
    · refine J_ld 114 jw hj rfl rfl rfl rfl ?_
      refine J_gfR (k := 5) jw hj rfl (evn rfl) (by decide) (by decide) (RTa hr rfl) ?_
      refine J_ld 118 jw hj rfl rfl rfl rfl ?_
      refine J_gfI jw hj rfl (evn rfl) (by decide) rfl (fun r7 => ?_)
      refine J_iald jw hj rfl (Or.inr rfl) (fun z8 r8 => ?_)
      refine J_st 123 [rf (g 4), pt a1, pt (H.1 5 (H.1 4 8).toNat)] (k := 2) jw hj rfl (Or.inr (Or.inr (Or.inl ⟨_, rfl, rfl, rfl⟩))) rfl ?_
      refine J_ld 124 jw hj rfl rfl rfl rfl ?_
      refine J_callS1 jw rfl rfl rfl rfl (sp_X9_isDigit (g := g) (H.1 5 (H.1 4 8).toNat) (upI (upL (upI H 9 (H.1 4 7).toNat 0) 10 (H.1 4 7).toNat 0) 8 (H.1 4 7).toNat (H.1 4 8))) ?_
      refine J_ifc (t := 137) jw hj rfl (evn rfl) rfl (fun (h2 : ¬ f_X9_isDigit (H.1 5 (H.1 4 8).toNat) = 0) => ?_) (fun (h2 : f_X9_isDigit (H.1 5 (H.1 4 8).toNat) = 0) => ?_)
      · refine J_ld 138 jw hj rfl rfl rfl rfl ?_
        refine J_callV1 jw rfl (Or.inl ⟨_, rfl⟩) rfl rfl (st_X9_scanRun (g := g) (upI (upL (upI H 9 (H.1 4 7).toNat 0) 10 (H.1 4 7).toNat 0) 8 (H.1 4 7).toNat (H.1 4 8)) hr) ?_
        exact J_ret rfl (Or.inl rfl) (fun aw hR => by show _ ∧ _; unfold f_X9_tok; rw [if_neg h0, if_pos h1, if_neg h2]; exact ⟨rfl, hR⟩)
      · refine J_ld 131 jw hj rfl rfl rfl rfl ?_
        refine J_callS1 jw rfl rfl rfl rfl (sp_X9_isLetter (g := g) (H.1 5 (H.1 4 8).toNat) (upI (upL (upI H 9 (H.1 4 7).toNat 0) 10 (H.1 4 7).toNat 0) 8 (H.1 4 7).toNat (H.1 4 8))) ?_
        refine J_ifc (t := 142) jw hj rfl (evn rfl) rfl (fun (h3 : f_X9_isLetter (H.1 5 (H.1 4 8).toNat) = 0) => ?_) (fun (h3 : ¬ f_X9_isLetter (H.1 5 (H.1 4 8).toNat) = 0) => ?_)
        · refine J_ld 143 jw hj rfl rfl rfl rfl ?_
          refine J_dup 144 jw hj rfl rfl ?_
          refine J_gfI jw hj rfl (evn rfl) (by decide) rfl (fun r9 => ?_)
          refine J_cst 148 jw hj rfl rfl rfl ?_
          refine J_bin jw hj rfl rfl ?_
          refine J_pfI jw hj rfl (evn rfl) rfl ?_
          refine J_ld 153 jw hj rfl rfl rfl rfl ?_
          refine J_gfR (k := 9) jw hj rfl (evn rfl) (by decide) (by decide) (RTa hr rfl) ?_
          refine J_ld 157 jw hj rfl rfl rfl rfl ?_
          refine J_gfI jw hj rfl (evn rfl) (by decide) rfl (fun r10 => ?_)
          refine J_ld 161 jw hj rfl rfl rfl rfl ?_
          refine J_iast jw hj rfl (Or.inl rfl) (fun _ => ?_)
          refine J_ld 163 jw hj rfl rfl rfl rfl ?_
          refine J_callS1 jw rfl rfl rfl rfl (sp_X9_isSignByte (g := g) (H.1 5 (H.1 4 8).toNat) (upI (upI (upI (upL (upI H 9 (H.1 4 7).toNat 0) 10 (H.1 4 7).toNat 0) 8 (H.1 4 7).toNat (H.1 4 8)) 4 8 (iAdd (H.1 4 8) 1)) 9 (H.1 4 7).toNat (H.1 5 (H.1 4 8).toNat))) ?_
          refine J_ifc (t := 173) jw hj rfl (evn rfl) rfl (fun (h4 : f_X9_isSignByte (H.1 5 (H.1 4 8).toNat) = 0) => ?_) (fun (h4 : ¬ f_X9_isSignByte (H.1 5 (H.1 4 8).toNat) = 0) => ?_)
          · refine J_cst 174 jw hj rfl rfl rfl ?_
            exact J_ret rfl (Or.inl rfl) (fun aw hR => by show _ ∧ _; unfold f_X9_tok; rw [if_neg h0, if_pos h1, if_pos h2, if_pos h3, if_pos h4]; exact ⟨rfl, hR⟩)
          · refine J_cst 170 jw hj rfl rfl rfl ?_
            refine J_goto 174 jw hj rfl rfl ?_
            exact J_ret rfl (Or.inl rfl) (fun aw hR => by show _ ∧ _; unfold f_X9_tok; rw [if_neg h0, if_pos h1, if_pos h2, if_pos h3, if_neg h4]; exact ⟨rfl, hR⟩)
        · refine J_ld 138 jw hj rfl rfl rfl rfl ?_
          refine J_callV1 jw rfl (Or.inl ⟨_, rfl⟩) rfl rfl (st_X9_scanRun (g := g) (upI (upL (upI H 9 (H.1 4 7).toNat 0) 10 (H.1 4 7).toNat 0) 8 (H.1 4 7).toNat (H.1 4 8)) hr) ?_
          exact J_ret rfl (Or.inl rfl) (fun aw hR => by show _ ∧ _; unfold f_X9_tok; rw [if_neg h0, if_pos h1, if_pos h2, if_neg h3]; exact ⟨rfl, hR⟩)
    · refine J_cst 112 jw hj rfl rfl rfl ?_
      exact J_ret rfl (Or.inl rfl) (fun aw hR => by show _ ∧ _; unfold f_X9_tok; rw [if_neg h0, if_neg h1]; exact ⟨rfl, hR⟩)
  · refine J_ld 81 jw hj rfl rfl rfl rfl ?_
    refine J_gfI jw hj rfl (evn rfl) (by decide) rfl (fun r11 => ?_)
    refine J_ld 85 jw hj rfl rfl rfl rfl ?_
    refine J_icmp (t := 100) jw hj rfl (evn rfl) rfl (fun (h5 : H.1 4 8 < a1) => ?_) (fun (h5 : ¬ H.1 4 8 < a1) => ?_)
    · refine J_ld 101 jw hj rfl rfl rfl rfl ?_
      refine J_gfI jw hj rfl (evn rfl) (by decide) rfl (fun r12 => ?_)
      refine J_ld 105 jw hj rfl rfl rfl rfl ?_
      refine J_gfI jw hj rfl (evn rfl) (by decide) rfl (fun r13 => ?_)
      refine J_icmp (t := 113) jw hj rfl (evn rfl) rfl (fun (h6 : H.1 4 8 < H.1 4 2) => ?_) (fun (h6 : ¬ H.1 4 8 < H.1 4 2) => ?_)
      · refine J_ld 114 jw hj rfl rfl rfl rfl ?_
        refine J_gfR (k := 5) jw hj rfl (evn rfl) (by decide) (by decide) (RTa hr rfl) ?_
        refine J_ld 118 jw hj rfl rfl rfl rfl ?_
        refine J_gfI jw hj rfl (evn rfl) (by decide) rfl (fun r14 => ?_)
        refine J_iald jw hj rfl (Or.inr rfl) (fun z15 r15 => ?_)
        refine J_st 123 [rf (g 4), pt a1, pt (H.1 5 (H.1 4 8).toNat)] (k := 2) jw hj rfl (Or.inr (Or.inr (Or.inl ⟨_, rfl, rfl, rfl⟩))) rfl ?_
        refine J_ld 124 jw hj rfl rfl rfl rfl ?_
        refine J_callS1 jw rfl rfl rfl rfl (sp_X9_isDigit (g := g) (H.1 5 (H.1 4 8).toNat) (upI (upL (upI H 9 (H.1 4 7).toNat 0) 10 (H.1 4 7).toNat 0) 8 (H.1 4 7).toNat (H.1 4 8))) ?_
        refine J_ifc (t := 137) jw hj rfl (evn rfl) rfl (fun (h7 : ¬ f_X9_isDigit (H.1 5 (H.1 4 8).toNat) = 0) => ?_) (fun (h7 : f_X9_isDigit (H.1 5 (H.1 4 8).toNat) = 0) => ?_)
        · refine J_ld 138 jw hj rfl rfl rfl rfl ?_
          refine J_callV1 jw rfl (Or.inl ⟨_, rfl⟩) rfl rfl (st_X9_scanRun (g := g) (upI (upL (upI H 9 (H.1 4 7).toNat 0) 10 (H.1 4 7).toNat 0) 8 (H.1 4 7).toNat (H.1 4 8)) hr) ?_
          exact J_ret rfl (Or.inl rfl) (fun aw hR => by show _ ∧ _; unfold f_X9_tok; rw [if_pos h0, if_pos h5, if_pos h6, if_neg h7]; exact ⟨rfl, hR⟩)
        · refine J_ld 131 jw hj rfl rfl rfl rfl ?_
          refine J_callS1 jw rfl rfl rfl rfl (sp_X9_isLetter (g := g) (H.1 5 (H.1 4 8).toNat) (upI (upL (upI H 9 (H.1 4 7).toNat 0) 10 (H.1 4 7).toNat 0) 8 (H.1 4 7).toNat (H.1 4 8))) ?_
          refine J_ifc (t := 142) jw hj rfl (evn rfl) rfl (fun (h8 : f_X9_isLetter (H.1 5 (H.1 4 8).toNat) = 0) => ?_) (fun (h8 : ¬ f_X9_isLetter (H.1 5 (H.1 4 8).toNat) = 0) => ?_)
          · refine J_ld 143 jw hj rfl rfl rfl rfl ?_
            refine J_dup 144 jw hj rfl rfl ?_
            refine J_gfI jw hj rfl (evn rfl) (by decide) rfl (fun r16 => ?_)
            refine J_cst 148 jw hj rfl rfl rfl ?_
            refine J_bin jw hj rfl rfl ?_
            refine J_pfI jw hj rfl (evn rfl) rfl ?_
            refine J_ld 153 jw hj rfl rfl rfl rfl ?_
            refine J_gfR (k := 9) jw hj rfl (evn rfl) (by decide) (by decide) (RTa hr rfl) ?_
            refine J_ld 157 jw hj rfl rfl rfl rfl ?_
            refine J_gfI jw hj rfl (evn rfl) (by decide) rfl (fun r17 => ?_)
            refine J_ld 161 jw hj rfl rfl rfl rfl ?_
            refine J_iast jw hj rfl (Or.inl rfl) (fun _ => ?_)
            refine J_ld 163 jw hj rfl rfl rfl rfl ?_
            refine J_callS1 jw rfl rfl rfl rfl (sp_X9_isSignByte (g := g) (H.1 5 (H.1 4 8).toNat) (upI (upI (upI (upL (upI H 9 (H.1 4 7).toNat 0) 10 (H.1 4 7).toNat 0) 8 (H.1 4 7).toNat (H.1 4 8)) 4 8 (iAdd (H.1 4 8) 1)) 9 (H.1 4 7).toNat (H.1 5 (H.1 4 8).toNat))) ?_
            refine J_ifc (t := 173) jw hj rfl (evn rfl) rfl (fun (h9 : f_X9_isSignByte (H.1 5 (H.1 4 8).toNat) = 0) => ?_) (fun (h9 : ¬ f_X9_isSignByte (H.1 5 (H.1 4 8).toNat) = 0) => ?_)
            · refine J_cst 174 jw hj rfl rfl rfl ?_
              exact J_ret rfl (Or.inl rfl) (fun aw hR => by show _ ∧ _; unfold f_X9_tok; rw [if_pos h0, if_pos h5, if_pos h6, if_pos h7, if_pos h8, if_pos h9]; exact ⟨rfl, hR⟩)
            · refine J_cst 170 jw hj rfl rfl rfl ?_
              refine J_goto 174 jw hj rfl rfl ?_
              exact J_ret rfl (Or.inl rfl) (fun aw hR => by show _ ∧ _; unfold f_X9_tok; rw [if_pos h0, if_pos h5, if_pos h6, if_pos h7, if_pos h8, if_neg h9]; exact ⟨rfl, hR⟩)
          · refine J_ld 138 jw hj rfl rfl rfl rfl ?_
            refine J_callV1 jw rfl (Or.inl ⟨_, rfl⟩) rfl rfl (st_X9_scanRun (g := g) (upI (upL (upI H 9 (H.1 4 7).toNat 0) 10 (H.1 4 7).toNat 0) 8 (H.1 4 7).toNat (H.1 4 8)) hr) ?_
            exact J_ret rfl (Or.inl rfl) (fun aw hR => by show _ ∧ _; unfold f_X9_tok; rw [if_pos h0, if_pos h5, if_pos h6, if_pos h7, if_neg h8]; exact ⟨rfl, hR⟩)
      · refine J_cst 112 jw hj rfl rfl rfl ?_
        exact J_ret rfl (Or.inl rfl) (fun aw hR => by show _ ∧ _; unfold f_X9_tok; rw [if_pos h0, if_pos h5, if_neg h6]; exact ⟨rfl, hR⟩)
    · refine J_ld 89 jw hj rfl rfl rfl rfl ?_
      refine J_gfR (k := 8) jw hj rfl (evn rfl) (by decide) (by decide) (RTa hr rfl) ?_
      refine J_ld 93 jw hj rfl rfl rfl rfl ?_
      refine J_gfI jw hj rfl (evn rfl) (by decide) rfl (fun r18 => ?_)
      refine J_ld 97 jw hj rfl rfl rfl rfl ?_
      refine J_iast jw hj rfl (Or.inl rfl) (fun _ => ?_)
      refine J_cst 99 jw hj rfl rfl rfl ?_
      exact J_ret rfl (Or.inl rfl) (fun aw hR => by show _ ∧ _; unfold f_X9_tok; rw [if_pos h0, if_neg h5]; exact ⟨rfl, hR⟩)
theorem rp_X9_tok {P : (Nat → Nat → Option Nat) → Prop} (a1 : Int) (H : hH) (hr : P H.2.2.1) : P (f_X9_tok a1 H).2.2.2.1 := by
  unfold f_X9_tok
  by_cases q1 : a1 < H.1 4 2
  · rw [if_pos q1]
    by_cases q2 : H.1 4 8 < a1
    · rw [if_pos q2]
      by_cases q3 : H.1 4 8 < H.1 4 2
      · rw [if_pos q3]
        by_cases q4 : f_X9_isDigit (H.1 5 (H.1 4 8).toNat) = 0
        · rw [if_pos q4]
          by_cases q5 : f_X9_isLetter (H.1 5 (H.1 4 8).toNat) = 0
          · rw [if_pos q5]
            by_cases q6 : f_X9_isSignByte (H.1 5 (H.1 4 8).toNat) = 0
            · rw [if_pos q6]
              exact hr
            · rw [if_neg q6]
              exact hr
          · rw [if_neg q5]
            exact (rp_X9_scanRun (upI (upL (upI H 9 (H.1 4 7).toNat 0) 10 (H.1 4 7).toNat 0) 8 (H.1 4 7).toNat (H.1 4 8)) hr)
        · rw [if_neg q4]
          exact (rp_X9_scanRun (upI (upL (upI H 9 (H.1 4 7).toNat 0) 10 (H.1 4 7).toNat 0) 8 (H.1 4 7).toNat (H.1 4 8)) hr)
      · rw [if_neg q3]
        exact hr
    · rw [if_neg q2]
      exact hr
  · rw [if_neg q1]
    by_cases q2 : H.1 4 8 < H.1 4 2
    · rw [if_pos q2]
      by_cases q3 : f_X9_isDigit (H.1 5 (H.1 4 8).toNat) = 0
      · rw [if_pos q3]
        by_cases q4 : f_X9_isLetter (H.1 5 (H.1 4 8).toNat) = 0
        · rw [if_pos q4]
          by_cases q5 : f_X9_isSignByte (H.1 5 (H.1 4 8).toNat) = 0
          · rw [if_pos q5]
            exact hr
          · rw [if_neg q5]
            exact hr
        · rw [if_neg q4]
          exact (rp_X9_scanRun (upI (upL (upI H 9 (H.1 4 7).toNat 0) 10 (H.1 4 7).toNat 0) 8 (H.1 4 7).toNat (H.1 4 8)) hr)
      · rw [if_neg q3]
        exact (rp_X9_scanRun (upI (upL (upI H 9 (H.1 4 7).toNat 0) 10 (H.1 4 7).toNat 0) 8 (H.1 4 7).toNat (H.1 4 8)) hr)
    · rw [if_neg q2]
      exact hr
theorem rp_X9_scanToken {P : (Nat → Nat → Option Nat) → Prop} (a1 : Int) (H : hH) (hr : P H.2.2.1) : P (f_X9_scanToken a1 H).2.2.2.1 := rp_X9_tok a1 _ (rp_X9_blanks a1 _ H hr)
theorem st_X9_scanToken {g : Nat → Nat} (a1 : Int) (H : hH) (hr : RT H.2.2.1) : SP g rvTab rvInf rvRet 316 rvMth 4 [rf (g 4), pt a1] H (some (pt (f_X9_scanToken a1 H).1)) (f_X9_scanToken a1 H).2 := by
  have hj : 4 < 316 := by decide
  refine J_SP hj (Nat.le_of_ble_eq_true rfl) ?_
  show J g rvTab rvInf rvRet 316 rvMth 4 _ 0 [rf (g 4), pt a1, rvU] [] H
  exact lt_X9_blanks a1 _ H rvU hr (Nat.le_refl _) (fun w => jt_X9_tok a1 _ (rp_X9_blanks a1 _ H hr))
set_option maxHeartbeats 16000000 in
set_option maxRecDepth 100000 in
theorem lt_X9_all {g : Nat → Nat} {Post : xRes2 → Prop} (a1 : Int) : ∀ (k : Nat) (b : Int) (H : hH), RT H.2.2.1 → (941 - H.1 4 7).toNat ≤ k → (J g rvTab rvInf rvRet 316 rvMth 6 Post 85 [rf (g 4), pt a1, pt ((f_X9_all a1 k b H).1)] [] (f_X9_all a1 k b H).2) → J g rvTab rvInf rvRet 316 rvMth 6 Post 12 [rf (g 4), pt a1, pt b] [] H := by
  intro k
  induction k with
  | zero =>
    intro b H hr hm hx
    have hj : 6 < 316 := by decide
    refine J_ld 13 jw hj rfl rfl rfl rfl ?_
    refine J_ifc (t := 85) jw hj rfl (evn rfl) rfl (fun (h0 : b = 0) => ?_) (fun (h0 : ¬ b = 0) => ?_)
    · exact hx
    · refine J_ld 17 jw hj rfl rfl rfl rfl ?_
      refine J_gfI jw hj rfl (evn rfl) (by decide) rfl (fun r0 => ?_)
      refine J_cst 23 jw hj rfl rfl rfl ?_
      refine J_icmp (t := 85) jw hj rfl (evn rfl) rfl (fun (h1 : ¬ H.1 4 7 < 941) => ?_) (fun (h1 : H.1 4 7 < 941) => ?_)
      · exact hx
      · exfalso; omega
  | succ k ih =>
    intro b H hr hm hx
    have hj : 6 < 316 := by decide
    refine J_ld 13 jw hj rfl rfl rfl rfl ?_
    refine J_ifc (t := 85) jw hj rfl (evn rfl) rfl (fun (h0 : b = 0) => ?_) (fun (h0 : ¬ b = 0) => ?_)
    · have e : f_X9_all a1 (k + 1) b H = (b, H) := by
        rw [f_X9_all]
        rw [if_pos h0]
      rw [e] at hx
      exact hx
    · refine J_ld 17 jw hj rfl rfl rfl rfl ?_
      refine J_gfI jw hj rfl (evn rfl) (by decide) rfl (fun r0 => ?_)
      refine J_cst 23 jw hj rfl rfl rfl ?_
      refine J_icmp (t := 85) jw hj rfl (evn rfl) rfl (fun (h1 : ¬ H.1 4 7 < 941) => ?_) (fun (h1 : H.1 4 7 < 941) => ?_)
      · have e : f_X9_all a1 (k + 1) b H = (b, H) := by
          rw [f_X9_all]
          rw [if_neg h0, if_neg h1]
        rw [e] at hx
        exact hx
      · refine J_ld 27 jw hj rfl rfl rfl rfl ?_
        refine J_gfR (k := 7) jw hj rfl (evn rfl) (by decide) (by decide) (RTa hr rfl) ?_
        refine J_ld 31 jw hj rfl rfl rfl rfl ?_
        refine J_gfI jw hj rfl (evn rfl) (by decide) rfl (fun r1 => ?_)
        refine J_ld 35 jw hj rfl rfl rfl rfl ?_
        refine J_ld 36 jw hj rfl rfl rfl rfl ?_
        refine J_callV1 jw rfl (Or.inl ⟨_, rfl⟩) rfl rfl (st_X9_scanToken (g := g) a1 H hr) ?_
        refine J_i2b jw hj rfl (evn rfl) ?_
        refine J_iast jw hj rfl (Or.inr rfl) (fun _ => ?_)
        refine J_ld 42 jw hj rfl rfl rfl rfl ?_
        refine J_gfR (k := 7) jw hj rfl (evn rfl) (by decide) (by decide) (RTa (rp_X9_scanToken a1 H hr) rfl) ?_
        refine J_ld 46 jw hj rfl rfl rfl rfl ?_
        refine J_gfI jw hj rfl (evn rfl) (by decide) rfl (fun r2 => ?_)
        refine J_iald jw hj rfl (Or.inr rfl) (fun z3 r3 => ?_)
        refine J_cst 51 jw hj rfl rfl rfl ?_
        refine J_icmp (t := 70) jw hj rfl (evn rfl) rfl (fun (h2 : ((upI (f_X9_scanToken a1 H).2 7 (H.1 4 7).toNat ((Int32.ofInt ((f_X9_scanToken a1 H).1)).toInt8.toInt32.toInt)).1 7 ((f_X9_scanToken a1 H).2.1 4 7).toNat) = 1) => ?_) (fun (h2 : ¬ ((upI (f_X9_scanToken a1 H).2 7 (H.1 4 7).toNat ((Int32.ofInt ((f_X9_scanToken a1 H).1)).toInt8.toInt32.toInt)).1 7 ((f_X9_scanToken a1 H).2.1 4 7).toNat) = 1) => ?_)
        · refine J_cst 71 jw hj rfl rfl rfl ?_
          refine J_st 72 [rf (g 4), pt a1, pt 0] (k := 2) jw hj rfl (Or.inr (Or.inr (Or.inl ⟨_, rfl, rfl, rfl⟩))) rfl ?_
          refine J_ld 73 jw hj rfl rfl rfl rfl ?_
          refine J_dup 74 jw hj rfl rfl ?_
          refine J_gfI jw hj rfl (evn rfl) (by decide) rfl (fun r4 => ?_)
          refine J_cst 78 jw hj rfl rfl rfl ?_
          refine J_bin jw hj rfl rfl ?_
          refine J_pfI jw hj rfl (evn rfl) rfl ?_
          refine J_goto 12 jw hj rfl rfl ?_
          have e : f_X9_all a1 (k + 1) b H = f_X9_all a1 k 0 (upI (upI (f_X9_scanToken a1 H).2 7 (H.1 4 7).toNat ((Int32.ofInt ((f_X9_scanToken a1 H).1)).toInt8.toInt32.toInt)) 4 7 (iAdd ((f_X9_scanToken a1 H).2.1 4 7) 1)) := by
            rw [f_X9_all]
            rw [if_neg h0, if_pos h1, if_pos h2]
          rw [e] at hx
          exact ih 0 (upI (upI (f_X9_scanToken a1 H).2 7 (H.1 4 7).toNat ((Int32.ofInt ((f_X9_scanToken a1 H).1)).toInt8.toInt32.toInt)) 4 7 (iAdd ((f_X9_scanToken a1 H).2.1 4 7) 1)) (rp_X9_scanToken a1 H hr) (by exact mpB (kpI_X9_scanToken_4_7 a1 H) (by assumption) h1 hm) hx
        · refine J_ld 55 jw hj rfl rfl rfl rfl ?_
          refine J_gfR (k := 7) jw hj rfl (evn rfl) (by decide) (by decide) (RTa (rp_X9_scanToken a1 H hr) rfl) ?_
          refine J_ld 59 jw hj rfl rfl rfl rfl ?_
          refine J_gfI jw hj rfl (evn rfl) (by decide) rfl (fun r5 => ?_)
          refine J_iald jw hj rfl (Or.inr rfl) (fun z6 r6 => ?_)
          refine J_ifc (t := 70) jw hj rfl (evn rfl) rfl (fun (h3 : ((upI (f_X9_scanToken a1 H).2 7 (H.1 4 7).toNat ((Int32.ofInt ((f_X9_scanToken a1 H).1)).toInt8.toInt32.toInt)).1 7 ((f_X9_scanToken a1 H).2.1 4 7).toNat) = 0) => ?_) (fun (h3 : ¬ ((upI (f_X9_scanToken a1 H).2 7 (H.1 4 7).toNat ((Int32.ofInt ((f_X9_scanToken a1 H).1)).toInt8.toInt32.toInt)).1 7 ((f_X9_scanToken a1 H).2.1 4 7).toNat) = 0) => ?_)
          · refine J_cst 71 jw hj rfl rfl rfl ?_
            refine J_st 72 [rf (g 4), pt a1, pt 0] (k := 2) jw hj rfl (Or.inr (Or.inr (Or.inl ⟨_, rfl, rfl, rfl⟩))) rfl ?_
            refine J_ld 73 jw hj rfl rfl rfl rfl ?_
            refine J_dup 74 jw hj rfl rfl ?_
            refine J_gfI jw hj rfl (evn rfl) (by decide) rfl (fun r7 => ?_)
            refine J_cst 78 jw hj rfl rfl rfl ?_
            refine J_bin jw hj rfl rfl ?_
            refine J_pfI jw hj rfl (evn rfl) rfl ?_
            refine J_goto 12 jw hj rfl rfl ?_
            have e : f_X9_all a1 (k + 1) b H = f_X9_all a1 k 0 (upI (upI (f_X9_scanToken a1 H).2 7 (H.1 4 7).toNat ((Int32.ofInt ((f_X9_scanToken a1 H).1)).toInt8.toInt32.toInt)) 4 7 (iAdd ((f_X9_scanToken a1 H).2.1 4 7) 1)) := by
              rw [f_X9_all]
              rw [if_neg h0, if_pos h1, if_neg h2, if_pos h3]
            rw [e] at hx
            exact ih 0 (upI (upI (f_X9_scanToken a1 H).2 7 (H.1 4 7).toNat ((Int32.ofInt ((f_X9_scanToken a1 H).1)).toInt8.toInt32.toInt)) 4 7 (iAdd ((f_X9_scanToken a1 H).2.1 4 7) 1)) (rp_X9_scanToken a1 H hr) (by exact mpB (kpI_X9_scanToken_4_7 a1 H) (by assumption) h1 hm) hx
          · refine J_cst 67 jw hj rfl rfl rfl ?_
            refine J_goto 71 jw hj rfl rfl ?_
            refine J_st 72 [rf (g 4), pt a1, pt 1] (k := 2) jw hj rfl (Or.inr (Or.inr (Or.inl ⟨_, rfl, rfl, rfl⟩))) rfl ?_
            refine J_ld 73 jw hj rfl rfl rfl rfl ?_
            refine J_dup 74 jw hj rfl rfl ?_
            refine J_gfI jw hj rfl (evn rfl) (by decide) rfl (fun r8 => ?_)
            refine J_cst 78 jw hj rfl rfl rfl ?_
            refine J_bin jw hj rfl rfl ?_
            refine J_pfI jw hj rfl (evn rfl) rfl ?_
            refine J_goto 12 jw hj rfl rfl ?_
            have e : f_X9_all a1 (k + 1) b H = f_X9_all a1 k 1 (upI (upI (f_X9_scanToken a1 H).2 7 (H.1 4 7).toNat ((Int32.ofInt ((f_X9_scanToken a1 H).1)).toInt8.toInt32.toInt)) 4 7 (iAdd ((f_X9_scanToken a1 H).2.1 4 7) 1)) := by
              rw [f_X9_all]
              rw [if_neg h0, if_pos h1, if_neg h2, if_neg h3]
            rw [e] at hx
            exact ih 1 (upI (upI (f_X9_scanToken a1 H).2 7 (H.1 4 7).toNat ((Int32.ofInt ((f_X9_scanToken a1 H).1)).toInt8.toInt32.toInt)) 4 7 (iAdd ((f_X9_scanToken a1 H).2.1 4 7) 1)) (rp_X9_scanToken a1 H hr) (by exact mpB (kpI_X9_scanToken_4_7 a1 H) (by assumption) h1 hm) hx
theorem rp_X9_all {P : (Nat → Nat → Option Nat) → Prop} (a1 : Int) : ∀ (k : Nat) (b : Int) (H : hH), P H.2.2.1 → P (f_X9_all a1 k b H).2.2.2.1 := by
  intro k
  induction k with
  | zero => intro b H hr; exact hr
  | succ k ih =>
    intro b H hr
    rw [f_X9_all]
    by_cases q2 : b = 0
    · rw [if_pos q2]
      exact hr
    · rw [if_neg q2]
      by_cases q3 : H.1 4 7 < 941
      · rw [if_pos q3]
        by_cases q4 : ((upI (f_X9_scanToken a1 H).2 7 (H.1 4 7).toNat ((Int32.ofInt ((f_X9_scanToken a1 H).1)).toInt8.toInt32.toInt)).1 7 ((f_X9_scanToken a1 H).2.1 4 7).toNat) = 1
        · rw [if_pos q4]
          exact ih 0 (upI (upI (f_X9_scanToken a1 H).2 7 (H.1 4 7).toNat ((Int32.ofInt ((f_X9_scanToken a1 H).1)).toInt8.toInt32.toInt)) 4 7 (iAdd ((f_X9_scanToken a1 H).2.1 4 7) 1)) (rp_X9_scanToken a1 H hr)
        · rw [if_neg q4]
          by_cases q5 : ((upI (f_X9_scanToken a1 H).2 7 (H.1 4 7).toNat ((Int32.ofInt ((f_X9_scanToken a1 H).1)).toInt8.toInt32.toInt)).1 7 ((f_X9_scanToken a1 H).2.1 4 7).toNat) = 0
          · rw [if_pos q5]
            exact ih 0 (upI (upI (f_X9_scanToken a1 H).2 7 (H.1 4 7).toNat ((Int32.ofInt ((f_X9_scanToken a1 H).1)).toInt8.toInt32.toInt)) 4 7 (iAdd ((f_X9_scanToken a1 H).2.1 4 7) 1)) (rp_X9_scanToken a1 H hr)
          · rw [if_neg q5]
            exact ih 1 (upI (upI (f_X9_scanToken a1 H).2 7 (H.1 4 7).toNat ((Int32.ofInt ((f_X9_scanToken a1 H).1)).toInt8.toInt32.toInt)) 4 7 (iAdd ((f_X9_scanToken a1 H).2.1 4 7) 1)) (rp_X9_scanToken a1 H hr)
      · rw [if_neg q3]
        exact hr
set_option maxHeartbeats 16000000 in
set_option maxRecDepth 100000 in
theorem jt_X9_bgEnd {g : Nat → Nat} (a1 : Int) (b : Int) (H : hH) (hr : RT H.2.2.1) : J g rvTab rvInf rvRet 316 rvMth 6 (fun res => res.1 = none ∧ RH g res.2 (f_X9_bgEnd a1 b H)) 85 [rf (g 4), pt a1, pt b] [] H := by
  have hj : 6 < 316 := by decide
  refine J_ld 86 jw hj rfl rfl rfl rfl ?_
  refine J_cst 87 jw hj rfl rfl rfl ?_
  refine J_pfI jw hj rfl (evn rfl) rfl ?_
  refine J_ld 91 jw hj rfl rfl rfl rfl ?_
  refine J_cst 92 jw hj rfl rfl rfl ?_
  refine J_pfI jw hj rfl (evn rfl) rfl ?_
  refine J_ld 96 jw hj rfl rfl rfl rfl ?_
  refine J_cst 97 jw hj rfl rfl rfl ?_
  refine J_pfI jw hj rfl (evn rfl) rfl ?_
  refine J_ld 101 jw hj rfl rfl rfl rfl ?_
  refine J_callV0 jw rfl (Or.inl ⟨_, rfl⟩) rfl rfl (st_X9_advance (g := g) (upI (upI (upI H 4 13 0) 4 14 0) 4 9 (-1)) hr) ?_
  exact J_ret rfl (Or.inr (Or.inr rfl)) (fun aw hR => by show _ ∧ _; unfold f_X9_bgEnd; exact ⟨rfl, hR⟩)
theorem rp_X9_bgEnd {P : (Nat → Nat → Option Nat) → Prop} (a1 : Int) (b : Int) (H : hH) (hr : P H.2.2.1) : P (f_X9_bgEnd a1 b H).2.2.1 := by
  unfold f_X9_bgEnd
  exact (rp_X9_advance (upI (upI (upI H 4 13 0) 4 14 0) 4 9 (-1)) hr)
theorem rp_X9_begin {P : (Nat → Nat → Option Nat) → Prop} (a1 : Int) (H : hH) (hr : P H.2.2.1) : P (f_X9_begin a1 H).2.2.1 := rp_X9_bgEnd a1 _ _ (rp_X9_all a1 941 1 _ hr)
theorem st_X9_begin {g : Nat → Nat} (a1 : Int) (H : hH) (hr : RT H.2.2.1) : SP g rvTab rvInf rvRet 316 rvMth 6 [rf (g 4), pt a1] H none (f_X9_begin a1 H) := by
  have hj : 6 < 316 := by decide
  refine J_SP hj (Nat.le_of_ble_eq_true rfl) ?_
  show J g rvTab rvInf rvRet 316 rvMth 6 _ 0 [rf (g 4), pt a1, rvU] [] H
  refine J_ld 1 jw hj rfl rfl rfl rfl ?_
  refine J_cst 2 jw hj rfl rfl rfl ?_
  refine J_pfI jw hj rfl (evn rfl) rfl ?_
  refine J_cst 6 jw hj rfl rfl rfl ?_
  refine J_st 7 [rf (g 4), pt a1, pt 1] (k := 2) jw hj rfl (Or.inr (Or.inr (Or.inl ⟨_, rfl, rfl, rfl⟩))) rfl ?_
  refine J_ld 8 jw hj rfl rfl rfl rfl ?_
  refine J_cst 9 jw hj rfl rfl rfl ?_
  refine J_pfI jw hj rfl (evn rfl) rfl ?_
  exact lt_X9_all a1 941 1 _ hr (by show (941 - (0 : Int)).toNat ≤ 941; decide) (jt_X9_bgEnd a1 _ _ (rp_X9_all a1 941 1 _ hr))
