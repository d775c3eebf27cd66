/-! The class's sentence: what exact runs of its reader answer (written by wip/p42/xs.py). -/
def rsL : List (Nat × Nat × Nat) := rtL ++ [(14, 0, 4), (14, 1, 52), (14, 2, 60), (60, 0, 61), (60, 1, 62), (60, 2, 63), (52, 0, 53), (52, 1, 54)]
def RS (r : Nat → Nat → Option Nat) : Prop := ∀ q ∈ rsL, r q.1 q.2.1 = some q.2.2
theorem RSa {r : Nat → Nat → Option Nat} (h : RS r) {p f k : Nat} (hm : rsL.elem (p, f, k) = true) : r p f = some k := h (p, f, k) (List.elem_iff.mp hm)
theorem RSt {r : Nat → Nat → Option Nat} (h : RS r) : RT r := fun q hq => h q (List.mem_append_left _ hq)
section JSW
variable {g : Nat → Nat} {tab : Nat → Nat → Option rvE} {info : Nat → rvM} {rets : Nat → Option FieldType} {NM : Nat} {mth : Nat → Option Nat} {j len a1 a2 a3 wi : Nat} {al st : List rvV} {Post : xRes2 → Prop} {H : hH}
theorem J_swR {a : Int} (hw : jRows tab NM) (hj : j < NM) (ht : tab j 152 = some (.tableswitch 119 4 22 #[106, 92, 119, 119, 119, 119, 119, 119, 119, 119, 119, 119, 119, 119, 119, 99, 113, 113, 113], len, a1, a2, a3, wi)) (k5 : a = 5 → J g tab info rets NM mth j Post 244 al st H) (k19 : a = 19 → J g tab info rets NM mth j Post 251 al st H) (k4 : a = 4 → J g tab info rets NM mth j Post 258 al st H) (k2 : (a = 20 ∨ a = 21 ∨ a = 22) → J g tab info rets NM mth j Post 265 al st H) (kd : ¬ a = 5 → ¬ a = 19 → ¬ a = 4 → ¬ (a = 20 ∨ a = 21 ∨ a = 22) → J g tab info rets NM mth j Post 271 al st H) : J g tab info rets NM mth j Post 152 al (pt a :: st) H := by
  refine J_step hw hj ht (evn rfl) (fun aw kc ks o' hR ha hs hx9 he => ?_)
  have fin : ∀ t : Nat, some (t, al, st, aw, kc, ks) = some o' → J g tab info rets NM mth j Post t al st H → ∃ H', RH g o'.2.2.2.1 H' ∧ J g tab info rets NM mth j Post o'.1 o'.2.1 o'.2.2.1 H' := by
    intro t e k
    have e := Option.some.inj e
    subst e
    exact ⟨H, hR, k⟩
  by_cases hr : 4 ≤ a ∧ a ≤ 22
  · have hc : a = 4 ∨ a = 5 ∨ a = 6 ∨ a = 7 ∨ a = 8 ∨ a = 9 ∨ a = 10 ∨ a = 11 ∨ a = 12 ∨ a = 13 ∨ a = 14 ∨ a = 15 ∨ a = 16 ∨ a = 17 ∨ a = 18 ∨ a = 19 ∨ a = 20 ∨ a = 21 ∨ a = 22 := by omega
    rcases hc with rfl | rfl | rfl | rfl | rfl | rfl | rfl | rfl | rfl | rfl | rfl | rfl | rfl | rfl | rfl | rfl | rfl | rfl | rfl
    · exact fin 258 he (k4 rfl)
    · exact fin 244 he (k5 rfl)
    · exact fin 271 he (kd (by decide) (by decide) (by decide) (by decide))
    · exact fin 271 he (kd (by decide) (by decide) (by decide) (by decide))
    · exact fin 271 he (kd (by decide) (by decide) (by decide) (by decide))
    · exact fin 271 he (kd (by decide) (by decide) (by decide) (by decide))
    · exact fin 271 he (kd (by decide) (by decide) (by decide) (by decide))
    · exact fin 271 he (kd (by decide) (by decide) (by decide) (by decide))
    · exact fin 271 he (kd (by decide) (by decide) (by decide) (by decide))
    · exact fin 271 he (kd (by decide) (by decide) (by decide) (by decide))
    · exact fin 271 he (kd (by decide) (by decide) (by decide) (by decide))
    · exact fin 271 he (kd (by decide) (by decide) (by decide) (by decide))
    · exact fin 271 he (kd (by decide) (by decide) (by decide) (by decide))
    · exact fin 271 he (kd (by decide) (by decide) (by decide) (by decide))
    · exact fin 271 he (kd (by decide) (by decide) (by decide) (by decide))
    · exact fin 251 he (k19 rfl)
    · exact fin 265 he (k2 (Or.inl rfl))
    · exact fin 265 he (k2 (Or.inr (Or.inl rfl)))
    · exact fin 265 he (k2 (Or.inr (Or.inr rfl)))
  · have he : (bif decide (a < 4) || decide (22 < a) then some (271, al, st, aw, kc, ks) else (bif rvOne (a, a) && (decide (4 ≤ a) && decide (a ≤ 22)) then (match (#[106, 92, 119, 119, 119, 119, 119, 119, 119, 119, 119, 119, 119, 119, 119, 99, 113, 113, 113] : Array Int)[(a - 4).toNat]? with
        | some off => (match rvJ 152 off with
          | some t => some (t, al, st, aw, kc, ks)
          | none => none)
        | none => none)
      else none)) = some o' := he
    have hb : (decide (a < 4) || decide (22 < a)) = true := by
      by_cases h4 : a < 4
      · rw [decide_eq_true h4]; rfl
      · rw [decide_eq_true (show 22 < a by omega), Bool.or_true]
    rw [hb, cond_true] at he
    exact fin 271 he (kd (by omega) (by omega) (by omega) (by omega))
end JSW
def f_Y10_numberOf (a1 : Int64) (a2 : Int) (H : hH) : Int := fstI (fun i => decide (H.2.1 54 (iAdd (iMul a2 10) (i : Int)).toNat = a1)) (H.1 53 (a2).toNat).toNat 0
theorem lp_Y10_numberOf {g : Nat → Nat} (a1 : Int64) (a2 : Int) (H : hH) (hr : RS H.2.2.1) : ∀ (k i : Nat), i + k = (H.1 53 (a2).toNat).toNat → J g rvTab rvInf rvRet 316 rvMth 7 (fun res => res.1 = some (pt (fstI (fun i => decide (H.2.1 54 (iAdd (iMul a2 10) (i : Int)).toNat = a1)) k i)) ∧ RH g res.2 H) 3 [rf (g 52), lg a1, rvU, pt a2, pt (i : Int)] [] H := by
  intro k
  induction k with
  | zero =>
    intro i hk
    have hj : 7 < 316 := by decide
    refine J_ld 5 jw hj rfl rfl rfl rfl ?_
    refine J_ld 6 jw hj rfl rfl rfl rfl ?_
    refine J_gfR (k := 53) jw hj rfl (evn rfl) (by decide) (by decide) (RSa hr rfl) ?_
    refine J_ld 10 jw hj rfl rfl rfl rfl ?_
    refine J_iald jw hj rfl (Or.inl rfl) (fun z0 r0 => ?_)
    refine J_icmp (t := 40) jw hj rfl (evn rfl) rfl (fun (h0 : ¬ (i : Int) < H.1 53 (a2).toNat) => ?_) (fun (h0 : (i : Int) < H.1 53 (a2).toNat) => ?_)
    · refine J_cst 41 jw hj rfl rfl rfl ?_
      exact J_ret rfl (Or.inl rfl) (fun aw hR => ⟨rfl, hR⟩)
    · exact absurd h0 (by omega)
  | succ k ih =>
    intro i hk
    have hj : 7 < 316 := by decide
    refine J_ld 5 jw hj rfl rfl rfl rfl ?_
    refine J_ld 6 jw hj rfl rfl rfl rfl ?_
    refine J_gfR (k := 53) jw hj rfl (evn rfl) (by decide) (by decide) (RSa hr rfl) ?_
    refine J_ld 10 jw hj rfl rfl rfl rfl ?_
    refine J_iald jw hj rfl (Or.inl rfl) (fun z0 r0 => ?_)
    refine J_icmp (t := 40) jw hj rfl (evn rfl) rfl (fun (h0 : ¬ (i : Int) < H.1 53 (a2).toNat) => ?_) (fun (h0 : (i : Int) < H.1 53 (a2).toNat) => ?_)
    · exact absurd h0 (by omega)
    · refine J_ld 15 jw hj rfl rfl rfl rfl ?_
      refine J_gfR (k := 54) jw hj rfl (evn rfl) (by decide) (by decide) (RSa hr rfl) ?_
      refine J_ld 19 jw hj rfl rfl rfl rfl ?_
      refine J_cst 21 jw hj rfl rfl rfl ?_
      refine J_bin jw hj rfl rfl ?_
      refine J_ld 24 jw hj rfl rfl rfl rfl ?_
      refine J_bin jw hj rfl rfl ?_
      refine J_lald jw hj rfl (evn rfl) (fun _ => ?_)
      refine J_ld 27 jw hj rfl rfl rfl rfl ?_
      refine J_lcmp jw hj rfl (evn rfl) ?_
      refine J_ifc (t := 34) jw hj rfl (evn rfl) rfl (fun (h1 : ¬ ((lg_cmp (H.2.1 54 (iAdd (iMul a2 10) (i : Int)).toNat) a1).toInt) = 0) => ?_) (fun (h1 : ((lg_cmp (H.2.1 54 (iAdd (iMul a2 10) (i : Int)).toNat) a1).toInt) = 0) => ?_)
      · refine J_iinc (al' := [rf (g 52), lg a1, rvU, pt a2, pt (iAdd (i : Int) 1)]) jw hj rfl (evn rfl) rfl rfl ?_
        refine J_goto 3 jw hj rfl rfl ?_
        rw [show iAdd (i : Int) 1 = ((i + 1 : Nat) : Int) from iAdd_1 (by have := r0.2; omega)]
        have e := ih (i + 1) (by omega)
        have e2 : fstI (fun i => decide (H.2.1 54 (iAdd (iMul a2 10) (i : Int)).toNat = a1)) (k + 1) i = fstI (fun i => decide (H.2.1 54 (iAdd (iMul a2 10) (i : Int)).toNat = a1)) k (i + 1) := by
          show (if decide (H.2.1 54 (iAdd (iMul a2 10) (i : Int)).toNat = a1) = true then _ else _) = _
          rw [if_neg (fun q => h1 ((lgc0 _ _).mpr (by simpa using q)))]
        rw [e2]
        exact e
      · refine J_ld 33 jw hj rfl rfl rfl rfl ?_
        exact J_ret rfl (Or.inl rfl) (fun aw hR => by
        refine ⟨?_, hR⟩
        show some (pt (i : Int)) = some (pt (if decide (H.2.1 54 (iAdd (iMul a2 10) (i : Int)).toNat = a1) = true then (i : Int) else _))
        rw [if_pos (by simpa using (lgc0 _ _).mp h1)])
theorem sp_Y10_numberOf {g : Nat → Nat} (a1 : Int64) (a2 : Int) (H : hH) (hr : RS H.2.2.1) : SP g rvTab rvInf rvRet 316 rvMth 7 [rf (g 52), lg a1, pt a2] H (some (pt (f_Y10_numberOf a1 a2 H))) H := by
  have hj : 7 < 316 := by decide
  refine J_SP hj (Nat.le_of_ble_eq_true rfl) ?_
  show J g rvTab rvInf rvRet 316 rvMth 7 _ 0 [rf (g 52), lg a1, rvU, pt a2, rvU] [] H
  refine J_cst 1 jw hj rfl rfl rfl ?_
  refine J_st 3 [rf (g 52), lg a1, rvU, pt a2, pt 0] (k := 4) jw hj rfl (Or.inl ⟨rfl, rfl⟩) rfl ?_
  exact lp_Y10_numberOf a1 a2 H hr _ 0 (Nat.zero_add _)
def f_Y9_named (a2 : Int) (H : hH) : Int × hH :=
  if H.1 4 10 = 5 then
    if f_Y10_numberOf (H.2.1 4 12) a2 H = (-1) then
      (f_Y10_numberOf (H.2.1 4 12) a2 H, (f_X9_fail 3 H).2)
    else
      (f_Y10_numberOf (H.2.1 4 12) a2 H, H)
  else
    ((-1), (f_X9_fail 1 H).2)
set_option maxHeartbeats 16000000 in
set_option maxRecDepth 100000 in
theorem sp_Y9_named {g : Nat → Nat} (a2 : Int) (H : hH) (hr : RS H.2.2.1) : SP g rvTab rvInf rvRet 316 rvMth 11 [rf (g 4), rf (g 52), pt a2] H (some (pt (f_Y9_named a2 H).1)) (f_Y9_named a2 H).2 := by
  have hj : 11 < 316 := by decide
  refine J_SP hj (Nat.le_of_ble_eq_true rfl) ?_
  show J g rvTab rvInf rvRet 316 rvMth 11 _ 0 [rf (g 4), rf (g 52), pt a2, rvU] [] H
  refine J_ld 1 jw hj rfl rfl rfl rfl ?_
  refine J_gfI jw hj rfl (evn rfl) (by decide) rfl (fun r0 => ?_)
  refine J_cst 5 jw hj rfl rfl rfl ?_
  refine J_icmp (t := 16) jw hj rfl (evn rfl) rfl (fun (h0 : H.1 4 10 = 5) => ?_) (fun (h0 : ¬ H.1 4 10 = 5) => ?_)
  · refine J_ld 17 jw hj rfl rfl rfl rfl ?_
    refine J_ld 18 jw hj rfl rfl rfl rfl ?_
    refine J_gfL jw hj rfl (evn rfl) (by decide) rfl ?_
    refine J_ld 22 jw hj rfl rfl rfl rfl ?_
    refine J_callV1 jw rfl (Or.inl ⟨_, rfl⟩) rfl rfl (sp_Y10_numberOf (g := g) (H.2.1 4 12) a2 H hr) ?_
    refine J_st 26 [rf (g 4), rf (g 52), pt a2, pt (f_Y10_numberOf (H.2.1 4 12) a2 H)] (k := 3) jw hj rfl (Or.inr (Or.inr (Or.inl ⟨_, rfl, rfl, rfl⟩))) rfl ?_
    refine J_ld 27 jw hj rfl rfl rfl rfl ?_
    refine J_cst 28 jw hj rfl rfl rfl ?_
    refine J_icmp (t := 37) jw hj rfl (evn rfl) rfl (fun (h1 : ¬ f_Y10_numberOf (H.2.1 4 12) a2 H = (-1)) => ?_) (fun (h1 : f_Y10_numberOf (H.2.1 4 12) a2 H = (-1)) => ?_)
    · refine J_ld 38 jw hj rfl rfl rfl rfl ?_
      exact J_ret rfl (Or.inl rfl) (fun aw hR => by show _ ∧ _; unfold f_Y9_named; rw [if_pos h0, if_neg h1]; exact ⟨rfl, hR⟩)
    · refine J_ld 32 jw hj rfl rfl rfl rfl ?_
      refine J_cst 33 jw hj rfl rfl rfl ?_
      refine J_callV1 jw rfl (Or.inl ⟨_, rfl⟩) rfl rfl (st_X9_fail (g := g) 3 H (RSt hr)) ?_
      refine J_pop 37 jw hj rfl rfl ?_
      refine J_ld 38 jw hj rfl rfl rfl rfl ?_
      exact J_ret rfl (Or.inl rfl) (fun aw hR => by show _ ∧ _; unfold f_Y9_named; rw [if_pos h0, if_pos h1]; exact ⟨rfl, hR⟩)
  · refine J_ld 9 jw hj rfl rfl rfl rfl ?_
    refine J_cst 10 jw hj rfl rfl rfl ?_
    refine J_callV1 jw rfl (Or.inl ⟨_, rfl⟩) rfl rfl (st_X9_fail (g := g) 1 H (RSt hr)) ?_
    refine J_pop 14 jw hj rfl rfl ?_
    refine J_cst 15 jw hj rfl rfl rfl ?_
    exact J_ret rfl (Or.inl rfl) (fun aw hR => by show _ ∧ _; unfold f_Y9_named; rw [if_neg h0]; exact ⟨rfl, hR⟩)
theorem rp_Y9_named {P : (Nat → Nat → Option Nat) → Prop} (a2 : Int) (H : hH) (hr : P H.2.2.1) : P (f_Y9_named a2 H).2.2.2.1 := by
  unfold f_Y9_named
  by_cases q1 : H.1 4 10 = 5
  · rw [if_pos q1]
    by_cases q2 : f_Y10_numberOf (H.2.1 4 12) a2 H = (-1)
    · rw [if_pos q2]
      exact (rp_X9_fail 3 H hr)
    · rw [if_neg q2]
      exact hr
  · rw [if_neg q1]
    exact (rp_X9_fail 1 H hr)
def f_X6_addStep (a1 : Int) (a2 : Int) (a3 : Int) (H : hH) : hH :=
  if H.1 60 4 < 40 then
    (upI (upI (upI (upI H 61 (H.1 60 4).toNat a1) 62 (H.1 60 4).toNat a2) 63 (H.1 60 4).toNat a3) 60 4 (iAdd (H.1 60 4) 1))
  else
    H
set_option maxHeartbeats 16000000 in
set_option maxRecDepth 100000 in
theorem sp_X6_addStep {g : Nat → Nat} (a1 : Int) (a2 : Int) (a3 : Int) (H : hH) (hr : RS H.2.2.1) : SP g rvTab rvInf rvRet 316 rvMth 219 [rf (g 60), pt a1, pt a2, pt a3] H (none) (f_X6_addStep a1 a2 a3 H) := by
  have hj : 219 < 316 := by decide
  refine J_SP hj (Nat.le_of_ble_eq_true rfl) ?_
  show J g rvTab rvInf rvRet 316 rvMth 219 _ 0 [rf (g 60), pt a1, pt a2, pt a3] [] H
  refine J_ld 1 jw hj rfl rfl rfl rfl ?_
  refine J_gfI jw hj rfl (evn rfl) (by decide) rfl (fun r0 => ?_)
  refine J_cst 6 jw hj rfl rfl rfl ?_
  refine J_icmp (t := 49) jw hj rfl (evn rfl) rfl (fun (h0 : ¬ H.1 60 4 < 40) => ?_) (fun (h0 : H.1 60 4 < 40) => ?_)
  · exact J_ret rfl (Or.inr (Or.inr rfl)) (fun aw hR => by show _ ∧ _; unfold f_X6_addStep; rw [if_neg h0]; exact ⟨rfl, hR⟩)
  · refine J_ld 10 jw hj rfl rfl rfl rfl ?_
    refine J_gfR (k := 61) jw hj rfl (evn rfl) (by decide) (by decide) (RSa hr rfl) ?_
    refine J_ld 14 jw hj rfl rfl rfl rfl ?_
    refine J_gfI jw hj rfl (evn rfl) (by decide) rfl (fun r1 => ?_)
    refine J_ld 18 jw hj rfl rfl rfl rfl ?_
    refine J_iast jw hj rfl (Or.inl rfl) (fun _ => ?_)
    refine J_ld 20 jw hj rfl rfl rfl rfl ?_
    refine J_gfR (k := 62) jw hj rfl (evn rfl) (by decide) (by decide) (RSa hr rfl) ?_
    refine J_ld 24 jw hj rfl rfl rfl rfl ?_
    refine J_gfI jw hj rfl (evn rfl) (by decide) rfl (fun r2 => ?_)
    refine J_ld 28 jw hj rfl rfl rfl rfl ?_
    refine J_iast jw hj rfl (Or.inl rfl) (fun _ => ?_)
    refine J_ld 30 jw hj rfl rfl rfl rfl ?_
    refine J_gfR (k := 63) jw hj rfl (evn rfl) (by decide) (by decide) (RSa hr rfl) ?_
    refine J_ld 34 jw hj rfl rfl rfl rfl ?_
    refine J_gfI jw hj rfl (evn rfl) (by decide) rfl (fun r3 => ?_)
    refine J_ld 38 jw hj rfl rfl rfl rfl ?_
    refine J_iast jw hj rfl (Or.inl rfl) (fun _ => ?_)
    refine J_ld 40 jw hj rfl rfl rfl rfl ?_
    refine J_dup 41 jw hj rfl rfl ?_
    refine J_gfI jw hj rfl (evn rfl) (by decide) rfl (fun r4 => ?_)
    refine J_cst 45 jw hj rfl rfl rfl ?_
    refine J_bin jw hj rfl rfl ?_
    refine J_pfI jw hj rfl (evn rfl) rfl ?_
    exact J_ret rfl (Or.inr (Or.inr rfl)) (fun aw hR => by show _ ∧ _; unfold f_X6_addStep; rw [if_pos h0]; exact ⟨rfl, hR⟩)
theorem rp_X6_addStep {P : (Nat → Nat → Option Nat) → Prop} (a1 : Int) (a2 : Int) (a3 : Int) (H : hH) (hr : P H.2.2.1) : P (f_X6_addStep a1 a2 a3 H).2.2.1 := by
  unfold f_X6_addStep
  by_cases q1 : H.1 60 4 < 40
  · rw [if_pos q1]
    exact hr
  · rw [if_neg q1]
    exact hr
def f_X7_beginsOne (a1 : Int) : Int :=
  if f_X11_isWithin a1 18 22 = 0 then
    if f_X11_isWithin a1 7 9 = 0 then
      if a1 = 5 then
        1
      else
        if a1 = 4 then
          1
        else
          0
    else
      1
  else
    1
set_option maxHeartbeats 16000000 in
set_option maxRecDepth 100000 in
theorem sp_X7_beginsOne {g : Nat → Nat} (a1 : Int) (H : hH) : SP g rvTab rvInf rvRet 316 rvMth 220 [pt a1] H (some (pt (f_X7_beginsOne a1))) H := by
  have hj : 220 < 316 := by decide
  refine J_SP hj (Nat.le_of_ble_eq_true rfl) ?_
  show J g rvTab rvInf rvRet 316 rvMth 220 _ 0 [pt a1] [] H
  refine J_ld 1 jw hj rfl rfl rfl rfl ?_
  refine J_cst 3 jw hj rfl rfl rfl ?_
  refine J_cst 5 jw hj rfl rfl rfl ?_
  refine J_callS1 jw rfl rfl rfl rfl (sp_X11_isWithin (g := g) a1 18 22 H) ?_
  refine J_ifc (t := 32) jw hj rfl (evn rfl) rfl (fun (h0 : ¬ f_X11_isWithin a1 18 22 = 0) => ?_) (fun (h0 : f_X11_isWithin a1 18 22 = 0) => ?_)
  · refine J_cst 33 jw hj rfl rfl rfl ?_
    refine J_goto 37 jw hj rfl rfl ?_
    exact J_ret rfl (Or.inl rfl) (fun aw hR => by show _ ∧ _; unfold f_X7_beginsOne; rw [if_neg h0]; exact ⟨rfl, hR⟩)
  · refine J_ld 12 jw hj rfl rfl rfl rfl ?_
    refine J_cst 14 jw hj rfl rfl rfl ?_
    refine J_cst 16 jw hj rfl rfl rfl ?_
    refine J_callS1 jw rfl rfl rfl rfl (sp_X11_isWithin (g := g) a1 7 9 H) ?_
    refine J_ifc (t := 32) jw hj rfl (evn rfl) rfl (fun (h1 : ¬ f_X11_isWithin a1 7 9 = 0) => ?_) (fun (h1 : f_X11_isWithin a1 7 9 = 0) => ?_)
    · refine J_cst 33 jw hj rfl rfl rfl ?_
      refine J_goto 37 jw hj rfl rfl ?_
      exact J_ret rfl (Or.inl rfl) (fun aw hR => by show _ ∧ _; unfold f_X7_beginsOne; rw [if_pos h0, if_neg h1]; exact ⟨rfl, hR⟩)
    · refine J_ld 23 jw hj rfl rfl rfl rfl ?_
      refine J_cst 24 jw hj rfl rfl rfl ?_
      refine J_icmp (t := 32) jw hj rfl (evn rfl) rfl (fun (h2 : a1 = 5) => ?_) (fun (h2 : ¬ a1 = 5) => ?_)
      · refine J_cst 33 jw hj rfl rfl rfl ?_
        refine J_goto 37 jw hj rfl rfl ?_
        exact J_ret rfl (Or.inl rfl) (fun aw hR => by show _ ∧ _; unfold f_X7_beginsOne; rw [if_pos h0, if_pos h1, if_pos h2]; exact ⟨rfl, hR⟩)
      · refine J_ld 28 jw hj rfl rfl rfl rfl ?_
        refine J_cst 29 jw hj rfl rfl rfl ?_
        refine J_icmp (t := 36) jw hj rfl (evn rfl) rfl (fun (h3 : ¬ a1 = 4) => ?_) (fun (h3 : a1 = 4) => ?_)
        · refine J_cst 37 jw hj rfl rfl rfl ?_
          exact J_ret rfl (Or.inl rfl) (fun aw hR => by show _ ∧ _; unfold f_X7_beginsOne; rw [if_pos h0, if_pos h1, if_neg h2, if_neg h3]; exact ⟨rfl, hR⟩)
        · refine J_cst 33 jw hj rfl rfl rfl ?_
          refine J_goto 37 jw hj rfl rfl ?_
          exact J_ret rfl (Or.inl rfl) (fun aw hR => by show _ ∧ _; unfold f_X7_beginsOne; rw [if_pos h0, if_pos h1, if_neg h2, if_pos h3]; exact ⟨rfl, hR⟩)
def f_X7_readNamed (a1 : Int) (a2 : Int) (H : hH) : Int × hH :=
  if ((f_Y9_named a2 H).1) = (-1) then
    (0, (f_Y9_named a2 H).2)
  else
    (1, (f_X9_advance (f_X6_addStep a1 61 ((f_Y9_named a2 H).1) (f_Y9_named a2 H).2)))
set_option maxHeartbeats 16000000 in
set_option maxRecDepth 100000 in
theorem sp_X7_readNamed {g : Nat → Nat} (a1 : Int) (a2 : Int) (H : hH) (hr : RS H.2.2.1) : SP g rvTab rvInf rvRet 316 rvMth 221 [rf (g 14), pt a1, pt a2] H (some (pt (f_X7_readNamed a1 a2 H).1)) (f_X7_readNamed a1 a2 H).2 := by
  have hj : 221 < 316 := by decide
  refine J_SP hj (Nat.le_of_ble_eq_true rfl) ?_
  show J g rvTab rvInf rvRet 316 rvMth 221 _ 0 [rf (g 14), pt a1, pt a2, rvU] [] H
  refine J_ld 1 jw hj rfl rfl rfl rfl ?_
  refine J_gfR (k := 4) jw hj rfl (evn rfl) (by decide) (by decide) (RSa hr rfl) ?_
  refine J_ld 5 jw hj rfl rfl rfl rfl ?_
  refine J_gfR (k := 52) jw hj rfl (evn rfl) (by decide) (by decide) (RSa hr rfl) ?_
  refine J_ld 9 jw hj rfl rfl rfl rfl ?_
  refine J_callV1 jw rfl (Or.inl ⟨_, rfl⟩) rfl rfl (sp_Y9_named (g := g) a2 H hr) ?_
  refine J_st 13 [rf (g 14), pt a1, pt a2, pt ((f_Y9_named a2 H).1)] (k := 3) jw hj rfl (Or.inr (Or.inr (Or.inl ⟨_, rfl, rfl, rfl⟩))) rfl ?_
  refine J_ld 14 jw hj rfl rfl rfl rfl ?_
  refine J_cst 15 jw hj rfl rfl rfl ?_
  refine J_icmp (t := 20) jw hj rfl (evn rfl) rfl (fun (h0 : ¬ ((f_Y9_named a2 H).1) = (-1)) => ?_) (fun (h0 : ((f_Y9_named a2 H).1) = (-1)) => ?_)
  · refine J_ld 21 jw hj rfl rfl rfl rfl ?_
    refine J_gfR (k := 60) jw hj rfl (evn rfl) (by decide) (by decide) (RSa (rp_Y9_named a2 H hr) rfl) ?_
    refine J_ld 25 jw hj rfl rfl rfl rfl ?_
    refine J_cst 27 jw hj rfl rfl rfl ?_
    refine J_ld 28 jw hj rfl rfl rfl rfl ?_
    refine J_callV0 jw rfl (Or.inl ⟨_, rfl⟩) rfl rfl (sp_X6_addStep (g := g) a1 61 ((f_Y9_named a2 H).1) (f_Y9_named a2 H).2 (rp_Y9_named a2 H hr)) ?_
    refine J_ld 32 jw hj rfl rfl rfl rfl ?_
    refine J_gfR (k := 4) jw hj rfl (evn rfl) (by decide) (by decide) (RSa (rp_X6_addStep a1 61 ((f_Y9_named a2 H).1) (f_Y9_named a2 H).2 (rp_Y9_named a2 H hr)) rfl) ?_
    refine J_callV0 jw rfl (Or.inl ⟨_, rfl⟩) rfl rfl (st_X9_advance (g := g) (f_X6_addStep a1 61 ((f_Y9_named a2 H).1) (f_Y9_named a2 H).2) (RSt (rp_X6_addStep a1 61 ((f_Y9_named a2 H).1) (f_Y9_named a2 H).2 (rp_Y9_named a2 H hr)))) ?_
    refine J_cst 39 jw hj rfl rfl rfl ?_
    exact J_ret rfl (Or.inl rfl) (fun aw hR => by show _ ∧ _; unfold f_X7_readNamed; rw [if_neg h0]; exact ⟨rfl, hR⟩)
  · refine J_cst 19 jw hj rfl rfl rfl ?_
    exact J_ret rfl (Or.inl rfl) (fun aw hR => by show _ ∧ _; unfold f_X7_readNamed; rw [if_pos h0]; exact ⟨rfl, hR⟩)
theorem rp_X7_readNamed {P : (Nat → Nat → Option Nat) → Prop} (a1 : Int) (a2 : Int) (H : hH) (hr : P H.2.2.1) : P (f_X7_readNamed a1 a2 H).2.2.2.1 := by
  unfold f_X7_readNamed
  by_cases q1 : ((f_Y9_named a2 H).1) = (-1)
  · rw [if_pos q1]
    exact (rp_Y9_named a2 H hr)
  · rw [if_neg q1]
    exact (rp_X9_advance (f_X6_addStep a1 61 ((f_Y9_named a2 H).1) (f_Y9_named a2 H).2) (rp_X6_addStep a1 61 ((f_Y9_named a2 H).1) (f_Y9_named a2 H).2 (rp_Y9_named a2 H hr)))
def f_X7_readComparison (a1 : Int) (H : hH) : Int × hH :=
  if f_X9_isAtSign 60 H = 0 then
    if f_X9_isAtSign 61 H = 0 then
      if f_X9_isAtSign 62 H = 0 then
        ((f_X9_fail 1 H).1, (f_X9_fail 1 H).2)
      else
        if ((f_X9_passNumber 0 999 (f_X9_advance H)).1) = (-1) then
          (0, (f_X6_addStep a1 (H.1 4 11) ((f_X9_passNumber 0 999 (f_X9_advance H)).1) (f_X9_passNumber 0 999 (f_X9_advance H)).2))
        else
          (1, (f_X6_addStep a1 (H.1 4 11) ((f_X9_passNumber 0 999 (f_X9_advance H)).1) (f_X9_passNumber 0 999 (f_X9_advance H)).2))
    else
      if ((f_X9_passNumber 0 999 (f_X9_advance H)).1) = (-1) then
        (0, (f_X6_addStep a1 (H.1 4 11) ((f_X9_passNumber 0 999 (f_X9_advance H)).1) (f_X9_passNumber 0 999 (f_X9_advance H)).2))
      else
        (1, (f_X6_addStep a1 (H.1 4 11) ((f_X9_passNumber 0 999 (f_X9_advance H)).1) (f_X9_passNumber 0 999 (f_X9_advance H)).2))
  else
    if ((f_X9_passNumber 0 999 (f_X9_advance H)).1) = (-1) then
      (0, (f_X6_addStep a1 (H.1 4 11) ((f_X9_passNumber 0 999 (f_X9_advance H)).1) (f_X9_passNumber 0 999 (f_X9_advance H)).2))
    else
      (1, (f_X6_addStep a1 (H.1 4 11) ((f_X9_passNumber 0 999 (f_X9_advance H)).1) (f_X9_passNumber 0 999 (f_X9_advance H)).2))
set_option maxHeartbeats 16000000 in
set_option maxRecDepth 100000 in
theorem sp_X7_readComparison {g : Nat → Nat} (a1 : Int) (H : hH) (hr : RS H.2.2.1) : SP g rvTab rvInf rvRet 316 rvMth 222 [rf (g 14), pt a1] H (some (pt (f_X7_readComparison a1 H).1)) (f_X7_readComparison a1 H).2 := by
  have hj : 222 < 316 := by decide
  refine J_SP hj (Nat.le_of_ble_eq_true rfl) ?_
  show J g rvTab rvInf rvRet 316 rvMth 222 _ 0 [rf (g 14), pt a1, rvU, rvU] [] H
  refine J_ld 1 jw hj rfl rfl rfl rfl ?_
  refine J_gfR (k := 4) jw hj rfl (evn rfl) (by decide) (by decide) (RSa hr rfl) ?_
  refine J_cst 6 jw hj rfl rfl rfl ?_
  refine J_callV1 jw rfl (Or.inl ⟨_, rfl⟩) rfl rfl (sp_X9_isAtSign (g := g) 60 H) ?_
  refine J_ifc (t := 45) jw hj rfl (evn rfl) rfl (fun (h0 : ¬ f_X9_isAtSign 60 H = 0) => ?_) (fun (h0 : f_X9_isAtSign 60 H = 0) => ?_)
  · refine J_ld 46 jw hj rfl rfl rfl rfl ?_
    refine J_gfR (k := 4) jw hj rfl (evn rfl) (by decide) (by decide) (RSa hr rfl) ?_
    refine J_gfI jw hj rfl (evn rfl) (by decide) rfl (fun r0 => ?_)
    refine J_st 53 [rf (g 14), pt a1, pt (H.1 4 11), rvU] (k := 2) jw hj rfl (Or.inr (Or.inr (Or.inl ⟨_, rfl, rfl, rfl⟩))) rfl ?_
    refine J_ld 54 jw hj rfl rfl rfl rfl ?_
    refine J_gfR (k := 4) jw hj rfl (evn rfl) (by decide) (by decide) (RSa hr rfl) ?_
    refine J_callV0 jw rfl (Or.inl ⟨_, rfl⟩) rfl rfl (st_X9_advance (g := g) H (RSt hr)) ?_
    refine J_ld 61 jw hj rfl rfl rfl rfl ?_
    refine J_gfR (k := 4) jw hj rfl (evn rfl) (by decide) (by decide) (RSa (rp_X9_advance H hr) rfl) ?_
    refine J_cst 65 jw hj rfl rfl rfl ?_
    refine J_cst 68 jw hj rfl rfl rfl ?_
    refine J_callV1 jw rfl (Or.inl ⟨_, rfl⟩) rfl rfl (st_X9_passNumber (g := g) 0 999 (f_X9_advance H) (RSt (rp_X9_advance H hr))) ?_
    refine J_st 72 [rf (g 14), pt a1, pt (H.1 4 11), pt ((f_X9_passNumber 0 999 (f_X9_advance H)).1)] (k := 3) jw hj rfl (Or.inr (Or.inr (Or.inl ⟨_, rfl, rfl, rfl⟩))) rfl ?_
    refine J_ld 73 jw hj rfl rfl rfl rfl ?_
    refine J_gfR (k := 60) jw hj rfl (evn rfl) (by decide) (by decide) (RSa (rp_X9_passNumber 0 999 (f_X9_advance H) (rp_X9_advance H hr)) rfl) ?_
    refine J_ld 77 jw hj rfl rfl rfl rfl ?_
    refine J_ld 78 jw hj rfl rfl rfl rfl ?_
    refine J_ld 79 jw hj rfl rfl rfl rfl ?_
    refine J_callV0 jw rfl (Or.inl ⟨_, rfl⟩) rfl rfl (sp_X6_addStep (g := g) a1 (H.1 4 11) ((f_X9_passNumber 0 999 (f_X9_advance H)).1) (f_X9_passNumber 0 999 (f_X9_advance H)).2 (rp_X9_passNumber 0 999 (f_X9_advance H) (rp_X9_advance H hr))) ?_
    refine J_ld 83 jw hj rfl rfl rfl rfl ?_
    refine J_cst 84 jw hj rfl rfl rfl ?_
    refine J_icmp (t := 91) jw hj rfl (evn rfl) rfl (fun (h1 : ((f_X9_passNumber 0 999 (f_X9_advance H)).1) = (-1)) => ?_) (fun (h1 : ¬ ((f_X9_passNumber 0 999 (f_X9_advance H)).1) = (-1)) => ?_)
    · refine J_cst 92 jw hj rfl rfl rfl ?_
      exact J_ret rfl (Or.inl rfl) (fun aw hR => by show _ ∧ _; unfold f_X7_readComparison; rw [if_neg h0, if_pos h1]; exact ⟨rfl, hR⟩)
    · refine J_cst 88 jw hj rfl rfl rfl ?_
      refine J_goto 92 jw hj rfl rfl ?_
      exact J_ret rfl (Or.inl rfl) (fun aw hR => by show _ ∧ _; unfold f_X7_readComparison; rw [if_neg h0, if_neg h1]; exact ⟨rfl, hR⟩)
  · refine J_ld 13 jw hj rfl rfl rfl rfl ?_
    refine J_gfR (k := 4) jw hj rfl (evn rfl) (by decide) (by decide) (RSa hr rfl) ?_
    refine J_cst 18 jw hj rfl rfl rfl ?_
    refine J_callV1 jw rfl (Or.inl ⟨_, rfl⟩) rfl rfl (sp_X9_isAtSign (g := g) 61 H) ?_
    refine J_ifc (t := 45) jw hj rfl (evn rfl) rfl (fun (h2 : ¬ f_X9_isAtSign 61 H = 0) => ?_) (fun (h2 : f_X9_isAtSign 61 H = 0) => ?_)
    · refine J_ld 46 jw hj rfl rfl rfl rfl ?_
      refine J_gfR (k := 4) jw hj rfl (evn rfl) (by decide) (by decide) (RSa hr rfl) ?_
      refine J_gfI jw hj rfl (evn rfl) (by decide) rfl (fun r1 => ?_)
      refine J_st 53 [rf (g 14), pt a1, pt (H.1 4 11), rvU] (k := 2) jw hj rfl (Or.inr (Or.inr (Or.inl ⟨_, rfl, rfl, rfl⟩))) rfl ?_
      refine J_ld 54 jw hj rfl rfl rfl rfl ?_
      refine J_gfR (k := 4) jw hj rfl (evn rfl) (by decide) (by decide) (RSa hr rfl) ?_
      refine J_callV0 jw rfl (Or.inl ⟨_, rfl⟩) rfl rfl (st_X9_advance (g := g) H (RSt hr)) ?_
      refine J_ld 61 jw hj rfl rfl rfl rfl ?_
      refine J_gfR (k := 4) jw hj rfl (evn rfl) (by decide) (by decide) (RSa (rp_X9_advance H hr) rfl) ?_
      refine J_cst 65 jw hj rfl rfl rfl ?_
      refine J_cst 68 jw hj rfl rfl rfl ?_
      refine J_callV1 jw rfl (Or.inl ⟨_, rfl⟩) rfl rfl (st_X9_passNumber (g := g) 0 999 (f_X9_advance H) (RSt (rp_X9_advance H hr))) ?_
      refine J_st 72 [rf (g 14), pt a1, pt (H.1 4 11), pt ((f_X9_passNumber 0 999 (f_X9_advance H)).1)] (k := 3) jw hj rfl (Or.inr (Or.inr (Or.inl ⟨_, rfl, rfl, rfl⟩))) rfl ?_
      refine J_ld 73 jw hj rfl rfl rfl rfl ?_
      refine J_gfR (k := 60) jw hj rfl (evn rfl) (by decide) (by decide) (RSa (rp_X9_passNumber 0 999 (f_X9_advance H) (rp_X9_advance H hr)) rfl) ?_
      refine J_ld 77 jw hj rfl rfl rfl rfl ?_
      refine J_ld 78 jw hj rfl rfl rfl rfl ?_
      refine J_ld 79 jw hj rfl rfl rfl rfl ?_
      refine J_callV0 jw rfl (Or.inl ⟨_, rfl⟩) rfl rfl (sp_X6_addStep (g := g) a1 (H.1 4 11) ((f_X9_passNumber 0 999 (f_X9_advance H)).1) (f_X9_passNumber 0 999 (f_X9_advance H)).2 (rp_X9_passNumber 0 999 (f_X9_advance H) (rp_X9_advance H hr))) ?_
      refine J_ld 83 jw hj rfl rfl rfl rfl ?_
      refine J_cst 84 jw hj rfl rfl rfl ?_
      refine J_icmp (t := 91) jw hj rfl (evn rfl) rfl (fun (h3 : ((f_X9_passNumber 0 999 (f_X9_advance H)).1) = (-1)) => ?_) (fun (h3 : ¬ ((f_X9_passNumber 0 999 (f_X9_advance H)).1) = (-1)) => ?_)
      · refine J_cst 92 jw hj rfl rfl rfl ?_
        exact J_ret rfl (Or.inl rfl) (fun aw hR => by show _ ∧ _; unfold f_X7_readComparison; rw [if_pos h0, if_neg h2, if_pos h3]; exact ⟨rfl, hR⟩)
      · refine J_cst 88 jw hj rfl rfl rfl ?_
        refine J_goto 92 jw hj rfl rfl ?_
        exact J_ret rfl (Or.inl rfl) (fun aw hR => by show _ ∧ _; unfold f_X7_readComparison; rw [if_pos h0, if_neg h2, if_neg h3]; exact ⟨rfl, hR⟩)
    · refine J_ld 25 jw hj rfl rfl rfl rfl ?_
      refine J_gfR (k := 4) jw hj rfl (evn rfl) (by decide) (by decide) (RSa hr rfl) ?_
      refine J_cst 30 jw hj rfl rfl rfl ?_
      refine J_callV1 jw rfl (Or.inl ⟨_, rfl⟩) rfl rfl (sp_X9_isAtSign (g := g) 62 H) ?_
      refine J_ifc (t := 45) jw hj rfl (evn rfl) rfl (fun (h4 : ¬ f_X9_isAtSign 62 H = 0) => ?_) (fun (h4 : f_X9_isAtSign 62 H = 0) => ?_)
      · refine J_ld 46 jw hj rfl rfl rfl rfl ?_
        refine J_gfR (k := 4) jw hj rfl (evn rfl) (by decide) (by decide) (RSa hr rfl) ?_
        refine J_gfI jw hj rfl (evn rfl) (by decide) rfl (fun r2 => ?_)
        refine J_st 53 [rf (g 14), pt a1, pt (H.1 4 11), rvU] (k := 2) jw hj rfl (Or.inr (Or.inr (Or.inl ⟨_, rfl, rfl, rfl⟩))) rfl ?_
        refine J_ld 54 jw hj rfl rfl rfl rfl ?_
        refine J_gfR (k := 4) jw hj rfl (evn rfl) (by decide) (by decide) (RSa hr rfl) ?_
        refine J_callV0 jw rfl (Or.inl ⟨_, rfl⟩) rfl rfl (st_X9_advance (g := g) H (RSt hr)) ?_
        refine J_ld 61 jw hj rfl rfl rfl rfl ?_
        refine J_gfR (k := 4) jw hj rfl (evn rfl) (by decide) (by decide) (RSa (rp_X9_advance H hr) rfl) ?_
        refine J_cst 65 jw hj rfl rfl rfl ?_
        refine J_cst 68 jw hj rfl rfl rfl ?_
        refine J_callV1 jw rfl (Or.inl ⟨_, rfl⟩) rfl rfl (st_X9_passNumber (g := g) 0 999 (f_X9_advance H) (RSt (rp_X9_advance H hr))) ?_
        refine J_st 72 [rf (g 14), pt a1, pt (H.1 4 11), pt ((f_X9_passNumber 0 999 (f_X9_advance H)).1)] (k := 3) jw hj rfl (Or.inr (Or.inr (Or.inl ⟨_, rfl, rfl, rfl⟩))) rfl ?_
        refine J_ld 73 jw hj rfl rfl rfl rfl ?_
        refine J_gfR (k := 60) jw hj rfl (evn rfl) (by decide) (by decide) (RSa (rp_X9_passNumber 0 999 (f_X9_advance H) (rp_X9_advance H hr)) rfl) ?_
        refine J_ld 77 jw hj rfl rfl rfl rfl ?_
        refine J_ld 78 jw hj rfl rfl rfl rfl ?_
        refine J_ld 79 jw hj rfl rfl rfl rfl ?_
        refine J_callV0 jw rfl (Or.inl ⟨_, rfl⟩) rfl rfl (sp_X6_addStep (g := g) a1 (H.1 4 11) ((f_X9_passNumber 0 999 (f_X9_advance H)).1) (f_X9_passNumber 0 999 (f_X9_advance H)).2 (rp_X9_passNumber 0 999 (f_X9_advance H) (rp_X9_advance H hr))) ?_
        refine J_ld 83 jw hj rfl rfl rfl rfl ?_
        refine J_cst 84 jw hj rfl rfl rfl ?_
        refine J_icmp (t := 91) jw hj rfl (evn rfl) rfl (fun (h5 : ((f_X9_passNumber 0 999 (f_X9_advance H)).1) = (-1)) => ?_) (fun (h5 : ¬ ((f_X9_passNumber 0 999 (f_X9_advance H)).1) = (-1)) => ?_)
        · refine J_cst 92 jw hj rfl rfl rfl ?_
          exact J_ret rfl (Or.inl rfl) (fun aw hR => by show _ ∧ _; unfold f_X7_readComparison; rw [if_pos h0, if_pos h2, if_neg h4, if_pos h5]; exact ⟨rfl, hR⟩)
        · refine J_cst 88 jw hj rfl rfl rfl ?_
          refine J_goto 92 jw hj rfl rfl ?_
          exact J_ret rfl (Or.inl rfl) (fun aw hR => by show _ ∧ _; unfold f_X7_readComparison; rw [if_pos h0, if_pos h2, if_neg h4, if_neg h5]; exact ⟨rfl, hR⟩)
      · refine J_ld 37 jw hj rfl rfl rfl rfl ?_
        refine J_gfR (k := 4) jw hj rfl (evn rfl) (by decide) (by decide) (RSa hr rfl) ?_
        refine J_cst 41 jw hj rfl rfl rfl ?_
        refine J_callV1 jw rfl (Or.inl ⟨_, rfl⟩) rfl rfl (st_X9_fail (g := g) 1 H (RSt hr)) ?_
        exact J_ret rfl (Or.inl rfl) (fun aw hR => by show _ ∧ _; unfold f_X7_readComparison; rw [if_pos h0, if_pos h2, if_pos h4]; exact ⟨rfl, hR⟩)
theorem rp_X7_readComparison {P : (Nat → Nat → Option Nat) → Prop} (a1 : Int) (H : hH) (hr : P H.2.2.1) : P (f_X7_readComparison a1 H).2.2.2.1 := by
  unfold f_X7_readComparison
  by_cases q1 : f_X9_isAtSign 60 H = 0
  · rw [if_pos q1]
    by_cases q2 : f_X9_isAtSign 61 H = 0
    · rw [if_pos q2]
      by_cases q3 : f_X9_isAtSign 62 H = 0
      · rw [if_pos q3]
        exact (rp_X9_fail 1 H hr)
      · rw [if_neg q3]
        by_cases q4 : ((f_X9_passNumber 0 999 (f_X9_advance H)).1) = (-1)
        · rw [if_pos q4]
          exact (rp_X6_addStep a1 (H.1 4 11) ((f_X9_passNumber 0 999 (f_X9_advance H)).1) (f_X9_passNumber 0 999 (f_X9_advance H)).2 (rp_X9_passNumber 0 999 (f_X9_advance H) (rp_X9_advance H hr)))
        · rw [if_neg q4]
          exact (rp_X6_addStep a1 (H.1 4 11) ((f_X9_passNumber 0 999 (f_X9_advance H)).1) (f_X9_passNumber 0 999 (f_X9_advance H)).2 (rp_X9_passNumber 0 999 (f_X9_advance H) (rp_X9_advance H hr)))
    · rw [if_neg q2]
      by_cases q3 : ((f_X9_passNumber 0 999 (f_X9_advance H)).1) = (-1)
      · rw [if_pos q3]
        exact (rp_X6_addStep a1 (H.1 4 11) ((f_X9_passNumber 0 999 (f_X9_advance H)).1) (f_X9_passNumber 0 999 (f_X9_advance H)).2 (rp_X9_passNumber 0 999 (f_X9_advance H) (rp_X9_advance H hr)))
      · rw [if_neg q3]
        exact (rp_X6_addStep a1 (H.1 4 11) ((f_X9_passNumber 0 999 (f_X9_advance H)).1) (f_X9_passNumber 0 999 (f_X9_advance H)).2 (rp_X9_passNumber 0 999 (f_X9_advance H) (rp_X9_advance H hr)))
  · rw [if_neg q1]
    by_cases q2 : ((f_X9_passNumber 0 999 (f_X9_advance H)).1) = (-1)
    · rw [if_pos q2]
      exact (rp_X6_addStep a1 (H.1 4 11) ((f_X9_passNumber 0 999 (f_X9_advance H)).1) (f_X9_passNumber 0 999 (f_X9_advance H)).2 (rp_X9_passNumber 0 999 (f_X9_advance H) (rp_X9_advance H hr)))
    · rw [if_neg q2]
      exact (rp_X6_addStep a1 (H.1 4 11) ((f_X9_passNumber 0 999 (f_X9_advance H)).1) (f_X9_passNumber 0 999 (f_X9_advance H)).2 (rp_X9_passNumber 0 999 (f_X9_advance H) (rp_X9_advance H hr)))
def f_X7_one0  (H : hH) : Int × hH :=
  if f_X9_isAtSign 40 H = 0 then
    if H.1 4 10 = 4 then
      if f_X7_beginsOne (H.1 4 11) = 0 then
        ((f_X9_fail 1 H).1, (f_X9_fail 1 H).2)
      else
        if H.1 14 3 < 20 then
          ((f_X9_fail 4 H).1, (f_X9_fail 4 H).2)
        else
          ((f_X9_fail 4 H).1, (f_X9_fail 4 H).2)
    else
      ((f_X9_fail 1 H).1, (f_X9_fail 1 H).2)
  else
    if H.1 14 3 < 20 then
      ((f_X9_fail 4 H).1, (f_X9_fail 4 H).2)
    else
      ((f_X9_fail 4 H).1, (f_X9_fail 4 H).2)
set_option maxHeartbeats 16000000 in
set_option maxRecDepth 100000 in
theorem sp_X7_one0 {g : Nat → Nat}  (H : hH) (hr : RS H.2.2.1) : SP g rvTab rvInf rvRet 316 rvMth 91 [rf (g 14), pt 9] H (some (pt (f_X7_one0 H).1)) (f_X7_one0 H).2 := by
  have hj : 91 < 316 := by decide
  refine J_SP hj (Nat.le_of_ble_eq_true rfl) ?_
  show J g rvTab rvInf rvRet 316 rvMth 91 _ 0 [rf (g 14), pt 9, rvU, rvU, rvU] [] H
  refine J_ld 1 jw hj rfl rfl rfl rfl ?_
  refine J_gfR (k := 4) jw hj rfl (evn rfl) (by decide) (by decide) (RSa hr rfl) ?_
  refine J_cst 6 jw hj rfl rfl rfl ?_
  refine J_callV1 jw rfl (Or.inl ⟨_, rfl⟩) rfl rfl (sp_X9_isAtSign (g := g) 40 H) ?_
  refine J_st 10 [rf (g 14), pt 9, pt (f_X9_isAtSign 40 H), rvU, rvU] (k := 2) jw hj rfl (Or.inr (Or.inr (Or.inl ⟨_, rfl, rfl, rfl⟩))) rfl ?_
  refine J_ld 11 jw hj rfl rfl rfl rfl ?_
  refine J_gfR (k := 4) jw hj rfl (evn rfl) (by decide) (by decide) (RSa hr rfl) ?_
  refine J_gfI jw hj rfl (evn rfl) (by decide) rfl (fun r0 => ?_)
  refine J_st 18 [rf (g 14), pt 9, pt (f_X9_isAtSign 40 H), pt (H.1 4 11), rvU] (k := 3) jw hj rfl (Or.inr (Or.inr (Or.inl ⟨_, rfl, rfl, rfl⟩))) rfl ?_
  refine J_ld 19 jw hj rfl rfl rfl rfl ?_
  refine J_ifc (t := 49) jw hj rfl (evn rfl) rfl (fun (h0 : ¬ f_X9_isAtSign 40 H = 0) => ?_) (fun (h0 : f_X9_isAtSign 40 H = 0) => ?_)
  · refine J_ld 50 jw hj rfl rfl rfl rfl ?_
    refine J_gfI jw hj rfl (evn rfl) (by decide) rfl (fun r1 => ?_)
    refine J_cst 55 jw hj rfl rfl rfl ?_
    refine J_icmp (t := 64) jw hj rfl (evn rfl) rfl (fun (h1 : ¬ H.1 14 3 < 20) => ?_) (fun (h1 : H.1 14 3 < 20) => ?_)
    · refine J_ld 65 jw hj rfl rfl rfl rfl ?_
      refine J_gfR (k := 4) jw hj rfl (evn rfl) (by decide) (by decide) (RSa hr rfl) ?_
      refine J_cst 69 jw hj rfl rfl rfl ?_
      refine J_callV1 jw rfl (Or.inl ⟨_, rfl⟩) rfl rfl (st_X9_fail (g := g) 4 H (RSt hr)) ?_
      exact J_ret rfl (Or.inl rfl) (fun aw hR => by show _ ∧ _; unfold f_X7_one0; rw [if_neg h0, if_neg h1]; exact ⟨rfl, hR⟩)
    · refine J_ld 59 jw hj rfl rfl rfl rfl ?_
      refine J_cst 61 jw hj rfl rfl rfl ?_
      refine J_icmp (t := 73) jw hj rfl (evn rfl) rfl (fun (h2 : ¬ (8 : Int) < (9 : Int)) => absurd h2 (by decide)) (fun (h2 : (8 : Int) < (9 : Int)) => ?_)
      refine J_ld 65 jw hj rfl rfl rfl rfl ?_
      refine J_gfR (k := 4) jw hj rfl (evn rfl) (by decide) (by decide) (RSa hr rfl) ?_
      refine J_cst 69 jw hj rfl rfl rfl ?_
      refine J_callV1 jw rfl (Or.inl ⟨_, rfl⟩) rfl rfl (st_X9_fail (g := g) 4 H (RSt hr)) ?_
      exact J_ret rfl (Or.inl rfl) (fun aw hR => by show _ ∧ _; unfold f_X7_one0; rw [if_neg h0, if_pos h1]; exact ⟨rfl, hR⟩)
  · refine J_ld 23 jw hj rfl rfl rfl rfl ?_
    refine J_gfR (k := 4) jw hj rfl (evn rfl) (by decide) (by decide) (RSa hr rfl) ?_
    refine J_gfI jw hj rfl (evn rfl) (by decide) rfl (fun r2 => ?_)
    refine J_cst 30 jw hj rfl rfl rfl ?_
    refine J_icmp (t := 40) jw hj rfl (evn rfl) rfl (fun (h3 : ¬ H.1 4 10 = 4) => ?_) (fun (h3 : H.1 4 10 = 4) => ?_)
    · refine J_ld 41 jw hj rfl rfl rfl rfl ?_
      refine J_gfR (k := 4) jw hj rfl (evn rfl) (by decide) (by decide) (RSa hr rfl) ?_
      refine J_cst 45 jw hj rfl rfl rfl ?_
      refine J_callV1 jw rfl (Or.inl ⟨_, rfl⟩) rfl rfl (st_X9_fail (g := g) 1 H (RSt hr)) ?_
      exact J_ret rfl (Or.inl rfl) (fun aw hR => by show _ ∧ _; unfold f_X7_one0; rw [if_pos h0, if_neg h3]; exact ⟨rfl, hR⟩)
    · refine J_ld 34 jw hj rfl rfl rfl rfl ?_
      refine J_callS1 jw rfl rfl rfl rfl (sp_X7_beginsOne (g := g) (H.1 4 11) H) ?_
      refine J_ifc (t := 49) jw hj rfl (evn rfl) rfl (fun (h4 : ¬ f_X7_beginsOne (H.1 4 11) = 0) => ?_) (fun (h4 : f_X7_beginsOne (H.1 4 11) = 0) => ?_)
      · refine J_ld 50 jw hj rfl rfl rfl rfl ?_
        refine J_gfI jw hj rfl (evn rfl) (by decide) rfl (fun r3 => ?_)
        refine J_cst 55 jw hj rfl rfl rfl ?_
        refine J_icmp (t := 64) jw hj rfl (evn rfl) rfl (fun (h5 : ¬ H.1 14 3 < 20) => ?_) (fun (h5 : H.1 14 3 < 20) => ?_)
        · refine J_ld 65 jw hj rfl rfl rfl rfl ?_
          refine J_gfR (k := 4) jw hj rfl (evn rfl) (by decide) (by decide) (RSa hr rfl) ?_
          refine J_cst 69 jw hj rfl rfl rfl ?_
          refine J_callV1 jw rfl (Or.inl ⟨_, rfl⟩) rfl rfl (st_X9_fail (g := g) 4 H (RSt hr)) ?_
          exact J_ret rfl (Or.inl rfl) (fun aw hR => by show _ ∧ _; unfold f_X7_one0; rw [if_pos h0, if_pos h3, if_neg h4, if_neg h5]; exact ⟨rfl, hR⟩)
        · refine J_ld 59 jw hj rfl rfl rfl rfl ?_
          refine J_cst 61 jw hj rfl rfl rfl ?_
          refine J_icmp (t := 73) jw hj rfl (evn rfl) rfl (fun (h6 : ¬ (8 : Int) < (9 : Int)) => absurd h6 (by decide)) (fun (h6 : (8 : Int) < (9 : Int)) => ?_)
          refine J_ld 65 jw hj rfl rfl rfl rfl ?_
          refine J_gfR (k := 4) jw hj rfl (evn rfl) (by decide) (by decide) (RSa hr rfl) ?_
          refine J_cst 69 jw hj rfl rfl rfl ?_
          refine J_callV1 jw rfl (Or.inl ⟨_, rfl⟩) rfl rfl (st_X9_fail (g := g) 4 H (RSt hr)) ?_
          exact J_ret rfl (Or.inl rfl) (fun aw hR => by show _ ∧ _; unfold f_X7_one0; rw [if_pos h0, if_pos h3, if_neg h4, if_pos h5]; exact ⟨rfl, hR⟩)
      · refine J_ld 41 jw hj rfl rfl rfl rfl ?_
        refine J_gfR (k := 4) jw hj rfl (evn rfl) (by decide) (by decide) (RSa hr rfl) ?_
        refine J_cst 45 jw hj rfl rfl rfl ?_
        refine J_callV1 jw rfl (Or.inl ⟨_, rfl⟩) rfl rfl (st_X9_fail (g := g) 1 H (RSt hr)) ?_
        exact J_ret rfl (Or.inl rfl) (fun aw hR => by show _ ∧ _; unfold f_X7_one0; rw [if_pos h0, if_pos h3, if_pos h4]; exact ⟨rfl, hR⟩)
theorem rp_X7_one0 {P : (Nat → Nat → Option Nat) → Prop}  (H : hH) (hr : P H.2.2.1) : P (f_X7_one0 H).2.2.2.1 := by
  unfold f_X7_one0
  by_cases q1 : f_X9_isAtSign 40 H = 0
  · rw [if_pos q1]
    by_cases q2 : H.1 4 10 = 4
    · rw [if_pos q2]
      by_cases q3 : f_X7_beginsOne (H.1 4 11) = 0
      · rw [if_pos q3]
        exact (rp_X9_fail 1 H hr)
      · rw [if_neg q3]
        by_cases q4 : H.1 14 3 < 20
        · rw [if_pos q4]
          exact (rp_X9_fail 4 H hr)
        · rw [if_neg q4]
          exact (rp_X9_fail 4 H hr)
    · rw [if_neg q2]
      exact (rp_X9_fail 1 H hr)
  · rw [if_neg q1]
    by_cases q2 : H.1 14 3 < 20
    · rw [if_pos q2]
      exact (rp_X9_fail 4 H hr)
    · rw [if_neg q2]
      exact (rp_X9_fail 4 H hr)
theorem one0_0 (H : hH) : (f_X7_one0 H).1 = 0 := by
  unfold f_X7_one0
  repeat' split
  all_goals rfl
def f_X7_all0  (H : hH) : Int × hH :=
  if ((f_X7_one0 H).1) = 0 then
    (0, (f_X7_one0 H).2)
  else
    (0, (f_X7_one0 H).2)
set_option maxHeartbeats 16000000 in
set_option maxRecDepth 100000 in
theorem sp_X7_all0 {g : Nat → Nat}  (H : hH) (hr : RS H.2.2.1) : SP g rvTab rvInf rvRet 316 rvMth 92 [rf (g 14), pt 9] H (some (pt (f_X7_all0 H).1)) (f_X7_all0 H).2 := by
  have hj : 92 < 316 := by decide
  refine J_SP hj (Nat.le_of_ble_eq_true rfl) ?_
  show J g rvTab rvInf rvRet 316 rvMth 92 _ 0 [rf (g 14), pt 9, rvU] [] H
  refine J_ld 1 jw hj rfl rfl rfl rfl ?_
  refine J_ld 2 jw hj rfl rfl rfl rfl ?_
  refine J_callV1 jw rfl (Or.inl ⟨_, rfl⟩) rfl rfl (sp_X7_one0 (g := g) H hr) ?_
  refine J_ifc (t := 10) jw hj rfl (evn rfl) rfl (fun (h0 : ¬ ((f_X7_one0 H).1) = 0) => ?_) (fun (h0 : ((f_X7_one0 H).1) = 0) => ?_)
  · refine J_cst 11 jw hj rfl rfl rfl ?_
    refine J_st 12 [rf (g 14), pt 9, pt 0] (k := 2) jw hj rfl (Or.inr (Or.inr (Or.inl ⟨_, rfl, rfl, rfl⟩))) rfl ?_
    refine J_ld 13 jw hj rfl rfl rfl rfl ?_
    refine J_cst 16 jw hj rfl rfl rfl ?_
    refine J_icmp (t := 65) jw hj rfl (evn rfl) rfl (fun (h1 : ¬ (0 : Int) < (200 : Int)) => absurd h1 (by decide)) (fun (h1 : (0 : Int) < (200 : Int)) => ?_)
    refine J_ld 20 jw hj rfl rfl rfl rfl ?_
    refine J_gfR (k := 4) jw hj rfl (evn rfl) (by decide) (by decide) (RSa (rp_X7_one0 H hr) rfl) ?_
    refine J_cst 25 jw hj rfl rfl rfl ?_
    exact absurd (one0_0 _) h0
  · refine J_cst 9 jw hj rfl rfl rfl ?_
    exact J_ret rfl (Or.inl rfl) (fun aw hR => by show _ ∧ _; unfold f_X7_all0; rw [if_pos h0]; exact ⟨rfl, hR⟩)
theorem rp_X7_all0 {P : (Nat → Nat → Option Nat) → Prop}  (H : hH) (hr : P H.2.2.1) : P (f_X7_all0 H).2.2.2.1 := by
  unfold f_X7_all0
  by_cases q1 : ((f_X7_one0 H).1) = 0
  · rw [if_pos q1]
    exact (rp_X7_one0 H hr)
  · rw [if_neg q1]
    exact (rp_X7_one0 H hr)
theorem all0_0 (H : hH) : (f_X7_all0 H).1 = 0 := by
  unfold f_X7_all0
  split <;> rfl
def f_X7_cond0  (H : hH) : Int × hH :=
  if ((f_X7_all0 H).1) = 0 then
    (0, (f_X7_all0 H).2)
  else
    (0, (f_X7_all0 H).2)
set_option maxHeartbeats 16000000 in
set_option maxRecDepth 100000 in
theorem sp_X7_cond0 {g : Nat → Nat}  (H : hH) (hr : RS H.2.2.1) : SP g rvTab rvInf rvRet 316 rvMth 93 [rf (g 14), pt 9] H (some (pt (f_X7_cond0 H).1)) (f_X7_cond0 H).2 := by
  have hj : 93 < 316 := by decide
  refine J_SP hj (Nat.le_of_ble_eq_true rfl) ?_
  show J g rvTab rvInf rvRet 316 rvMth 93 _ 0 [rf (g 14), pt 9, rvU] [] H
  refine J_ld 1 jw hj rfl rfl rfl rfl ?_
  refine J_ld 2 jw hj rfl rfl rfl rfl ?_
  refine J_callV1 jw rfl (Or.inl ⟨_, rfl⟩) rfl rfl (sp_X7_all0 (g := g) H hr) ?_
  refine J_ifc (t := 10) jw hj rfl (evn rfl) rfl (fun (h0 : ¬ ((f_X7_all0 H).1) = 0) => ?_) (fun (h0 : ((f_X7_all0 H).1) = 0) => ?_)
  · refine J_cst 11 jw hj rfl rfl rfl ?_
    refine J_st 12 [rf (g 14), pt 9, pt 0] (k := 2) jw hj rfl (Or.inr (Or.inr (Or.inl ⟨_, rfl, rfl, rfl⟩))) rfl ?_
    refine J_ld 13 jw hj rfl rfl rfl rfl ?_
    refine J_cst 16 jw hj rfl rfl rfl ?_
    refine J_icmp (t := 65) jw hj rfl (evn rfl) rfl (fun (h1 : ¬ (0 : Int) < (200 : Int)) => absurd h1 (by decide)) (fun (h1 : (0 : Int) < (200 : Int)) => ?_)
    refine J_ld 20 jw hj rfl rfl rfl rfl ?_
    refine J_gfR (k := 4) jw hj rfl (evn rfl) (by decide) (by decide) (RSa (rp_X7_all0 H hr) rfl) ?_
    refine J_cst 25 jw hj rfl rfl rfl ?_
    exact absurd (all0_0 _) h0
  · refine J_cst 9 jw hj rfl rfl rfl ?_
    exact J_ret rfl (Or.inl rfl) (fun aw hR => by show _ ∧ _; unfold f_X7_cond0; rw [if_pos h0]; exact ⟨rfl, hR⟩)
theorem rp_X7_cond0 {P : (Nat → Nat → Option Nat) → Prop}  (H : hH) (hr : P H.2.2.1) : P (f_X7_cond0 H).2.2.2.1 := by
  unfold f_X7_cond0
  by_cases q1 : ((f_X7_all0 H).1) = 0
  · rw [if_pos q1]
    exact (rp_X7_all0 H hr)
  · rw [if_neg q1]
    exact (rp_X7_all0 H hr)
theorem cond0_0 (H : hH) : (f_X7_cond0 H).1 = 0 := by
  unfold f_X7_cond0
  split <;> rfl
def f_X7_one1  (H : hH) : Int × hH :=
  if f_X9_isAtSign 40 H = 0 then
    if H.1 4 10 = 4 then
      if f_X7_beginsOne (H.1 4 11) = 0 then
        ((f_X9_fail 1 H).1, (f_X9_fail 1 H).2)
      else
        if H.1 14 3 < 20 then
          if f_X9_isAtSign 40 H = 0 then
            if H.1 4 11 = 18 then
              ((f_X7_one0 (f_X9_advance (upI H 14 3 (iAdd (H.1 14 3) 1)))).1, (f_X6_addStep 18 0 0 (f_X7_one0 (f_X9_advance (upI H 14 3 (iAdd (H.1 14 3) 1)))).2))
            else
              if H.1 4 11 = 5 then
                ((f_X7_readNamed (H.1 4 11) 3 (f_X9_advance (upI H 14 3 (iAdd (H.1 14 3) 1)))).1, (f_X7_readNamed (H.1 4 11) 3 (f_X9_advance (upI H 14 3 (iAdd (H.1 14 3) 1)))).2)
              else
                if H.1 4 11 = 19 then
                  ((f_X7_readNamed (H.1 4 11) 0 (f_X9_advance (upI H 14 3 (iAdd (H.1 14 3) 1)))).1, (f_X7_readNamed (H.1 4 11) 0 (f_X9_advance (upI H 14 3 (iAdd (H.1 14 3) 1)))).2)
                else
                  if H.1 4 11 = 4 then
                    ((f_X7_readNamed (H.1 4 11) 1 (f_X9_advance (upI H 14 3 (iAdd (H.1 14 3) 1)))).1, (f_X7_readNamed (H.1 4 11) 1 (f_X9_advance (upI H 14 3 (iAdd (H.1 14 3) 1)))).2)
                  else
                    if H.1 4 11 = 20 ∨ H.1 4 11 = 21 ∨ H.1 4 11 = 22 then
                      ((f_X7_readComparison (H.1 4 11) (f_X9_advance (upI H 14 3 (iAdd (H.1 14 3) 1)))).1, (f_X7_readComparison (H.1 4 11) (f_X9_advance (upI H 14 3 (iAdd (H.1 14 3) 1)))).2)
                    else
                      (1, (f_X6_addStep (H.1 4 11) 0 0 (f_X9_advance (upI H 14 3 (iAdd (H.1 14 3) 1)))))
          else
            if ((f_X7_cond0 (f_X9_advance (upI H 14 3 (iAdd (H.1 14 3) 1)))).1) = 0 then
              (0, (f_X7_cond0 (f_X9_advance (upI H 14 3 (iAdd (H.1 14 3) 1)))).2)
            else
              (0, (f_X7_cond0 (f_X9_advance (upI H 14 3 (iAdd (H.1 14 3) 1)))).2)
        else
          ((f_X9_fail 4 H).1, (f_X9_fail 4 H).2)
    else
      ((f_X9_fail 1 H).1, (f_X9_fail 1 H).2)
  else
    if H.1 14 3 < 20 then
      if f_X9_isAtSign 40 H = 0 then
        if H.1 4 11 = 18 then
          ((f_X7_one0 (f_X9_advance (upI H 14 3 (iAdd (H.1 14 3) 1)))).1, (f_X6_addStep 18 0 0 (f_X7_one0 (f_X9_advance (upI H 14 3 (iAdd (H.1 14 3) 1)))).2))
        else
          if H.1 4 11 = 5 then
            ((f_X7_readNamed (H.1 4 11) 3 (f_X9_advance (upI H 14 3 (iAdd (H.1 14 3) 1)))).1, (f_X7_readNamed (H.1 4 11) 3 (f_X9_advance (upI H 14 3 (iAdd (H.1 14 3) 1)))).2)
          else
            if H.1 4 11 = 19 then
              ((f_X7_readNamed (H.1 4 11) 0 (f_X9_advance (upI H 14 3 (iAdd (H.1 14 3) 1)))).1, (f_X7_readNamed (H.1 4 11) 0 (f_X9_advance (upI H 14 3 (iAdd (H.1 14 3) 1)))).2)
            else
              if H.1 4 11 = 4 then
                ((f_X7_readNamed (H.1 4 11) 1 (f_X9_advance (upI H 14 3 (iAdd (H.1 14 3) 1)))).1, (f_X7_readNamed (H.1 4 11) 1 (f_X9_advance (upI H 14 3 (iAdd (H.1 14 3) 1)))).2)
              else
                if H.1 4 11 = 20 ∨ H.1 4 11 = 21 ∨ H.1 4 11 = 22 then
                  ((f_X7_readComparison (H.1 4 11) (f_X9_advance (upI H 14 3 (iAdd (H.1 14 3) 1)))).1, (f_X7_readComparison (H.1 4 11) (f_X9_advance (upI H 14 3 (iAdd (H.1 14 3) 1)))).2)
                else
                  (1, (f_X6_addStep (H.1 4 11) 0 0 (f_X9_advance (upI H 14 3 (iAdd (H.1 14 3) 1)))))
      else
        if ((f_X7_cond0 (f_X9_advance (upI H 14 3 (iAdd (H.1 14 3) 1)))).1) = 0 then
          (0, (f_X7_cond0 (f_X9_advance (upI H 14 3 (iAdd (H.1 14 3) 1)))).2)
        else
          (0, (f_X7_cond0 (f_X9_advance (upI H 14 3 (iAdd (H.1 14 3) 1)))).2)
    else
      ((f_X9_fail 4 H).1, (f_X9_fail 4 H).2)
set_option maxHeartbeats 16000000 in
set_option maxRecDepth 100000 in
theorem sp_X7_one1 {g : Nat → Nat}  (H : hH) (hr : RS H.2.2.1) : SP g rvTab rvInf rvRet 316 rvMth 94 [rf (g 14), pt 8] H (some (pt (f_X7_one1 H).1)) (f_X7_one1 H).2 := by
  have hj : 94 < 316 := by decide
  refine J_SP hj (Nat.le_of_ble_eq_true rfl) ?_
  show J g rvTab rvInf rvRet 316 rvMth 94 _ 0 [rf (g 14), pt 8, rvU, rvU, rvU] [] H
  refine J_ld 1 jw hj rfl rfl rfl rfl ?_
  refine J_gfR (k := 4) jw hj rfl (evn rfl) (by decide) (by decide) (RSa hr rfl) ?_
  refine J_cst 6 jw hj rfl rfl rfl ?_
  refine J_callV1 jw rfl (Or.inl ⟨_, rfl⟩) rfl rfl (sp_X9_isAtSign (g := g) 40 H) ?_
  refine J_st 10 [rf (g 14), pt 8, pt (f_X9_isAtSign 40 H), rvU, rvU] (k := 2) jw hj rfl (Or.inr (Or.inr (Or.inl ⟨_, rfl, rfl, rfl⟩))) rfl ?_
  refine J_ld 11 jw hj rfl rfl rfl rfl ?_
  refine J_gfR (k := 4) jw hj rfl (evn rfl) (by decide) (by decide) (RSa hr rfl) ?_
  refine J_gfI jw hj rfl (evn rfl) (by decide) rfl (fun r0 => ?_)
  refine J_st 18 [rf (g 14), pt 8, pt (f_X9_isAtSign 40 H), pt (H.1 4 11), rvU] (k := 3) jw hj rfl (Or.inr (Or.inr (Or.inl ⟨_, rfl, rfl, rfl⟩))) rfl ?_
  refine J_ld 19 jw hj rfl rfl rfl rfl ?_
  refine J_ifc (t := 49) jw hj rfl (evn rfl) rfl (fun (h0 : ¬ f_X9_isAtSign 40 H = 0) => ?_) (fun (h0 : f_X9_isAtSign 40 H = 0) => ?_)
  · refine J_ld 50 jw hj rfl rfl rfl rfl ?_
    refine J_gfI jw hj rfl (evn rfl) (by decide) rfl (fun r1 => ?_)
    refine J_cst 55 jw hj rfl rfl rfl ?_
    refine J_icmp (t := 64) jw hj rfl (evn rfl) rfl (fun (h1 : ¬ H.1 14 3 < 20) => ?_) (fun (h1 : H.1 14 3 < 20) => ?_)
    · refine J_ld 65 jw hj rfl rfl rfl rfl ?_
      refine J_gfR (k := 4) jw hj rfl (evn rfl) (by decide) (by decide) (RSa hr rfl) ?_
      refine J_cst 69 jw hj rfl rfl rfl ?_
      refine J_callV1 jw rfl (Or.inl ⟨_, rfl⟩) rfl rfl (st_X9_fail (g := g) 4 H (RSt hr)) ?_
      exact J_ret rfl (Or.inl rfl) (fun aw hR => by show _ ∧ _; unfold f_X7_one1; rw [if_neg h0, if_neg h1]; exact ⟨rfl, hR⟩)
    · refine J_ld 59 jw hj rfl rfl rfl rfl ?_
      refine J_cst 61 jw hj rfl rfl rfl ?_
      refine J_icmp (t := 73) jw hj rfl (evn rfl) rfl (fun (h2 : ¬ (8 : Int) < (8 : Int)) => ?_) (fun (h2 : (8 : Int) < (8 : Int)) => absurd h2 (by decide))
      refine J_ld 74 jw hj rfl rfl rfl rfl ?_
      refine J_dup 75 jw hj rfl rfl ?_
      refine J_gfI jw hj rfl (evn rfl) (by decide) rfl (fun r2 => ?_)
      refine J_cst 79 jw hj rfl rfl rfl ?_
      refine J_bin jw hj rfl rfl ?_
      refine J_pfI jw hj rfl (evn rfl) rfl ?_
      refine J_ld 84 jw hj rfl rfl rfl rfl ?_
      refine J_gfR (k := 4) jw hj rfl (evn rfl) (by decide) (by decide) (RSa hr rfl) ?_
      refine J_callV0 jw rfl (Or.inl ⟨_, rfl⟩) rfl rfl (st_X9_advance (g := g) (upI H 14 3 (iAdd (H.1 14 3) 1)) (RSt hr)) ?_
      refine J_ld 91 jw hj rfl rfl rfl rfl ?_
      refine J_ifc (t := 122) jw hj rfl (evn rfl) rfl (fun (h3 : f_X9_isAtSign 40 H = 0) => ?_) (fun (h3 : ¬ f_X9_isAtSign 40 H = 0) => ?_)
      · refine J_ld 123 jw hj rfl rfl rfl rfl ?_
        refine J_cst 125 jw hj rfl rfl rfl ?_
        refine J_icmp (t := 151) jw hj rfl (evn rfl) rfl (fun (h4 : ¬ H.1 4 11 = 18) => ?_) (fun (h4 : H.1 4 11 = 18) => ?_)
        · refine J_ld 152 jw hj rfl rfl rfl rfl ?_
          refine J_swR jw hj rfl (fun (h5 : H.1 4 11 = 5) => ?_) (fun (h5 : H.1 4 11 = 19) => ?_) (fun (h5 : H.1 4 11 = 4) => ?_) (fun (h5 : H.1 4 11 = 20 ∨ H.1 4 11 = 21 ∨ H.1 4 11 = 22) => ?_) (fun h5 h5_b h5_c h5_d => ?_)
          · refine J_ld 245 jw hj rfl rfl rfl rfl ?_
            refine J_ld 246 jw hj rfl rfl rfl rfl ?_
            refine J_cst 247 jw hj rfl rfl rfl ?_
            refine J_callV1 jw rfl (Or.inl ⟨_, rfl⟩) rfl rfl (sp_X7_readNamed (g := g) (H.1 4 11) 3 (f_X9_advance (upI H 14 3 (iAdd (H.1 14 3) 1))) (rp_X9_advance (upI H 14 3 (iAdd (H.1 14 3) 1)) hr)) ?_
            exact J_ret rfl (Or.inl rfl) (fun aw hR => by show _ ∧ _; unfold f_X7_one1; rw [if_neg h0, if_pos h1, if_pos h3, if_neg h4, if_pos h5]; exact ⟨rfl, hR⟩)
          · refine J_ld 252 jw hj rfl rfl rfl rfl ?_
            refine J_ld 253 jw hj rfl rfl rfl rfl ?_
            refine J_cst 254 jw hj rfl rfl rfl ?_
            refine J_callV1 jw rfl (Or.inl ⟨_, rfl⟩) rfl rfl (sp_X7_readNamed (g := g) (H.1 4 11) 0 (f_X9_advance (upI H 14 3 (iAdd (H.1 14 3) 1))) (rp_X9_advance (upI H 14 3 (iAdd (H.1 14 3) 1)) hr)) ?_
            exact J_ret rfl (Or.inl rfl) (fun aw hR => by show _ ∧ _; unfold f_X7_one1; rw [if_neg h0, if_pos h1, if_pos h3, if_neg h4, if_neg (show ¬ (H.1 4 11 = 5) by omega), if_pos h5]; exact ⟨rfl, hR⟩)
          · refine J_ld 259 jw hj rfl rfl rfl rfl ?_
            refine J_ld 260 jw hj rfl rfl rfl rfl ?_
            refine J_cst 261 jw hj rfl rfl rfl ?_
            refine J_callV1 jw rfl (Or.inl ⟨_, rfl⟩) rfl rfl (sp_X7_readNamed (g := g) (H.1 4 11) 1 (f_X9_advance (upI H 14 3 (iAdd (H.1 14 3) 1))) (rp_X9_advance (upI H 14 3 (iAdd (H.1 14 3) 1)) hr)) ?_
            exact J_ret rfl (Or.inl rfl) (fun aw hR => by show _ ∧ _; unfold f_X7_one1; rw [if_neg h0, if_pos h1, if_pos h3, if_neg h4, if_neg (show ¬ (H.1 4 11 = 5) by omega), if_neg (show ¬ (H.1 4 11 = 19) by omega), if_pos h5]; exact ⟨rfl, hR⟩)
          · refine J_ld 266 jw hj rfl rfl rfl rfl ?_
            refine J_ld 267 jw hj rfl rfl rfl rfl ?_
            refine J_callV1 jw rfl (Or.inl ⟨_, rfl⟩) rfl rfl (sp_X7_readComparison (g := g) (H.1 4 11) (f_X9_advance (upI H 14 3 (iAdd (H.1 14 3) 1))) (rp_X9_advance (upI H 14 3 (iAdd (H.1 14 3) 1)) hr)) ?_
            exact J_ret rfl (Or.inl rfl) (fun aw hR => by show _ ∧ _; unfold f_X7_one1; rw [if_neg h0, if_pos h1, if_pos h3, if_neg h4, if_neg (show ¬ (H.1 4 11 = 5) by omega), if_neg (show ¬ (H.1 4 11 = 19) by omega), if_neg (show ¬ (H.1 4 11 = 4) by omega), if_pos h5]; exact ⟨rfl, hR⟩)
          · refine J_ld 272 jw hj rfl rfl rfl rfl ?_
            refine J_gfR (k := 60) jw hj rfl (evn rfl) (by decide) (by decide) (RSa (rp_X9_advance (upI H 14 3 (iAdd (H.1 14 3) 1)) hr) rfl) ?_
            refine J_ld 276 jw hj rfl rfl rfl rfl ?_
            refine J_cst 277 jw hj rfl rfl rfl ?_
            refine J_cst 278 jw hj rfl rfl rfl ?_
            refine J_callV0 jw rfl (Or.inl ⟨_, rfl⟩) rfl rfl (sp_X6_addStep (g := g) (H.1 4 11) 0 0 (f_X9_advance (upI H 14 3 (iAdd (H.1 14 3) 1))) (rp_X9_advance (upI H 14 3 (iAdd (H.1 14 3) 1)) hr)) ?_
            refine J_cst 282 jw hj rfl rfl rfl ?_
            exact J_ret rfl (Or.inl rfl) (fun aw hR => by show _ ∧ _; unfold f_X7_one1; rw [if_neg h0, if_pos h1, if_pos h3, if_neg h4, if_neg h5, if_neg h5_b, if_neg h5_c, if_neg h5_d]; exact ⟨rfl, hR⟩)
        · refine J_ld 129 jw hj rfl rfl rfl rfl ?_
          refine J_ld 130 jw hj rfl rfl rfl rfl ?_
          refine J_cst 131 jw hj rfl rfl rfl ?_
          refine J_bin jw hj rfl rfl ?_
          rw [show iop (· + ·) (8 : Int) 1 = 9 from by decide]
          refine J_callV1 jw rfl (Or.inl ⟨_, rfl⟩) rfl rfl (sp_X7_one0 (g := g) (f_X9_advance (upI H 14 3 (iAdd (H.1 14 3) 1))) (rp_X9_advance (upI H 14 3 (iAdd (H.1 14 3) 1)) hr)) ?_
          refine J_st 137 [rf (g 14), pt 8, pt (f_X9_isAtSign 40 H), pt (H.1 4 11), pt ((f_X7_one0 (f_X9_advance (upI H 14 3 (iAdd (H.1 14 3) 1)))).1)] (k := 4) jw hj rfl (Or.inl ⟨rfl, rfl⟩) rfl ?_
          refine J_ld 138 jw hj rfl rfl rfl rfl ?_
          refine J_gfR (k := 60) jw hj rfl (evn rfl) (by decide) (by decide) (RSa (rp_X7_one0 (f_X9_advance (upI H 14 3 (iAdd (H.1 14 3) 1))) (rp_X9_advance (upI H 14 3 (iAdd (H.1 14 3) 1)) hr)) rfl) ?_
          refine J_cst 143 jw hj rfl rfl rfl ?_
          refine J_cst 144 jw hj rfl rfl rfl ?_
          refine J_cst 145 jw hj rfl rfl rfl ?_
          refine J_callV0 jw rfl (Or.inl ⟨_, rfl⟩) rfl rfl (sp_X6_addStep (g := g) 18 0 0 (f_X7_one0 (f_X9_advance (upI H 14 3 (iAdd (H.1 14 3) 1)))).2 (rp_X7_one0 (f_X9_advance (upI H 14 3 (iAdd (H.1 14 3) 1))) (rp_X9_advance (upI H 14 3 (iAdd (H.1 14 3) 1)) hr))) ?_
          refine J_ld 150 jw hj rfl rfl rfl rfl ?_
          exact J_ret rfl (Or.inl rfl) (fun aw hR => by show _ ∧ _; unfold f_X7_one1; rw [if_neg h0, if_pos h1, if_pos h3, if_pos h4]; exact ⟨rfl, hR⟩)
      · refine J_ld 95 jw hj rfl rfl rfl rfl ?_
        refine J_ld 96 jw hj rfl rfl rfl rfl ?_
        refine J_cst 97 jw hj rfl rfl rfl ?_
        refine J_bin jw hj rfl rfl ?_
        rw [show iop (· + ·) (8 : Int) 1 = 9 from by decide]
        refine J_callV1 jw rfl (Or.inl ⟨_, rfl⟩) rfl rfl (sp_X7_cond0 (g := g) (f_X9_advance (upI H 14 3 (iAdd (H.1 14 3) 1))) (rp_X9_advance (upI H 14 3 (iAdd (H.1 14 3) 1)) hr)) ?_
        refine J_ifc (t := 120) jw hj rfl (evn rfl) rfl (fun (h6 : ((f_X7_cond0 (f_X9_advance (upI H 14 3 (iAdd (H.1 14 3) 1)))).1) = 0) => ?_) (fun (h6 : ¬ ((f_X7_cond0 (f_X9_advance (upI H 14 3 (iAdd (H.1 14 3) 1)))).1) = 0) => ?_)
        · refine J_cst 121 jw hj rfl rfl rfl ?_
          exact J_ret rfl (Or.inl rfl) (fun aw hR => by show _ ∧ _; unfold f_X7_one1; rw [if_neg h0, if_pos h1, if_neg h3, if_pos h6]; exact ⟨rfl, hR⟩)
        · refine J_ld 105 jw hj rfl rfl rfl rfl ?_
          refine J_gfR (k := 4) jw hj rfl (evn rfl) (by decide) (by decide) (RSa (rp_X7_cond0 (f_X9_advance (upI H 14 3 (iAdd (H.1 14 3) 1))) (rp_X9_advance (upI H 14 3 (iAdd (H.1 14 3) 1)) hr)) rfl) ?_
          refine J_cst 110 jw hj rfl rfl rfl ?_
          exact absurd (cond0_0 _) h6
  · refine J_ld 23 jw hj rfl rfl rfl rfl ?_
    refine J_gfR (k := 4) jw hj rfl (evn rfl) (by decide) (by decide) (RSa hr rfl) ?_
    refine J_gfI jw hj rfl (evn rfl) (by decide) rfl (fun r3 => ?_)
    refine J_cst 30 jw hj rfl rfl rfl ?_
    refine J_icmp (t := 40) jw hj rfl (evn rfl) rfl (fun (h7 : ¬ H.1 4 10 = 4) => ?_) (fun (h7 : H.1 4 10 = 4) => ?_)
    · refine J_ld 41 jw hj rfl rfl rfl rfl ?_
      refine J_gfR (k := 4) jw hj rfl (evn rfl) (by decide) (by decide) (RSa hr rfl) ?_
      refine J_cst 45 jw hj rfl rfl rfl ?_
      refine J_callV1 jw rfl (Or.inl ⟨_, rfl⟩) rfl rfl (st_X9_fail (g := g) 1 H (RSt hr)) ?_
      exact J_ret rfl (Or.inl rfl) (fun aw hR => by show _ ∧ _; unfold f_X7_one1; rw [if_pos h0, if_neg h7]; exact ⟨rfl, hR⟩)
    · refine J_ld 34 jw hj rfl rfl rfl rfl ?_
      refine J_callS1 jw rfl rfl rfl rfl (sp_X7_beginsOne (g := g) (H.1 4 11) H) ?_
      refine J_ifc (t := 49) jw hj rfl (evn rfl) rfl (fun (h8 : ¬ f_X7_beginsOne (H.1 4 11) = 0) => ?_) (fun (h8 : f_X7_beginsOne (H.1 4 11) = 0) => ?_)
      · refine J_ld 50 jw hj rfl rfl rfl rfl ?_
        refine J_gfI jw hj rfl (evn rfl) (by decide) rfl (fun r4 => ?_)
        refine J_cst 55 jw hj rfl rfl rfl ?_
        refine J_icmp (t := 64) jw hj rfl (evn rfl) rfl (fun (h9 : ¬ H.1 14 3 < 20) => ?_) (fun (h9 : H.1 14 3 < 20) => ?_)
        · refine J_ld 65 jw hj rfl rfl rfl rfl ?_
          refine J_gfR (k := 4) jw hj rfl (evn rfl) (by decide) (by decide) (RSa hr rfl) ?_
          refine J_cst 69 jw hj rfl rfl rfl ?_
          refine J_callV1 jw rfl (Or.inl ⟨_, rfl⟩) rfl rfl (st_X9_fail (g := g) 4 H (RSt hr)) ?_
          exact J_ret rfl (Or.inl rfl) (fun aw hR => by show _ ∧ _; unfold f_X7_one1; rw [if_pos h0, if_pos h7, if_neg h8, if_neg h9]; exact ⟨rfl, hR⟩)
        · refine J_ld 59 jw hj rfl rfl rfl rfl ?_
          refine J_cst 61 jw hj rfl rfl rfl ?_
          refine J_icmp (t := 73) jw hj rfl (evn rfl) rfl (fun (h10 : ¬ (8 : Int) < (8 : Int)) => ?_) (fun (h10 : (8 : Int) < (8 : Int)) => absurd h10 (by decide))
          refine J_ld 74 jw hj rfl rfl rfl rfl ?_
          refine J_dup 75 jw hj rfl rfl ?_
          refine J_gfI jw hj rfl (evn rfl) (by decide) rfl (fun r5 => ?_)
          refine J_cst 79 jw hj rfl rfl rfl ?_
          refine J_bin jw hj rfl rfl ?_
          refine J_pfI jw hj rfl (evn rfl) rfl ?_
          refine J_ld 84 jw hj rfl rfl rfl rfl ?_
          refine J_gfR (k := 4) jw hj rfl (evn rfl) (by decide) (by decide) (RSa hr rfl) ?_
          refine J_callV0 jw rfl (Or.inl ⟨_, rfl⟩) rfl rfl (st_X9_advance (g := g) (upI H 14 3 (iAdd (H.1 14 3) 1)) (RSt hr)) ?_
          refine J_ld 91 jw hj rfl rfl rfl rfl ?_
          refine J_ifc (t := 122) jw hj rfl (evn rfl) rfl (fun (h11 : f_X9_isAtSign 40 H = 0) => ?_) (fun (h11 : ¬ f_X9_isAtSign 40 H = 0) => ?_)
          · refine J_ld 123 jw hj rfl rfl rfl rfl ?_
            refine J_cst 125 jw hj rfl rfl rfl ?_
            refine J_icmp (t := 151) jw hj rfl (evn rfl) rfl (fun (h12 : ¬ H.1 4 11 = 18) => ?_) (fun (h12 : H.1 4 11 = 18) => ?_)
            · refine J_ld 152 jw hj rfl rfl rfl rfl ?_
              refine J_swR jw hj rfl (fun (h13 : H.1 4 11 = 5) => ?_) (fun (h13 : H.1 4 11 = 19) => ?_) (fun (h13 : H.1 4 11 = 4) => ?_) (fun (h13 : H.1 4 11 = 20 ∨ H.1 4 11 = 21 ∨ H.1 4 11 = 22) => ?_) (fun h13 h13_b h13_c h13_d => ?_)
              · refine J_ld 245 jw hj rfl rfl rfl rfl ?_
                refine J_ld 246 jw hj rfl rfl rfl rfl ?_
                refine J_cst 247 jw hj rfl rfl rfl ?_
                refine J_callV1 jw rfl (Or.inl ⟨_, rfl⟩) rfl rfl (sp_X7_readNamed (g := g) (H.1 4 11) 3 (f_X9_advance (upI H 14 3 (iAdd (H.1 14 3) 1))) (rp_X9_advance (upI H 14 3 (iAdd (H.1 14 3) 1)) hr)) ?_
                exact J_ret rfl (Or.inl rfl) (fun aw hR => by show _ ∧ _; unfold f_X7_one1; rw [if_pos h0, if_pos h7, if_neg h8, if_pos h9, if_pos h11, if_neg h12, if_pos h13]; exact ⟨rfl, hR⟩)
              · refine J_ld 252 jw hj rfl rfl rfl rfl ?_
                refine J_ld 253 jw hj rfl rfl rfl rfl ?_
                refine J_cst 254 jw hj rfl rfl rfl ?_
                refine J_callV1 jw rfl (Or.inl ⟨_, rfl⟩) rfl rfl (sp_X7_readNamed (g := g) (H.1 4 11) 0 (f_X9_advance (upI H 14 3 (iAdd (H.1 14 3) 1))) (rp_X9_advance (upI H 14 3 (iAdd (H.1 14 3) 1)) hr)) ?_
                exact J_ret rfl (Or.inl rfl) (fun aw hR => by show _ ∧ _; unfold f_X7_one1; rw [if_pos h0, if_pos h7, if_neg h8, if_pos h9, if_pos h11, if_neg h12, if_neg (show ¬ (H.1 4 11 = 5) by omega), if_pos h13]; exact ⟨rfl, hR⟩)
              · refine J_ld 259 jw hj rfl rfl rfl rfl ?_
                refine J_ld 260 jw hj rfl rfl rfl rfl ?_
                refine J_cst 261 jw hj rfl rfl rfl ?_
                refine J_callV1 jw rfl (Or.inl ⟨_, rfl⟩) rfl rfl (sp_X7_readNamed (g := g) (H.1 4 11) 1 (f_X9_advance (upI H 14 3 (iAdd (H.1 14 3) 1))) (rp_X9_advance (upI H 14 3 (iAdd (H.1 14 3) 1)) hr)) ?_
                exact J_ret rfl (Or.inl rfl) (fun aw hR => by show _ ∧ _; unfold f_X7_one1; rw [if_pos h0, if_pos h7, if_neg h8, if_pos h9, if_pos h11, if_neg h12, if_neg (show ¬ (H.1 4 11 = 5) by omega), if_neg (show ¬ (H.1 4 11 = 19) by omega), if_pos h13]; exact ⟨rfl, hR⟩)
              · refine J_ld 266 jw hj rfl rfl rfl rfl ?_
                refine J_ld 267 jw hj rfl rfl rfl rfl ?_
                refine J_callV1 jw rfl (Or.inl ⟨_, rfl⟩) rfl rfl (sp_X7_readComparison (g := g) (H.1 4 11) (f_X9_advance (upI H 14 3 (iAdd (H.1 14 3) 1))) (rp_X9_advance (upI H 14 3 (iAdd (H.1 14 3) 1)) hr)) ?_
                exact J_ret rfl (Or.inl rfl) (fun aw hR => by show _ ∧ _; unfold f_X7_one1; rw [if_pos h0, if_pos h7, if_neg h8, if_pos h9, if_pos h11, if_neg h12, if_neg (show ¬ (H.1 4 11 = 5) by omega), if_neg (show ¬ (H.1 4 11 = 19) by omega), if_neg (show ¬ (H.1 4 11 = 4) by omega), if_pos h13]; exact ⟨rfl, hR⟩)
              · refine J_ld 272 jw hj rfl rfl rfl rfl ?_
                refine J_gfR (k := 60) jw hj rfl (evn rfl) (by decide) (by decide) (RSa (rp_X9_advance (upI H 14 3 (iAdd (H.1 14 3) 1)) hr) rfl) ?_
                refine J_ld 276 jw hj rfl rfl rfl rfl ?_
                refine J_cst 277 jw hj rfl rfl rfl ?_
                refine J_cst 278 jw hj rfl rfl rfl ?_
                refine J_callV0 jw rfl (Or.inl ⟨_, rfl⟩) rfl rfl (sp_X6_addStep (g := g) (H.1 4 11) 0 0 (f_X9_advance (upI H 14 3 (iAdd (H.1 14 3) 1))) (rp_X9_advance (upI H 14 3 (iAdd (H.1 14 3) 1)) hr)) ?_
                refine J_cst 282 jw hj rfl rfl rfl ?_
                exact J_ret rfl (Or.inl rfl) (fun aw hR => by show _ ∧ _; unfold f_X7_one1; rw [if_pos h0, if_pos h7, if_neg h8, if_pos h9, if_pos h11, if_neg h12, if_neg h13, if_neg h13_b, if_neg h13_c, if_neg h13_d]; exact ⟨rfl, hR⟩)
            · refine J_ld 129 jw hj rfl rfl rfl rfl ?_
              refine J_ld 130 jw hj rfl rfl rfl rfl ?_
              refine J_cst 131 jw hj rfl rfl rfl ?_
              refine J_bin jw hj rfl rfl ?_
              rw [show iop (· + ·) (8 : Int) 1 = 9 from by decide]
              refine J_callV1 jw rfl (Or.inl ⟨_, rfl⟩) rfl rfl (sp_X7_one0 (g := g) (f_X9_advance (upI H 14 3 (iAdd (H.1 14 3) 1))) (rp_X9_advance (upI H 14 3 (iAdd (H.1 14 3) 1)) hr)) ?_
              refine J_st 137 [rf (g 14), pt 8, pt (f_X9_isAtSign 40 H), pt (H.1 4 11), pt ((f_X7_one0 (f_X9_advance (upI H 14 3 (iAdd (H.1 14 3) 1)))).1)] (k := 4) jw hj rfl (Or.inl ⟨rfl, rfl⟩) rfl ?_
              refine J_ld 138 jw hj rfl rfl rfl rfl ?_
              refine J_gfR (k := 60) jw hj rfl (evn rfl) (by decide) (by decide) (RSa (rp_X7_one0 (f_X9_advance (upI H 14 3 (iAdd (H.1 14 3) 1))) (rp_X9_advance (upI H 14 3 (iAdd (H.1 14 3) 1)) hr)) rfl) ?_
              refine J_cst 143 jw hj rfl rfl rfl ?_
              refine J_cst 144 jw hj rfl rfl rfl ?_
              refine J_cst 145 jw hj rfl rfl rfl ?_
              refine J_callV0 jw rfl (Or.inl ⟨_, rfl⟩) rfl rfl (sp_X6_addStep (g := g) 18 0 0 (f_X7_one0 (f_X9_advance (upI H 14 3 (iAdd (H.1 14 3) 1)))).2 (rp_X7_one0 (f_X9_advance (upI H 14 3 (iAdd (H.1 14 3) 1))) (rp_X9_advance (upI H 14 3 (iAdd (H.1 14 3) 1)) hr))) ?_
              refine J_ld 150 jw hj rfl rfl rfl rfl ?_
              exact J_ret rfl (Or.inl rfl) (fun aw hR => by show _ ∧ _; unfold f_X7_one1; rw [if_pos h0, if_pos h7, if_neg h8, if_pos h9, if_pos h11, if_pos h12]; exact ⟨rfl, hR⟩)
          · refine J_ld 95 jw hj rfl rfl rfl rfl ?_
            refine J_ld 96 jw hj rfl rfl rfl rfl ?_
            refine J_cst 97 jw hj rfl rfl rfl ?_
            refine J_bin jw hj rfl rfl ?_
            rw [show iop (· + ·) (8 : Int) 1 = 9 from by decide]
            refine J_callV1 jw rfl (Or.inl ⟨_, rfl⟩) rfl rfl (sp_X7_cond0 (g := g) (f_X9_advance (upI H 14 3 (iAdd (H.1 14 3) 1))) (rp_X9_advance (upI H 14 3 (iAdd (H.1 14 3) 1)) hr)) ?_
            refine J_ifc (t := 120) jw hj rfl (evn rfl) rfl (fun (h14 : ((f_X7_cond0 (f_X9_advance (upI H 14 3 (iAdd (H.1 14 3) 1)))).1) = 0) => ?_) (fun (h14 : ¬ ((f_X7_cond0 (f_X9_advance (upI H 14 3 (iAdd (H.1 14 3) 1)))).1) = 0) => ?_)
            · refine J_cst 121 jw hj rfl rfl rfl ?_
              exact J_ret rfl (Or.inl rfl) (fun aw hR => by show _ ∧ _; unfold f_X7_one1; rw [if_pos h0, if_pos h7, if_neg h8, if_pos h9, if_neg h11, if_pos h14]; exact ⟨rfl, hR⟩)
            · refine J_ld 105 jw hj rfl rfl rfl rfl ?_
              refine J_gfR (k := 4) jw hj rfl (evn rfl) (by decide) (by decide) (RSa (rp_X7_cond0 (f_X9_advance (upI H 14 3 (iAdd (H.1 14 3) 1))) (rp_X9_advance (upI H 14 3 (iAdd (H.1 14 3) 1)) hr)) rfl) ?_
              refine J_cst 110 jw hj rfl rfl rfl ?_
              exact absurd (cond0_0 _) h14
      · refine J_ld 41 jw hj rfl rfl rfl rfl ?_
        refine J_gfR (k := 4) jw hj rfl (evn rfl) (by decide) (by decide) (RSa hr rfl) ?_
        refine J_cst 45 jw hj rfl rfl rfl ?_
        refine J_callV1 jw rfl (Or.inl ⟨_, rfl⟩) rfl rfl (st_X9_fail (g := g) 1 H (RSt hr)) ?_
        exact J_ret rfl (Or.inl rfl) (fun aw hR => by show _ ∧ _; unfold f_X7_one1; rw [if_pos h0, if_pos h7, if_pos h8]; exact ⟨rfl, hR⟩)
theorem rp_X7_one1 {P : (Nat → Nat → Option Nat) → Prop}  (H : hH) (hr : P H.2.2.1) : P (f_X7_one1 H).2.2.2.1 := by
  unfold f_X7_one1
  by_cases q1 : f_X9_isAtSign 40 H = 0
  · rw [if_pos q1]
    by_cases q2 : H.1 4 10 = 4
    · rw [if_pos q2]
      by_cases q3 : f_X7_beginsOne (H.1 4 11) = 0
      · rw [if_pos q3]
        exact (rp_X9_fail 1 H hr)
      · rw [if_neg q3]
        by_cases q4 : H.1 14 3 < 20
        · rw [if_pos q4]
          by_cases q5 : f_X9_isAtSign 40 H = 0
          · rw [if_pos q5]
            by_cases q6 : H.1 4 11 = 18
            · rw [if_pos q6]
              exact (rp_X6_addStep 18 0 0 (f_X7_one0 (f_X9_advance (upI H 14 3 (iAdd (H.1 14 3) 1)))).2 (rp_X7_one0 (f_X9_advance (upI H 14 3 (iAdd (H.1 14 3) 1))) (rp_X9_advance (upI H 14 3 (iAdd (H.1 14 3) 1)) hr)))
            · rw [if_neg q6]
              by_cases q7 : H.1 4 11 = 5
              · rw [if_pos q7]
                exact (rp_X7_readNamed (H.1 4 11) 3 (f_X9_advance (upI H 14 3 (iAdd (H.1 14 3) 1))) (rp_X9_advance (upI H 14 3 (iAdd (H.1 14 3) 1)) hr))
              · rw [if_neg q7]
                by_cases q8 : H.1 4 11 = 19
                · rw [if_pos q8]
                  exact (rp_X7_readNamed (H.1 4 11) 0 (f_X9_advance (upI H 14 3 (iAdd (H.1 14 3) 1))) (rp_X9_advance (upI H 14 3 (iAdd (H.1 14 3) 1)) hr))
                · rw [if_neg q8]
                  by_cases q9 : H.1 4 11 = 4
                  · rw [if_pos q9]
                    exact (rp_X7_readNamed (H.1 4 11) 1 (f_X9_advance (upI H 14 3 (iAdd (H.1 14 3) 1))) (rp_X9_advance (upI H 14 3 (iAdd (H.1 14 3) 1)) hr))
                  · rw [if_neg q9]
                    by_cases q10 : H.1 4 11 = 20 ∨ H.1 4 11 = 21 ∨ H.1 4 11 = 22
                    · rw [if_pos q10]
                      exact (rp_X7_readComparison (H.1 4 11) (f_X9_advance (upI H 14 3 (iAdd (H.1 14 3) 1))) (rp_X9_advance (upI H 14 3 (iAdd (H.1 14 3) 1)) hr))
                    · rw [if_neg q10]
                      exact (rp_X6_addStep (H.1 4 11) 0 0 (f_X9_advance (upI H 14 3 (iAdd (H.1 14 3) 1))) (rp_X9_advance (upI H 14 3 (iAdd (H.1 14 3) 1)) hr))
          · rw [if_neg q5]
            by_cases q6 : ((f_X7_cond0 (f_X9_advance (upI H 14 3 (iAdd (H.1 14 3) 1)))).1) = 0
            · rw [if_pos q6]
              exact (rp_X7_cond0 (f_X9_advance (upI H 14 3 (iAdd (H.1 14 3) 1))) (rp_X9_advance (upI H 14 3 (iAdd (H.1 14 3) 1)) hr))
            · rw [if_neg q6]
              exact (rp_X7_cond0 (f_X9_advance (upI H 14 3 (iAdd (H.1 14 3) 1))) (rp_X9_advance (upI H 14 3 (iAdd (H.1 14 3) 1)) hr))
        · rw [if_neg q4]
          exact (rp_X9_fail 4 H hr)
    · rw [if_neg q2]
      exact (rp_X9_fail 1 H hr)
  · rw [if_neg q1]
    by_cases q2 : H.1 14 3 < 20
    · rw [if_pos q2]
      by_cases q3 : f_X9_isAtSign 40 H = 0
      · rw [if_pos q3]
        by_cases q4 : H.1 4 11 = 18
        · rw [if_pos q4]
          exact (rp_X6_addStep 18 0 0 (f_X7_one0 (f_X9_advance (upI H 14 3 (iAdd (H.1 14 3) 1)))).2 (rp_X7_one0 (f_X9_advance (upI H 14 3 (iAdd (H.1 14 3) 1))) (rp_X9_advance (upI H 14 3 (iAdd (H.1 14 3) 1)) hr)))
        · rw [if_neg q4]
          by_cases q5 : H.1 4 11 = 5
          · rw [if_pos q5]
            exact (rp_X7_readNamed (H.1 4 11) 3 (f_X9_advance (upI H 14 3 (iAdd (H.1 14 3) 1))) (rp_X9_advance (upI H 14 3 (iAdd (H.1 14 3) 1)) hr))
          · rw [if_neg q5]
            by_cases q6 : H.1 4 11 = 19
            · rw [if_pos q6]
              exact (rp_X7_readNamed (H.1 4 11) 0 (f_X9_advance (upI H 14 3 (iAdd (H.1 14 3) 1))) (rp_X9_advance (upI H 14 3 (iAdd (H.1 14 3) 1)) hr))
            · rw [if_neg q6]
              by_cases q7 : H.1 4 11 = 4
              · rw [if_pos q7]
                exact (rp_X7_readNamed (H.1 4 11) 1 (f_X9_advance (upI H 14 3 (iAdd (H.1 14 3) 1))) (rp_X9_advance (upI H 14 3 (iAdd (H.1 14 3) 1)) hr))
              · rw [if_neg q7]
                by_cases q8 : H.1 4 11 = 20 ∨ H.1 4 11 = 21 ∨ H.1 4 11 = 22
                · rw [if_pos q8]
                  exact (rp_X7_readComparison (H.1 4 11) (f_X9_advance (upI H 14 3 (iAdd (H.1 14 3) 1))) (rp_X9_advance (upI H 14 3 (iAdd (H.1 14 3) 1)) hr))
                · rw [if_neg q8]
                  exact (rp_X6_addStep (H.1 4 11) 0 0 (f_X9_advance (upI H 14 3 (iAdd (H.1 14 3) 1))) (rp_X9_advance (upI H 14 3 (iAdd (H.1 14 3) 1)) hr))
      · rw [if_neg q3]
        by_cases q4 : ((f_X7_cond0 (f_X9_advance (upI H 14 3 (iAdd (H.1 14 3) 1)))).1) = 0
        · rw [if_pos q4]
          exact (rp_X7_cond0 (f_X9_advance (upI H 14 3 (iAdd (H.1 14 3) 1))) (rp_X9_advance (upI H 14 3 (iAdd (H.1 14 3) 1)) hr))
        · rw [if_neg q4]
          exact (rp_X7_cond0 (f_X9_advance (upI H 14 3 (iAdd (H.1 14 3) 1))) (rp_X9_advance (upI H 14 3 (iAdd (H.1 14 3) 1)) hr))
    · rw [if_neg q2]
      exact (rp_X9_fail 4 H hr)
def f_X7_al1 : Nat → hH → Int × hH
  | 0, H => (1, H)
  | k + 1, H =>
    if f_X9_isAtWord 17 H = 0 then
      (1, H)
    else
      if ((f_X7_one1 (f_X9_advance H)).1) = 0 then
        (0, (f_X7_one1 (f_X9_advance H)).2)
      else
        f_X7_al1 k (f_X6_addStep 17 0 0 (f_X7_one1 (f_X9_advance H)).2)
set_option maxHeartbeats 16000000 in
set_option maxRecDepth 100000 in
theorem lp_X7_al1 {g : Nat → Nat} : ∀ (k i : Nat) (H : hH), i + k = 200 → RS H.2.2.1 → J g rvTab rvInf rvRet 316 rvMth 95 (fun res => res.1 = some (pt (f_X7_al1 k H).1) ∧ RH g res.2 (f_X7_al1 k H).2) 12 [rf (g 14), pt 8, pt (i : Int)] [] H := by
  intro k
  induction k with
  | zero =>
    intro i H hk hr
    have hj : 95 < 316 := by decide
    refine J_ld 13 jw hj rfl rfl rfl rfl ?_
    refine J_cst 16 jw hj rfl rfl rfl ?_
    refine J_icmp (t := 65) jw hj rfl (evn rfl) rfl (fun (h0 : ¬ (i : Int) < 200) => ?_) (fun (h0 : (i : Int) < 200) => ?_)
    · refine J_cst 66 jw hj rfl rfl rfl ?_
      exact J_ret rfl (Or.inl rfl) (fun aw hR => ⟨rfl, hR⟩)
    · exact absurd h0 (by omega)
  | succ k ih =>
    intro i H hk hr
    have hj : 95 < 316 := by decide
    refine J_ld 13 jw hj rfl rfl rfl rfl ?_
    refine J_cst 16 jw hj rfl rfl rfl ?_
    refine J_icmp (t := 65) jw hj rfl (evn rfl) rfl (fun (h0 : ¬ (i : Int) < 200) => ?_) (fun (h0 : (i : Int) < 200) => ?_)
    · refine J_cst 66 jw hj rfl rfl rfl ?_
      exact absurd (show (i : Int) < 200 by omega) h0
    · refine J_ld 20 jw hj rfl rfl rfl rfl ?_
      refine J_gfR (k := 4) jw hj rfl (evn rfl) (by decide) (by decide) (RSa hr rfl) ?_
      refine J_cst 25 jw hj rfl rfl rfl ?_
      refine J_callV1 jw rfl (Or.inl ⟨_, rfl⟩) rfl rfl (sp_X9_isAtWord (g := g) 17 H) ?_
      refine J_ifc (t := 65) jw hj rfl (evn rfl) rfl (fun (h1 : f_X9_isAtWord 17 H = 0) => ?_) (fun (h1 : ¬ f_X9_isAtWord 17 H = 0) => ?_)
      · refine J_cst 66 jw hj rfl rfl rfl ?_
        exact J_ret rfl (Or.inl rfl) (fun aw hR => by show _ ∧ _; rw [f_X7_al1]; rw [if_pos h1]; exact ⟨rfl, hR⟩)
      · refine J_ld 32 jw hj rfl rfl rfl rfl ?_
        refine J_gfR (k := 4) jw hj rfl (evn rfl) (by decide) (by decide) (RSa hr rfl) ?_
        refine J_callV0 jw rfl (Or.inl ⟨_, rfl⟩) rfl rfl (st_X9_advance (g := g) H (RSt hr)) ?_
        refine J_ld 39 jw hj rfl rfl rfl rfl ?_
        refine J_ld 40 jw hj rfl rfl rfl rfl ?_
        refine J_callV1 jw rfl (Or.inl ⟨_, rfl⟩) rfl rfl (sp_X7_one1 (g := g) (f_X9_advance H) (rp_X9_advance H hr)) ?_
        refine J_ifc (t := 48) jw hj rfl (evn rfl) rfl (fun (h2 : ¬ ((f_X7_one1 (f_X9_advance H)).1) = 0) => ?_) (fun (h2 : ((f_X7_one1 (f_X9_advance H)).1) = 0) => ?_)
        · refine J_ld 49 jw hj rfl rfl rfl rfl ?_
          refine J_gfR (k := 60) jw hj rfl (evn rfl) (by decide) (by decide) (RSa (rp_X7_one1 (f_X9_advance H) (rp_X9_advance H hr)) rfl) ?_
          refine J_cst 54 jw hj rfl rfl rfl ?_
          refine J_cst 55 jw hj rfl rfl rfl ?_
          refine J_cst 56 jw hj rfl rfl rfl ?_
          refine J_callV0 jw rfl (Or.inl ⟨_, rfl⟩) rfl rfl (sp_X6_addStep (g := g) 17 0 0 (f_X7_one1 (f_X9_advance H)).2 (rp_X7_one1 (f_X9_advance H) (rp_X9_advance H hr))) ?_
          refine J_iinc (al' := [rf (g 14), pt 8, pt (iAdd (i : Int) 1)]) jw hj rfl (evn rfl) rfl rfl ?_
          refine J_goto 12 jw hj rfl rfl ?_
          rw [show iAdd (i : Int) 1 = ((i + 1 : Nat) : Int) from iAdd_1 (by omega)]
          have e2 : f_X7_al1 (k + 1) H = f_X7_al1 k (f_X6_addStep 17 0 0 (f_X7_one1 (f_X9_advance H)).2) := by
            rw [f_X7_al1]
            rw [if_neg h1, if_neg h2]
          rw [e2]
          exact ih (i + 1) (f_X6_addStep 17 0 0 (f_X7_one1 (f_X9_advance H)).2) (by omega) (rp_X6_addStep 17 0 0 (f_X7_one1 (f_X9_advance H)).2 (rp_X7_one1 (f_X9_advance H) (rp_X9_advance H hr)))
        · refine J_cst 47 jw hj rfl rfl rfl ?_
          exact J_ret rfl (Or.inl rfl) (fun aw hR => by show _ ∧ _; rw [f_X7_al1]; rw [if_neg h1, if_pos h2]; exact ⟨rfl, hR⟩)
theorem rp_X7_al1 {P : (Nat → Nat → Option Nat) → Prop} : ∀ (k : Nat) (H : hH), P H.2.2.1 → P (f_X7_al1 k H).2.2.2.1 := by
  intro k
  induction k with
  | zero => intro H hr; exact hr
  | succ k ih =>
    intro H hr
    rw [f_X7_al1]
    by_cases q2 : f_X9_isAtWord 17 H = 0
    · rw [if_pos q2]
      exact hr
    · rw [if_neg q2]
      by_cases q3 : ((f_X7_one1 (f_X9_advance H)).1) = 0
      · rw [if_pos q3]
        exact (rp_X7_one1 (f_X9_advance H) (rp_X9_advance H hr))
      · rw [if_neg q3]
        exact ih (f_X6_addStep 17 0 0 (f_X7_one1 (f_X9_advance H)).2) (rp_X6_addStep 17 0 0 (f_X7_one1 (f_X9_advance H)).2 (rp_X7_one1 (f_X9_advance H) (rp_X9_advance H hr)))
def f_X7_all1  (H : hH) : Int × hH :=
  if ((f_X7_one1 H).1) = 0 then
    (0, (f_X7_one1 H).2)
  else
    ((f_X7_al1 200 (f_X7_one1 H).2).1, (f_X7_al1 200 (f_X7_one1 H).2).2)
set_option maxHeartbeats 16000000 in
set_option maxRecDepth 100000 in
theorem sp_X7_all1 {g : Nat → Nat}  (H : hH) (hr : RS H.2.2.1) : SP g rvTab rvInf rvRet 316 rvMth 95 [rf (g 14), pt 8] H (some (pt (f_X7_all1 H).1)) (f_X7_all1 H).2 := by
  have hj : 95 < 316 := by decide
  refine J_SP hj (Nat.le_of_ble_eq_true rfl) ?_
  show J g rvTab rvInf rvRet 316 rvMth 95 _ 0 [rf (g 14), pt 8, rvU] [] H
  refine J_ld 1 jw hj rfl rfl rfl rfl ?_
  refine J_ld 2 jw hj rfl rfl rfl rfl ?_
  refine J_callV1 jw rfl (Or.inl ⟨_, rfl⟩) rfl rfl (sp_X7_one1 (g := g) H hr) ?_
  refine J_ifc (t := 10) jw hj rfl (evn rfl) rfl (fun (h0 : ¬ ((f_X7_one1 H).1) = 0) => ?_) (fun (h0 : ((f_X7_one1 H).1) = 0) => ?_)
  · refine J_cst 11 jw hj rfl rfl rfl ?_
    refine J_st 12 [rf (g 14), pt 8, pt 0] (k := 2) jw hj rfl (Or.inr (Or.inr (Or.inl ⟨_, rfl, rfl, rfl⟩))) rfl ?_
    have e : f_X7_all1 H = (f_X7_al1 200 (f_X7_one1 H).2) := by
      unfold f_X7_all1
      rw [if_neg h0]
    rw [e]
    exact lp_X7_al1 200 0 (f_X7_one1 H).2 rfl (rp_X7_one1 H hr)
  · refine J_cst 9 jw hj rfl rfl rfl ?_
    exact J_ret rfl (Or.inl rfl) (fun aw hR => by show _ ∧ _; unfold f_X7_all1; rw [if_pos h0]; exact ⟨rfl, hR⟩)
theorem rp_X7_all1 {P : (Nat → Nat → Option Nat) → Prop}  (H : hH) (hr : P H.2.2.1) : P (f_X7_all1 H).2.2.2.1 := by
  unfold f_X7_all1
  by_cases q1 : ((f_X7_one1 H).1) = 0
  · rw [if_pos q1]
    exact (rp_X7_one1 H hr)
  · rw [if_neg q1]
    exact (rp_X7_al1 200 (f_X7_one1 H).2 (rp_X7_one1 H hr))
def f_X7_cl1 : Nat → hH → Int × hH
  | 0, H => (1, H)
  | k + 1, H =>
    if f_X9_isAtWord 16 H = 0 then
      (1, H)
    else
      if ((f_X7_all1 (f_X9_advance H)).1) = 0 then
        (0, (f_X7_all1 (f_X9_advance H)).2)
      else
        f_X7_cl1 k (f_X6_addStep 16 0 0 (f_X7_all1 (f_X9_advance H)).2)
set_option maxHeartbeats 16000000 in
set_option maxRecDepth 100000 in
theorem lp_X7_cl1 {g : Nat → Nat} : ∀ (k i : Nat) (H : hH), i + k = 200 → RS H.2.2.1 → J g rvTab rvInf rvRet 316 rvMth 96 (fun res => res.1 = some (pt (f_X7_cl1 k H).1) ∧ RH g res.2 (f_X7_cl1 k H).2) 12 [rf (g 14), pt 8, pt (i : Int)] [] H := by
  intro k
  induction k with
  | zero =>
    intro i H hk hr
    have hj : 96 < 316 := by decide
    refine J_ld 13 jw hj rfl rfl rfl rfl ?_
    refine J_cst 16 jw hj rfl rfl rfl ?_
    refine J_icmp (t := 65) jw hj rfl (evn rfl) rfl (fun (h0 : ¬ (i : Int) < 200) => ?_) (fun (h0 : (i : Int) < 200) => ?_)
    · refine J_cst 66 jw hj rfl rfl rfl ?_
      exact J_ret rfl (Or.inl rfl) (fun aw hR => ⟨rfl, hR⟩)
    · exact absurd h0 (by omega)
  | succ k ih =>
    intro i H hk hr
    have hj : 96 < 316 := by decide
    refine J_ld 13 jw hj rfl rfl rfl rfl ?_
    refine J_cst 16 jw hj rfl rfl rfl ?_
    refine J_icmp (t := 65) jw hj rfl (evn rfl) rfl (fun (h0 : ¬ (i : Int) < 200) => ?_) (fun (h0 : (i : Int) < 200) => ?_)
    · refine J_cst 66 jw hj rfl rfl rfl ?_
      exact absurd (show (i : Int) < 200 by omega) h0
    · refine J_ld 20 jw hj rfl rfl rfl rfl ?_
      refine J_gfR (k := 4) jw hj rfl (evn rfl) (by decide) (by decide) (RSa hr rfl) ?_
      refine J_cst 25 jw hj rfl rfl rfl ?_
      refine J_callV1 jw rfl (Or.inl ⟨_, rfl⟩) rfl rfl (sp_X9_isAtWord (g := g) 16 H) ?_
      refine J_ifc (t := 65) jw hj rfl (evn rfl) rfl (fun (h1 : f_X9_isAtWord 16 H = 0) => ?_) (fun (h1 : ¬ f_X9_isAtWord 16 H = 0) => ?_)
      · refine J_cst 66 jw hj rfl rfl rfl ?_
        exact J_ret rfl (Or.inl rfl) (fun aw hR => by show _ ∧ _; rw [f_X7_cl1]; rw [if_pos h1]; exact ⟨rfl, hR⟩)
      · refine J_ld 32 jw hj rfl rfl rfl rfl ?_
        refine J_gfR (k := 4) jw hj rfl (evn rfl) (by decide) (by decide) (RSa hr rfl) ?_
        refine J_callV0 jw rfl (Or.inl ⟨_, rfl⟩) rfl rfl (st_X9_advance (g := g) H (RSt hr)) ?_
        refine J_ld 39 jw hj rfl rfl rfl rfl ?_
        refine J_ld 40 jw hj rfl rfl rfl rfl ?_
        refine J_callV1 jw rfl (Or.inl ⟨_, rfl⟩) rfl rfl (sp_X7_all1 (g := g) (f_X9_advance H) (rp_X9_advance H hr)) ?_
        refine J_ifc (t := 48) jw hj rfl (evn rfl) rfl (fun (h2 : ¬ ((f_X7_all1 (f_X9_advance H)).1) = 0) => ?_) (fun (h2 : ((f_X7_all1 (f_X9_advance H)).1) = 0) => ?_)
        · refine J_ld 49 jw hj rfl rfl rfl rfl ?_
          refine J_gfR (k := 60) jw hj rfl (evn rfl) (by decide) (by decide) (RSa (rp_X7_all1 (f_X9_advance H) (rp_X9_advance H hr)) rfl) ?_
          refine J_cst 54 jw hj rfl rfl rfl ?_
          refine J_cst 55 jw hj rfl rfl rfl ?_
          refine J_cst 56 jw hj rfl rfl rfl ?_
          refine J_callV0 jw rfl (Or.inl ⟨_, rfl⟩) rfl rfl (sp_X6_addStep (g := g) 16 0 0 (f_X7_all1 (f_X9_advance H)).2 (rp_X7_all1 (f_X9_advance H) (rp_X9_advance H hr))) ?_
          refine J_iinc (al' := [rf (g 14), pt 8, pt (iAdd (i : Int) 1)]) jw hj rfl (evn rfl) rfl rfl ?_
          refine J_goto 12 jw hj rfl rfl ?_
          rw [show iAdd (i : Int) 1 = ((i + 1 : Nat) : Int) from iAdd_1 (by omega)]
          have e2 : f_X7_cl1 (k + 1) H = f_X7_cl1 k (f_X6_addStep 16 0 0 (f_X7_all1 (f_X9_advance H)).2) := by
            rw [f_X7_cl1]
            rw [if_neg h1, if_neg h2]
          rw [e2]
          exact ih (i + 1) (f_X6_addStep 16 0 0 (f_X7_all1 (f_X9_advance H)).2) (by omega) (rp_X6_addStep 16 0 0 (f_X7_all1 (f_X9_advance H)).2 (rp_X7_all1 (f_X9_advance H) (rp_X9_advance H hr)))
        · refine J_cst 47 jw hj rfl rfl rfl ?_
          exact J_ret rfl (Or.inl rfl) (fun aw hR => by show _ ∧ _; rw [f_X7_cl1]; rw [if_neg h1, if_pos h2]; exact ⟨rfl, hR⟩)
theorem rp_X7_cl1 {P : (Nat → Nat → Option Nat) → Prop} : ∀ (k : Nat) (H : hH), P H.2.2.1 → P (f_X7_cl1 k H).2.2.2.1 := by
  intro k
  induction k with
  | zero => intro H hr; exact hr
  | succ k ih =>
    intro H hr
    rw [f_X7_cl1]
    by_cases q2 : f_X9_isAtWord 16 H = 0
    · rw [if_pos q2]
      exact hr
    · rw [if_neg q2]
      by_cases q3 : ((f_X7_all1 (f_X9_advance H)).1) = 0
      · rw [if_pos q3]
        exact (rp_X7_all1 (f_X9_advance H) (rp_X9_advance H hr))
      · rw [if_neg q3]
        exact ih (f_X6_addStep 16 0 0 (f_X7_all1 (f_X9_advance H)).2) (rp_X6_addStep 16 0 0 (f_X7_all1 (f_X9_advance H)).2 (rp_X7_all1 (f_X9_advance H) (rp_X9_advance H hr)))
def f_X7_cond1  (H : hH) : Int × hH :=
  if ((f_X7_all1 H).1) = 0 then
    (0, (f_X7_all1 H).2)
  else
    ((f_X7_cl1 200 (f_X7_all1 H).2).1, (f_X7_cl1 200 (f_X7_all1 H).2).2)
set_option maxHeartbeats 16000000 in
set_option maxRecDepth 100000 in
theorem sp_X7_cond1 {g : Nat → Nat}  (H : hH) (hr : RS H.2.2.1) : SP g rvTab rvInf rvRet 316 rvMth 96 [rf (g 14), pt 8] H (some (pt (f_X7_cond1 H).1)) (f_X7_cond1 H).2 := by
  have hj : 96 < 316 := by decide
  refine J_SP hj (Nat.le_of_ble_eq_true rfl) ?_
  show J g rvTab rvInf rvRet 316 rvMth 96 _ 0 [rf (g 14), pt 8, rvU] [] H
  refine J_ld 1 jw hj rfl rfl rfl rfl ?_
  refine J_ld 2 jw hj rfl rfl rfl rfl ?_
  refine J_callV1 jw rfl (Or.inl ⟨_, rfl⟩) rfl rfl (sp_X7_all1 (g := g) H hr) ?_
  refine J_ifc (t := 10) jw hj rfl (evn rfl) rfl (fun (h0 : ¬ ((f_X7_all1 H).1) = 0) => ?_) (fun (h0 : ((f_X7_all1 H).1) = 0) => ?_)
  · refine J_cst 11 jw hj rfl rfl rfl ?_
    refine J_st 12 [rf (g 14), pt 8, pt 0] (k := 2) jw hj rfl (Or.inr (Or.inr (Or.inl ⟨_, rfl, rfl, rfl⟩))) rfl ?_
    have e : f_X7_cond1 H = (f_X7_cl1 200 (f_X7_all1 H).2) := by
      unfold f_X7_cond1
      rw [if_neg h0]
    rw [e]
    exact lp_X7_cl1 200 0 (f_X7_all1 H).2 rfl (rp_X7_all1 H hr)
  · refine J_cst 9 jw hj rfl rfl rfl ?_
    exact J_ret rfl (Or.inl rfl) (fun aw hR => by show _ ∧ _; unfold f_X7_cond1; rw [if_pos h0]; exact ⟨rfl, hR⟩)
theorem rp_X7_cond1 {P : (Nat → Nat → Option Nat) → Prop}  (H : hH) (hr : P H.2.2.1) : P (f_X7_cond1 H).2.2.2.1 := by
  unfold f_X7_cond1
  by_cases q1 : ((f_X7_all1 H).1) = 0
  · rw [if_pos q1]
    exact (rp_X7_all1 H hr)
  · rw [if_neg q1]
    exact (rp_X7_cl1 200 (f_X7_all1 H).2 (rp_X7_all1 H hr))
def f_X7_one2  (H : hH) : Int × hH :=
  if f_X9_isAtSign 40 H = 0 then
    if H.1 4 10 = 4 then
      if f_X7_beginsOne (H.1 4 11) = 0 then
        ((f_X9_fail 1 H).1, (f_X9_fail 1 H).2)
      else
        if H.1 14 3 < 20 then
          if f_X9_isAtSign 40 H = 0 then
            if H.1 4 11 = 18 then
              ((f_X7_one1 (f_X9_advance (upI H 14 3 (iAdd (H.1 14 3) 1)))).1, (f_X6_addStep 18 0 0 (f_X7_one1 (f_X9_advance (upI H 14 3 (iAdd (H.1 14 3) 1)))).2))
            else
              if H.1 4 11 = 5 then
                ((f_X7_readNamed (H.1 4 11) 3 (f_X9_advance (upI H 14 3 (iAdd (H.1 14 3) 1)))).1, (f_X7_readNamed (H.1 4 11) 3 (f_X9_advance (upI H 14 3 (iAdd (H.1 14 3) 1)))).2)
              else
                if H.1 4 11 = 19 then
                  ((f_X7_readNamed (H.1 4 11) 0 (f_X9_advance (upI H 14 3 (iAdd (H.1 14 3) 1)))).1, (f_X7_readNamed (H.1 4 11) 0 (f_X9_advance (upI H 14 3 (iAdd (H.1 14 3) 1)))).2)
                else
                  if H.1 4 11 = 4 then
                    ((f_X7_readNamed (H.1 4 11) 1 (f_X9_advance (upI H 14 3 (iAdd (H.1 14 3) 1)))).1, (f_X7_readNamed (H.1 4 11) 1 (f_X9_advance (upI H 14 3 (iAdd (H.1 14 3) 1)))).2)
                  else
                    if H.1 4 11 = 20 ∨ H.1 4 11 = 21 ∨ H.1 4 11 = 22 then
                      ((f_X7_readComparison (H.1 4 11) (f_X9_advance (upI H 14 3 (iAdd (H.1 14 3) 1)))).1, (f_X7_readComparison (H.1 4 11) (f_X9_advance (upI H 14 3 (iAdd (H.1 14 3) 1)))).2)
                    else
                      (1, (f_X6_addStep (H.1 4 11) 0 0 (f_X9_advance (upI H 14 3 (iAdd (H.1 14 3) 1)))))
          else
            if ((f_X7_cond1 (f_X9_advance (upI H 14 3 (iAdd (H.1 14 3) 1)))).1) = 0 then
              (0, (f_X7_cond1 (f_X9_advance (upI H 14 3 (iAdd (H.1 14 3) 1)))).2)
            else
              if ((f_X9_passSign 41 (f_X7_cond1 (f_X9_advance (upI H 14 3 (iAdd (H.1 14 3) 1)))).2).1) = 0 then
                (0, (f_X9_passSign 41 (f_X7_cond1 (f_X9_advance (upI H 14 3 (iAdd (H.1 14 3) 1)))).2).2)
              else
                (1, (f_X9_passSign 41 (f_X7_cond1 (f_X9_advance (upI H 14 3 (iAdd (H.1 14 3) 1)))).2).2)
        else
          ((f_X9_fail 4 H).1, (f_X9_fail 4 H).2)
    else
      ((f_X9_fail 1 H).1, (f_X9_fail 1 H).2)
  else
    if H.1 14 3 < 20 then
      if f_X9_isAtSign 40 H = 0 then
        if H.1 4 11 = 18 then
          ((f_X7_one1 (f_X9_advance (upI H 14 3 (iAdd (H.1 14 3) 1)))).1, (f_X6_addStep 18 0 0 (f_X7_one1 (f_X9_advance (upI H 14 3 (iAdd (H.1 14 3) 1)))).2))
        else
          if H.1 4 11 = 5 then
            ((f_X7_readNamed (H.1 4 11) 3 (f_X9_advance (upI H 14 3 (iAdd (H.1 14 3) 1)))).1, (f_X7_readNamed (H.1 4 11) 3 (f_X9_advance (upI H 14 3 (iAdd (H.1 14 3) 1)))).2)
          else
            if H.1 4 11 = 19 then
              ((f_X7_readNamed (H.1 4 11) 0 (f_X9_advance (upI H 14 3 (iAdd (H.1 14 3) 1)))).1, (f_X7_readNamed (H.1 4 11) 0 (f_X9_advance (upI H 14 3 (iAdd (H.1 14 3) 1)))).2)
            else
              if H.1 4 11 = 4 then
                ((f_X7_readNamed (H.1 4 11) 1 (f_X9_advance (upI H 14 3 (iAdd (H.1 14 3) 1)))).1, (f_X7_readNamed (H.1 4 11) 1 (f_X9_advance (upI H 14 3 (iAdd (H.1 14 3) 1)))).2)
              else
                if H.1 4 11 = 20 ∨ H.1 4 11 = 21 ∨ H.1 4 11 = 22 then
                  ((f_X7_readComparison (H.1 4 11) (f_X9_advance (upI H 14 3 (iAdd (H.1 14 3) 1)))).1, (f_X7_readComparison (H.1 4 11) (f_X9_advance (upI H 14 3 (iAdd (H.1 14 3) 1)))).2)
                else
                  (1, (f_X6_addStep (H.1 4 11) 0 0 (f_X9_advance (upI H 14 3 (iAdd (H.1 14 3) 1)))))
      else
        if ((f_X7_cond1 (f_X9_advance (upI H 14 3 (iAdd (H.1 14 3) 1)))).1) = 0 then
          (0, (f_X7_cond1 (f_X9_advance (upI H 14 3 (iAdd (H.1 14 3) 1)))).2)
        else
          if ((f_X9_passSign 41 (f_X7_cond1 (f_X9_advance (upI H 14 3 (iAdd (H.1 14 3) 1)))).2).1) = 0 then
            (0, (f_X9_passSign 41 (f_X7_cond1 (f_X9_advance (upI H 14 3 (iAdd (H.1 14 3) 1)))).2).2)
          else
            (1, (f_X9_passSign 41 (f_X7_cond1 (f_X9_advance (upI H 14 3 (iAdd (H.1 14 3) 1)))).2).2)
    else
      ((f_X9_fail 4 H).1, (f_X9_fail 4 H).2)
set_option maxHeartbeats 16000000 in
set_option maxRecDepth 100000 in
theorem sp_X7_one2 {g : Nat → Nat}  (H : hH) (hr : RS H.2.2.1) : SP g rvTab rvInf rvRet 316 rvMth 97 [rf (g 14), pt 7] H (some (pt (f_X7_one2 H).1)) (f_X7_one2 H).2 := by
  have hj : 97 < 316 := by decide
  refine J_SP hj (Nat.le_of_ble_eq_true rfl) ?_
  show J g rvTab rvInf rvRet 316 rvMth 97 _ 0 [rf (g 14), pt 7, rvU, rvU, rvU] [] H
  refine J_ld 1 jw hj rfl rfl rfl rfl ?_
  refine J_gfR (k := 4) jw hj rfl (evn rfl) (by decide) (by decide) (RSa hr rfl) ?_
  refine J_cst 6 jw hj rfl rfl rfl ?_
  refine J_callV1 jw rfl (Or.inl ⟨_, rfl⟩) rfl rfl (sp_X9_isAtSign (g := g) 40 H) ?_
  refine J_st 10 [rf (g 14), pt 7, pt (f_X9_isAtSign 40 H), rvU, rvU] (k := 2) jw hj rfl (Or.inr (Or.inr (Or.inl ⟨_, rfl, rfl, rfl⟩))) rfl ?_
  refine J_ld 11 jw hj rfl rfl rfl rfl ?_
  refine J_gfR (k := 4) jw hj rfl (evn rfl) (by decide) (by decide) (RSa hr rfl) ?_
  refine J_gfI jw hj rfl (evn rfl) (by decide) rfl (fun r0 => ?_)
  refine J_st 18 [rf (g 14), pt 7, pt (f_X9_isAtSign 40 H), pt (H.1 4 11), rvU] (k := 3) jw hj rfl (Or.inr (Or.inr (Or.inl ⟨_, rfl, rfl, rfl⟩))) rfl ?_
  refine J_ld 19 jw hj rfl rfl rfl rfl ?_
  refine J_ifc (t := 49) jw hj rfl (evn rfl) rfl (fun (h0 : ¬ f_X9_isAtSign 40 H = 0) => ?_) (fun (h0 : f_X9_isAtSign 40 H = 0) => ?_)
  · refine J_ld 50 jw hj rfl rfl rfl rfl ?_
    refine J_gfI jw hj rfl (evn rfl) (by decide) rfl (fun r1 => ?_)
    refine J_cst 55 jw hj rfl rfl rfl ?_
    refine J_icmp (t := 64) jw hj rfl (evn rfl) rfl (fun (h1 : ¬ H.1 14 3 < 20) => ?_) (fun (h1 : H.1 14 3 < 20) => ?_)
    · refine J_ld 65 jw hj rfl rfl rfl rfl ?_
      refine J_gfR (k := 4) jw hj rfl (evn rfl) (by decide) (by decide) (RSa hr rfl) ?_
      refine J_cst 69 jw hj rfl rfl rfl ?_
      refine J_callV1 jw rfl (Or.inl ⟨_, rfl⟩) rfl rfl (st_X9_fail (g := g) 4 H (RSt hr)) ?_
      exact J_ret rfl (Or.inl rfl) (fun aw hR => by show _ ∧ _; unfold f_X7_one2; rw [if_neg h0, if_neg h1]; exact ⟨rfl, hR⟩)
    · refine J_ld 59 jw hj rfl rfl rfl rfl ?_
      refine J_cst 61 jw hj rfl rfl rfl ?_
      refine J_icmp (t := 73) jw hj rfl (evn rfl) rfl (fun (h2 : ¬ (8 : Int) < (7 : Int)) => ?_) (fun (h2 : (8 : Int) < (7 : Int)) => absurd h2 (by decide))
      refine J_ld 74 jw hj rfl rfl rfl rfl ?_
      refine J_dup 75 jw hj rfl rfl ?_
      refine J_gfI jw hj rfl (evn rfl) (by decide) rfl (fun r2 => ?_)
      refine J_cst 79 jw hj rfl rfl rfl ?_
      refine J_bin jw hj rfl rfl ?_
      refine J_pfI jw hj rfl (evn rfl) rfl ?_
      refine J_ld 84 jw hj rfl rfl rfl rfl ?_
      refine J_gfR (k := 4) jw hj rfl (evn rfl) (by decide) (by decide) (RSa hr rfl) ?_
      refine J_callV0 jw rfl (Or.inl ⟨_, rfl⟩) rfl rfl (st_X9_advance (g := g) (upI H 14 3 (iAdd (H.1 14 3) 1)) (RSt hr)) ?_
      refine J_ld 91 jw hj rfl rfl rfl rfl ?_
      refine J_ifc (t := 122) jw hj rfl (evn rfl) rfl (fun (h3 : f_X9_isAtSign 40 H = 0) => ?_) (fun (h3 : ¬ f_X9_isAtSign 40 H = 0) => ?_)
      · refine J_ld 123 jw hj rfl rfl rfl rfl ?_
        refine J_cst 125 jw hj rfl rfl rfl ?_
        refine J_icmp (t := 151) jw hj rfl (evn rfl) rfl (fun (h4 : ¬ H.1 4 11 = 18) => ?_) (fun (h4 : H.1 4 11 = 18) => ?_)
        · refine J_ld 152 jw hj rfl rfl rfl rfl ?_
          refine J_swR jw hj rfl (fun (h5 : H.1 4 11 = 5) => ?_) (fun (h5 : H.1 4 11 = 19) => ?_) (fun (h5 : H.1 4 11 = 4) => ?_) (fun (h5 : H.1 4 11 = 20 ∨ H.1 4 11 = 21 ∨ H.1 4 11 = 22) => ?_) (fun h5 h5_b h5_c h5_d => ?_)
          · refine J_ld 245 jw hj rfl rfl rfl rfl ?_
            refine J_ld 246 jw hj rfl rfl rfl rfl ?_
            refine J_cst 247 jw hj rfl rfl rfl ?_
            refine J_callV1 jw rfl (Or.inl ⟨_, rfl⟩) rfl rfl (sp_X7_readNamed (g := g) (H.1 4 11) 3 (f_X9_advance (upI H 14 3 (iAdd (H.1 14 3) 1))) (rp_X9_advance (upI H 14 3 (iAdd (H.1 14 3) 1)) hr)) ?_
            exact J_ret rfl (Or.inl rfl) (fun aw hR => by show _ ∧ _; unfold f_X7_one2; rw [if_neg h0, if_pos h1, if_pos h3, if_neg h4, if_pos h5]; exact ⟨rfl, hR⟩)
          · refine J_ld 252 jw hj rfl rfl rfl rfl ?_
            refine J_ld 253 jw hj rfl rfl rfl rfl ?_
            refine J_cst 254 jw hj rfl rfl rfl ?_
            refine J_callV1 jw rfl (Or.inl ⟨_, rfl⟩) rfl rfl (sp_X7_readNamed (g := g) (H.1 4 11) 0 (f_X9_advance (upI H 14 3 (iAdd (H.1 14 3) 1))) (rp_X9_advance (upI H 14 3 (iAdd (H.1 14 3) 1)) hr)) ?_
            exact J_ret rfl (Or.inl rfl) (fun aw hR => by show _ ∧ _; unfold f_X7_one2; rw [if_neg h0, if_pos h1, if_pos h3, if_neg h4, if_neg (show ¬ (H.1 4 11 = 5) by omega), if_pos h5]; exact ⟨rfl, hR⟩)
          · refine J_ld 259 jw hj rfl rfl rfl rfl ?_
            refine J_ld 260 jw hj rfl rfl rfl rfl ?_
            refine J_cst 261 jw hj rfl rfl rfl ?_
            refine J_callV1 jw rfl (Or.inl ⟨_, rfl⟩) rfl rfl (sp_X7_readNamed (g := g) (H.1 4 11) 1 (f_X9_advance (upI H 14 3 (iAdd (H.1 14 3) 1))) (rp_X9_advance (upI H 14 3 (iAdd (H.1 14 3) 1)) hr)) ?_
            exact J_ret rfl (Or.inl rfl) (fun aw hR => by show _ ∧ _; unfold f_X7_one2; rw [if_neg h0, if_pos h1, if_pos h3, if_neg h4, if_neg (show ¬ (H.1 4 11 = 5) by omega), if_neg (show ¬ (H.1 4 11 = 19) by omega), if_pos h5]; exact ⟨rfl, hR⟩)
          · refine J_ld 266 jw hj rfl rfl rfl rfl ?_
            refine J_ld 267 jw hj rfl rfl rfl rfl ?_
            refine J_callV1 jw rfl (Or.inl ⟨_, rfl⟩) rfl rfl (sp_X7_readComparison (g := g) (H.1 4 11) (f_X9_advance (upI H 14 3 (iAdd (H.1 14 3) 1))) (rp_X9_advance (upI H 14 3 (iAdd (H.1 14 3) 1)) hr)) ?_
            exact J_ret rfl (Or.inl rfl) (fun aw hR => by show _ ∧ _; unfold f_X7_one2; rw [if_neg h0, if_pos h1, if_pos h3, if_neg h4, if_neg (show ¬ (H.1 4 11 = 5) by omega), if_neg (show ¬ (H.1 4 11 = 19) by omega), if_neg (show ¬ (H.1 4 11 = 4) by omega), if_pos h5]; exact ⟨rfl, hR⟩)
          · refine J_ld 272 jw hj rfl rfl rfl rfl ?_
            refine J_gfR (k := 60) jw hj rfl (evn rfl) (by decide) (by decide) (RSa (rp_X9_advance (upI H 14 3 (iAdd (H.1 14 3) 1)) hr) rfl) ?_
            refine J_ld 276 jw hj rfl rfl rfl rfl ?_
            refine J_cst 277 jw hj rfl rfl rfl ?_
            refine J_cst 278 jw hj rfl rfl rfl ?_
            refine J_callV0 jw rfl (Or.inl ⟨_, rfl⟩) rfl rfl (sp_X6_addStep (g := g) (H.1 4 11) 0 0 (f_X9_advance (upI H 14 3 (iAdd (H.1 14 3) 1))) (rp_X9_advance (upI H 14 3 (iAdd (H.1 14 3) 1)) hr)) ?_
            refine J_cst 282 jw hj rfl rfl rfl ?_
            exact J_ret rfl (Or.inl rfl) (fun aw hR => by show _ ∧ _; unfold f_X7_one2; rw [if_neg h0, if_pos h1, if_pos h3, if_neg h4, if_neg h5, if_neg h5_b, if_neg h5_c, if_neg h5_d]; exact ⟨rfl, hR⟩)
        · refine J_ld 129 jw hj rfl rfl rfl rfl ?_
          refine J_ld 130 jw hj rfl rfl rfl rfl ?_
          refine J_cst 131 jw hj rfl rfl rfl ?_
          refine J_bin jw hj rfl rfl ?_
          rw [show iop (· + ·) (7 : Int) 1 = 8 from by decide]
          refine J_callV1 jw rfl (Or.inl ⟨_, rfl⟩) rfl rfl (sp_X7_one1 (g := g) (f_X9_advance (upI H 14 3 (iAdd (H.1 14 3) 1))) (rp_X9_advance (upI H 14 3 (iAdd (H.1 14 3) 1)) hr)) ?_
          refine J_st 137 [rf (g 14), pt 7, pt (f_X9_isAtSign 40 H), pt (H.1 4 11), pt ((f_X7_one1 (f_X9_advance (upI H 14 3 (iAdd (H.1 14 3) 1)))).1)] (k := 4) jw hj rfl (Or.inl ⟨rfl, rfl⟩) rfl ?_
          refine J_ld 138 jw hj rfl rfl rfl rfl ?_
          refine J_gfR (k := 60) jw hj rfl (evn rfl) (by decide) (by decide) (RSa (rp_X7_one1 (f_X9_advance (upI H 14 3 (iAdd (H.1 14 3) 1))) (rp_X9_advance (upI H 14 3 (iAdd (H.1 14 3) 1)) hr)) rfl) ?_
          refine J_cst 143 jw hj rfl rfl rfl ?_
          refine J_cst 144 jw hj rfl rfl rfl ?_
          refine J_cst 145 jw hj rfl rfl rfl ?_
          refine J_callV0 jw rfl (Or.inl ⟨_, rfl⟩) rfl rfl (sp_X6_addStep (g := g) 18 0 0 (f_X7_one1 (f_X9_advance (upI H 14 3 (iAdd (H.1 14 3) 1)))).2 (rp_X7_one1 (f_X9_advance (upI H 14 3 (iAdd (H.1 14 3) 1))) (rp_X9_advance (upI H 14 3 (iAdd (H.1 14 3) 1)) hr))) ?_
          refine J_ld 150 jw hj rfl rfl rfl rfl ?_
          exact J_ret rfl (Or.inl rfl) (fun aw hR => by show _ ∧ _; unfold f_X7_one2; rw [if_neg h0, if_pos h1, if_pos h3, if_pos h4]; exact ⟨rfl, hR⟩)
      · refine J_ld 95 jw hj rfl rfl rfl rfl ?_
        refine J_ld 96 jw hj rfl rfl rfl rfl ?_
        refine J_cst 97 jw hj rfl rfl rfl ?_
        refine J_bin jw hj rfl rfl ?_
        rw [show iop (· + ·) (7 : Int) 1 = 8 from by decide]
        refine J_callV1 jw rfl (Or.inl ⟨_, rfl⟩) rfl rfl (sp_X7_cond1 (g := g) (f_X9_advance (upI H 14 3 (iAdd (H.1 14 3) 1))) (rp_X9_advance (upI H 14 3 (iAdd (H.1 14 3) 1)) hr)) ?_
        refine J_ifc (t := 120) jw hj rfl (evn rfl) rfl (fun (h6 : ((f_X7_cond1 (f_X9_advance (upI H 14 3 (iAdd (H.1 14 3) 1)))).1) = 0) => ?_) (fun (h6 : ¬ ((f_X7_cond1 (f_X9_advance (upI H 14 3 (iAdd (H.1 14 3) 1)))).1) = 0) => ?_)
        · refine J_cst 121 jw hj rfl rfl rfl ?_
          exact J_ret rfl (Or.inl rfl) (fun aw hR => by show _ ∧ _; unfold f_X7_one2; rw [if_neg h0, if_pos h1, if_neg h3, if_pos h6]; exact ⟨rfl, hR⟩)
        · refine J_ld 105 jw hj rfl rfl rfl rfl ?_
          refine J_gfR (k := 4) jw hj rfl (evn rfl) (by decide) (by decide) (RSa (rp_X7_cond1 (f_X9_advance (upI H 14 3 (iAdd (H.1 14 3) 1))) (rp_X9_advance (upI H 14 3 (iAdd (H.1 14 3) 1)) hr)) rfl) ?_
          refine J_cst 110 jw hj rfl rfl rfl ?_
          refine J_callV1 jw rfl (Or.inl ⟨_, rfl⟩) rfl rfl (st_X9_passSign (g := g) 41 (f_X7_cond1 (f_X9_advance (upI H 14 3 (iAdd (H.1 14 3) 1)))).2 (RSt (rp_X7_cond1 (f_X9_advance (upI H 14 3 (iAdd (H.1 14 3) 1))) (rp_X9_advance (upI H 14 3 (iAdd (H.1 14 3) 1)) hr)))) ?_
          refine J_ifc (t := 120) jw hj rfl (evn rfl) rfl (fun (h7 : ((f_X9_passSign 41 (f_X7_cond1 (f_X9_advance (upI H 14 3 (iAdd (H.1 14 3) 1)))).2).1) = 0) => ?_) (fun (h7 : ¬ ((f_X9_passSign 41 (f_X7_cond1 (f_X9_advance (upI H 14 3 (iAdd (H.1 14 3) 1)))).2).1) = 0) => ?_)
          · refine J_cst 121 jw hj rfl rfl rfl ?_
            exact J_ret rfl (Or.inl rfl) (fun aw hR => by show _ ∧ _; unfold f_X7_one2; rw [if_neg h0, if_pos h1, if_neg h3, if_neg h6, if_pos h7]; exact ⟨rfl, hR⟩)
          · refine J_cst 117 jw hj rfl rfl rfl ?_
            refine J_goto 121 jw hj rfl rfl ?_
            exact J_ret rfl (Or.inl rfl) (fun aw hR => by show _ ∧ _; unfold f_X7_one2; rw [if_neg h0, if_pos h1, if_neg h3, if_neg h6, if_neg h7]; exact ⟨rfl, hR⟩)
  · refine J_ld 23 jw hj rfl rfl rfl rfl ?_
    refine J_gfR (k := 4) jw hj rfl (evn rfl) (by decide) (by decide) (RSa hr rfl) ?_
    refine J_gfI jw hj rfl (evn rfl) (by decide) rfl (fun r3 => ?_)
    refine J_cst 30 jw hj rfl rfl rfl ?_
    refine J_icmp (t := 40) jw hj rfl (evn rfl) rfl (fun (h8 : ¬ H.1 4 10 = 4) => ?_) (fun (h8 : H.1 4 10 = 4) => ?_)
    · refine J_ld 41 jw hj rfl rfl rfl rfl ?_
      refine J_gfR (k := 4) jw hj rfl (evn rfl) (by decide) (by decide) (RSa hr rfl) ?_
      refine J_cst 45 jw hj rfl rfl rfl ?_
      refine J_callV1 jw rfl (Or.inl ⟨_, rfl⟩) rfl rfl (st_X9_fail (g := g) 1 H (RSt hr)) ?_
      exact J_ret rfl (Or.inl rfl) (fun aw hR => by show _ ∧ _; unfold f_X7_one2; rw [if_pos h0, if_neg h8]; exact ⟨rfl, hR⟩)
    · refine J_ld 34 jw hj rfl rfl rfl rfl ?_
      refine J_callS1 jw rfl rfl rfl rfl (sp_X7_beginsOne (g := g) (H.1 4 11) H) ?_
      refine J_ifc (t := 49) jw hj rfl (evn rfl) rfl (fun (h9 : ¬ f_X7_beginsOne (H.1 4 11) = 0) => ?_) (fun (h9 : f_X7_beginsOne (H.1 4 11) = 0) => ?_)
      · refine J_ld 50 jw hj rfl rfl rfl rfl ?_
        refine J_gfI jw hj rfl (evn rfl) (by decide) rfl (fun r4 => ?_)
        refine J_cst 55 jw hj rfl rfl rfl ?_
        refine J_icmp (t := 64) jw hj rfl (evn rfl) rfl (fun (h10 : ¬ H.1 14 3 < 20) => ?_) (fun (h10 : H.1 14 3 < 20) => ?_)
        · refine J_ld 65 jw hj rfl rfl rfl rfl ?_
          refine J_gfR (k := 4) jw hj rfl (evn rfl) (by decide) (by decide) (RSa hr rfl) ?_
          refine J_cst 69 jw hj rfl rfl rfl ?_
          refine J_callV1 jw rfl (Or.inl ⟨_, rfl⟩) rfl rfl (st_X9_fail (g := g) 4 H (RSt hr)) ?_
          exact J_ret rfl (Or.inl rfl) (fun aw hR => by show _ ∧ _; unfold f_X7_one2; rw [if_pos h0, if_pos h8, if_neg h9, if_neg h10]; exact ⟨rfl, hR⟩)
        · refine J_ld 59 jw hj rfl rfl rfl rfl ?_
          refine J_cst 61 jw hj rfl rfl rfl ?_
          refine J_icmp (t := 73) jw hj rfl (evn rfl) rfl (fun (h11 : ¬ (8 : Int) < (7 : Int)) => ?_) (fun (h11 : (8 : Int) < (7 : Int)) => absurd h11 (by decide))
          refine J_ld 74 jw hj rfl rfl rfl rfl ?_
          refine J_dup 75 jw hj rfl rfl ?_
          refine J_gfI jw hj rfl (evn rfl) (by decide) rfl (fun r5 => ?_)
          refine J_cst 79 jw hj rfl rfl rfl ?_
          refine J_bin jw hj rfl rfl ?_
          refine J_pfI jw hj rfl (evn rfl) rfl ?_
          refine J_ld 84 jw hj rfl rfl rfl rfl ?_
          refine J_gfR (k := 4) jw hj rfl (evn rfl) (by decide) (by decide) (RSa hr rfl) ?_
          refine J_callV0 jw rfl (Or.inl ⟨_, rfl⟩) rfl rfl (st_X9_advance (g := g) (upI H 14 3 (iAdd (H.1 14 3) 1)) (RSt hr)) ?_
          refine J_ld 91 jw hj rfl rfl rfl rfl ?_
          refine J_ifc (t := 122) jw hj rfl (evn rfl) rfl (fun (h12 : f_X9_isAtSign 40 H = 0) => ?_) (fun (h12 : ¬ f_X9_isAtSign 40 H = 0) => ?_)
          · refine J_ld 123 jw hj rfl rfl rfl rfl ?_
            refine J_cst 125 jw hj rfl rfl rfl ?_
            refine J_icmp (t := 151) jw hj rfl (evn rfl) rfl (fun (h13 : ¬ H.1 4 11 = 18) => ?_) (fun (h13 : H.1 4 11 = 18) => ?_)
            · refine J_ld 152 jw hj rfl rfl rfl rfl ?_
              refine J_swR jw hj rfl (fun (h14 : H.1 4 11 = 5) => ?_) (fun (h14 : H.1 4 11 = 19) => ?_) (fun (h14 : H.1 4 11 = 4) => ?_) (fun (h14 : H.1 4 11 = 20 ∨ H.1 4 11 = 21 ∨ H.1 4 11 = 22) => ?_) (fun h14 h14_b h14_c h14_d => ?_)
              · refine J_ld 245 jw hj rfl rfl rfl rfl ?_
                refine J_ld 246 jw hj rfl rfl rfl rfl ?_
                refine J_cst 247 jw hj rfl rfl rfl ?_
                refine J_callV1 jw rfl (Or.inl ⟨_, rfl⟩) rfl rfl (sp_X7_readNamed (g := g) (H.1 4 11) 3 (f_X9_advance (upI H 14 3 (iAdd (H.1 14 3) 1))) (rp_X9_advance (upI H 14 3 (iAdd (H.1 14 3) 1)) hr)) ?_
                exact J_ret rfl (Or.inl rfl) (fun aw hR => by show _ ∧ _; unfold f_X7_one2; rw [if_pos h0, if_pos h8, if_neg h9, if_pos h10, if_pos h12, if_neg h13, if_pos h14]; exact ⟨rfl, hR⟩)
              · refine J_ld 252 jw hj rfl rfl rfl rfl ?_
                refine J_ld 253 jw hj rfl rfl rfl rfl ?_
                refine J_cst 254 jw hj rfl rfl rfl ?_
                refine J_callV1 jw rfl (Or.inl ⟨_, rfl⟩) rfl rfl (sp_X7_readNamed (g := g) (H.1 4 11) 0 (f_X9_advance (upI H 14 3 (iAdd (H.1 14 3) 1))) (rp_X9_advance (upI H 14 3 (iAdd (H.1 14 3) 1)) hr)) ?_
                exact J_ret rfl (Or.inl rfl) (fun aw hR => by show _ ∧ _; unfold f_X7_one2; rw [if_pos h0, if_pos h8, if_neg h9, if_pos h10, if_pos h12, if_neg h13, if_neg (show ¬ (H.1 4 11 = 5) by omega), if_pos h14]; exact ⟨rfl, hR⟩)
              · refine J_ld 259 jw hj rfl rfl rfl rfl ?_
                refine J_ld 260 jw hj rfl rfl rfl rfl ?_
                refine J_cst 261 jw hj rfl rfl rfl ?_
                refine J_callV1 jw rfl (Or.inl ⟨_, rfl⟩) rfl rfl (sp_X7_readNamed (g := g) (H.1 4 11) 1 (f_X9_advance (upI H 14 3 (iAdd (H.1 14 3) 1))) (rp_X9_advance (upI H 14 3 (iAdd (H.1 14 3) 1)) hr)) ?_
                exact J_ret rfl (Or.inl rfl) (fun aw hR => by show _ ∧ _; unfold f_X7_one2; rw [if_pos h0, if_pos h8, if_neg h9, if_pos h10, if_pos h12, if_neg h13, if_neg (show ¬ (H.1 4 11 = 5) by omega), if_neg (show ¬ (H.1 4 11 = 19) by omega), if_pos h14]; exact ⟨rfl, hR⟩)
              · refine J_ld 266 jw hj rfl rfl rfl rfl ?_
                refine J_ld 267 jw hj rfl rfl rfl rfl ?_
                refine J_callV1 jw rfl (Or.inl ⟨_, rfl⟩) rfl rfl (sp_X7_readComparison (g := g) (H.1 4 11) (f_X9_advance (upI H 14 3 (iAdd (H.1 14 3) 1))) (rp_X9_advance (upI H 14 3 (iAdd (H.1 14 3) 1)) hr)) ?_
                exact J_ret rfl (Or.inl rfl) (fun aw hR => by show _ ∧ _; unfold f_X7_one2; rw [if_pos h0, if_pos h8, if_neg h9, if_pos h10, if_pos h12, if_neg h13, if_neg (show ¬ (H.1 4 11 = 5) by omega), if_neg (show ¬ (H.1 4 11 = 19) by omega), if_neg (show ¬ (H.1 4 11 = 4) by omega), if_pos h14]; exact ⟨rfl, hR⟩)
              · refine J_ld 272 jw hj rfl rfl rfl rfl ?_
                refine J_gfR (k := 60) jw hj rfl (evn rfl) (by decide) (by decide) (RSa (rp_X9_advance (upI H 14 3 (iAdd (H.1 14 3) 1)) hr) rfl) ?_
                refine J_ld 276 jw hj rfl rfl rfl rfl ?_
                refine J_cst 277 jw hj rfl rfl rfl ?_
                refine J_cst 278 jw hj rfl rfl rfl ?_
                refine J_callV0 jw rfl (Or.inl ⟨_, rfl⟩) rfl rfl (sp_X6_addStep (g := g) (H.1 4 11) 0 0 (f_X9_advance (upI H 14 3 (iAdd (H.1 14 3) 1))) (rp_X9_advance (upI H 14 3 (iAdd (H.1 14 3) 1)) hr)) ?_
                refine J_cst 282 jw hj rfl rfl rfl ?_
                exact J_ret rfl (Or.inl rfl) (fun aw hR => by show _ ∧ _; unfold f_X7_one2; rw [if_pos h0, if_pos h8, if_neg h9, if_pos h10, if_pos h12, if_neg h13, if_neg h14, if_neg h14_b, if_neg h14_c, if_neg h14_d]; exact ⟨rfl, hR⟩)
            · refine J_ld 129 jw hj rfl rfl rfl rfl ?_
              refine J_ld 130 jw hj rfl rfl rfl rfl ?_
              refine J_cst 131 jw hj rfl rfl rfl ?_
              refine J_bin jw hj rfl rfl ?_
              rw [show iop (· + ·) (7 : Int) 1 = 8 from by decide]
              refine J_callV1 jw rfl (Or.inl ⟨_, rfl⟩) rfl rfl (sp_X7_one1 (g := g) (f_X9_advance (upI H 14 3 (iAdd (H.1 14 3) 1))) (rp_X9_advance (upI H 14 3 (iAdd (H.1 14 3) 1)) hr)) ?_
              refine J_st 137 [rf (g 14), pt 7, pt (f_X9_isAtSign 40 H), pt (H.1 4 11), pt ((f_X7_one1 (f_X9_advance (upI H 14 3 (iAdd (H.1 14 3) 1)))).1)] (k := 4) jw hj rfl (Or.inl ⟨rfl, rfl⟩) rfl ?_
              refine J_ld 138 jw hj rfl rfl rfl rfl ?_
              refine J_gfR (k := 60) jw hj rfl (evn rfl) (by decide) (by decide) (RSa (rp_X7_one1 (f_X9_advance (upI H 14 3 (iAdd (H.1 14 3) 1))) (rp_X9_advance (upI H 14 3 (iAdd (H.1 14 3) 1)) hr)) rfl) ?_
              refine J_cst 143 jw hj rfl rfl rfl ?_
              refine J_cst 144 jw hj rfl rfl rfl ?_
              refine J_cst 145 jw hj rfl rfl rfl ?_
              refine J_callV0 jw rfl (Or.inl ⟨_, rfl⟩) rfl rfl (sp_X6_addStep (g := g) 18 0 0 (f_X7_one1 (f_X9_advance (upI H 14 3 (iAdd (H.1 14 3) 1)))).2 (rp_X7_one1 (f_X9_advance (upI H 14 3 (iAdd (H.1 14 3) 1))) (rp_X9_advance (upI H 14 3 (iAdd (H.1 14 3) 1)) hr))) ?_
              refine J_ld 150 jw hj rfl rfl rfl rfl ?_
              exact J_ret rfl (Or.inl rfl) (fun aw hR => by show _ ∧ _; unfold f_X7_one2; rw [if_pos h0, if_pos h8, if_neg h9, if_pos h10, if_pos h12, if_pos h13]; exact ⟨rfl, hR⟩)
          · refine J_ld 95 jw hj rfl rfl rfl rfl ?_
            refine J_ld 96 jw hj rfl rfl rfl rfl ?_
            refine J_cst 97 jw hj rfl rfl rfl ?_
            refine J_bin jw hj rfl rfl ?_
            rw [show iop (· + ·) (7 : Int) 1 = 8 from by decide]
            refine J_callV1 jw rfl (Or.inl ⟨_, rfl⟩) rfl rfl (sp_X7_cond1 (g := g) (f_X9_advance (upI H 14 3 (iAdd (H.1 14 3) 1))) (rp_X9_advance (upI H 14 3 (iAdd (H.1 14 3) 1)) hr)) ?_
            refine J_ifc (t := 120) jw hj rfl (evn rfl) rfl (fun (h15 : ((f_X7_cond1 (f_X9_advance (upI H 14 3 (iAdd (H.1 14 3) 1)))).1) = 0) => ?_) (fun (h15 : ¬ ((f_X7_cond1 (f_X9_advance (upI H 14 3 (iAdd (H.1 14 3) 1)))).1) = 0) => ?_)
            · refine J_cst 121 jw hj rfl rfl rfl ?_
              exact J_ret rfl (Or.inl rfl) (fun aw hR => by show _ ∧ _; unfold f_X7_one2; rw [if_pos h0, if_pos h8, if_neg h9, if_pos h10, if_neg h12, if_pos h15]; exact ⟨rfl, hR⟩)
            · refine J_ld 105 jw hj rfl rfl rfl rfl ?_
              refine J_gfR (k := 4) jw hj rfl (evn rfl) (by decide) (by decide) (RSa (rp_X7_cond1 (f_X9_advance (upI H 14 3 (iAdd (H.1 14 3) 1))) (rp_X9_advance (upI H 14 3 (iAdd (H.1 14 3) 1)) hr)) rfl) ?_
              refine J_cst 110 jw hj rfl rfl rfl ?_
              refine J_callV1 jw rfl (Or.inl ⟨_, rfl⟩) rfl rfl (st_X9_passSign (g := g) 41 (f_X7_cond1 (f_X9_advance (upI H 14 3 (iAdd (H.1 14 3) 1)))).2 (RSt (rp_X7_cond1 (f_X9_advance (upI H 14 3 (iAdd (H.1 14 3) 1))) (rp_X9_advance (upI H 14 3 (iAdd (H.1 14 3) 1)) hr)))) ?_
              refine J_ifc (t := 120) jw hj rfl (evn rfl) rfl (fun (h16 : ((f_X9_passSign 41 (f_X7_cond1 (f_X9_advance (upI H 14 3 (iAdd (H.1 14 3) 1)))).2).1) = 0) => ?_) (fun (h16 : ¬ ((f_X9_passSign 41 (f_X7_cond1 (f_X9_advance (upI H 14 3 (iAdd (H.1 14 3) 1)))).2).1) = 0) => ?_)
              · refine J_cst 121 jw hj rfl rfl rfl ?_
                exact J_ret rfl (Or.inl rfl) (fun aw hR => by show _ ∧ _; unfold f_X7_one2; rw [if_pos h0, if_pos h8, if_neg h9, if_pos h10, if_neg h12, if_neg h15, if_pos h16]; exact ⟨rfl, hR⟩)
              · refine J_cst 117 jw hj rfl rfl rfl ?_
                refine J_goto 121 jw hj rfl rfl ?_
                exact J_ret rfl (Or.inl rfl) (fun aw hR => by show _ ∧ _; unfold f_X7_one2; rw [if_pos h0, if_pos h8, if_neg h9, if_pos h10, if_neg h12, if_neg h15, if_neg h16]; exact ⟨rfl, hR⟩)
      · refine J_ld 41 jw hj rfl rfl rfl rfl ?_
        refine J_gfR (k := 4) jw hj rfl (evn rfl) (by decide) (by decide) (RSa hr rfl) ?_
        refine J_cst 45 jw hj rfl rfl rfl ?_
        refine J_callV1 jw rfl (Or.inl ⟨_, rfl⟩) rfl rfl (st_X9_fail (g := g) 1 H (RSt hr)) ?_
        exact J_ret rfl (Or.inl rfl) (fun aw hR => by show _ ∧ _; unfold f_X7_one2; rw [if_pos h0, if_pos h8, if_pos h9]; exact ⟨rfl, hR⟩)
theorem rp_X7_one2 {P : (Nat → Nat → Option Nat) → Prop}  (H : hH) (hr : P H.2.2.1) : P (f_X7_one2 H).2.2.2.1 := by
  unfold f_X7_one2
  by_cases q1 : f_X9_isAtSign 40 H = 0
  · rw [if_pos q1]
    by_cases q2 : H.1 4 10 = 4
    · rw [if_pos q2]
      by_cases q3 : f_X7_beginsOne (H.1 4 11) = 0
      · rw [if_pos q3]
        exact (rp_X9_fail 1 H hr)
      · rw [if_neg q3]
        by_cases q4 : H.1 14 3 < 20
        · rw [if_pos q4]
          by_cases q5 : f_X9_isAtSign 40 H = 0
          · rw [if_pos q5]
            by_cases q6 : H.1 4 11 = 18
            · rw [if_pos q6]
              exact (rp_X6_addStep 18 0 0 (f_X7_one1 (f_X9_advance (upI H 14 3 (iAdd (H.1 14 3) 1)))).2 (rp_X7_one1 (f_X9_advance (upI H 14 3 (iAdd (H.1 14 3) 1))) (rp_X9_advance (upI H 14 3 (iAdd (H.1 14 3) 1)) hr)))
            · rw [if_neg q6]
              by_cases q7 : H.1 4 11 = 5
              · rw [if_pos q7]
                exact (rp_X7_readNamed (H.1 4 11) 3 (f_X9_advance (upI H 14 3 (iAdd (H.1 14 3) 1))) (rp_X9_advance (upI H 14 3 (iAdd (H.1 14 3) 1)) hr))
              · rw [if_neg q7]
                by_cases q8 : H.1 4 11 = 19
                · rw [if_pos q8]
                  exact (rp_X7_readNamed (H.1 4 11) 0 (f_X9_advance (upI H 14 3 (iAdd (H.1 14 3) 1))) (rp_X9_advance (upI H 14 3 (iAdd (H.1 14 3) 1)) hr))
                · rw [if_neg q8]
                  by_cases q9 : H.1 4 11 = 4
                  · rw [if_pos q9]
                    exact (rp_X7_readNamed (H.1 4 11) 1 (f_X9_advance (upI H 14 3 (iAdd (H.1 14 3) 1))) (rp_X9_advance (upI H 14 3 (iAdd (H.1 14 3) 1)) hr))
                  · rw [if_neg q9]
                    by_cases q10 : H.1 4 11 = 20 ∨ H.1 4 11 = 21 ∨ H.1 4 11 = 22
                    · rw [if_pos q10]
                      exact (rp_X7_readComparison (H.1 4 11) (f_X9_advance (upI H 14 3 (iAdd (H.1 14 3) 1))) (rp_X9_advance (upI H 14 3 (iAdd (H.1 14 3) 1)) hr))
                    · rw [if_neg q10]
                      exact (rp_X6_addStep (H.1 4 11) 0 0 (f_X9_advance (upI H 14 3 (iAdd (H.1 14 3) 1))) (rp_X9_advance (upI H 14 3 (iAdd (H.1 14 3) 1)) hr))
          · rw [if_neg q5]
            by_cases q6 : ((f_X7_cond1 (f_X9_advance (upI H 14 3 (iAdd (H.1 14 3) 1)))).1) = 0
            · rw [if_pos q6]
              exact (rp_X7_cond1 (f_X9_advance (upI H 14 3 (iAdd (H.1 14 3) 1))) (rp_X9_advance (upI H 14 3 (iAdd (H.1 14 3) 1)) hr))
            · rw [if_neg q6]
              by_cases q7 : ((f_X9_passSign 41 (f_X7_cond1 (f_X9_advance (upI H 14 3 (iAdd (H.1 14 3) 1)))).2).1) = 0
              · rw [if_pos q7]
                exact (rp_X9_passSign 41 (f_X7_cond1 (f_X9_advance (upI H 14 3 (iAdd (H.1 14 3) 1)))).2 (rp_X7_cond1 (f_X9_advance (upI H 14 3 (iAdd (H.1 14 3) 1))) (rp_X9_advance (upI H 14 3 (iAdd (H.1 14 3) 1)) hr)))
              · rw [if_neg q7]
                exact (rp_X9_passSign 41 (f_X7_cond1 (f_X9_advance (upI H 14 3 (iAdd (H.1 14 3) 1)))).2 (rp_X7_cond1 (f_X9_advance (upI H 14 3 (iAdd (H.1 14 3) 1))) (rp_X9_advance (upI H 14 3 (iAdd (H.1 14 3) 1)) hr)))
        · rw [if_neg q4]
          exact (rp_X9_fail 4 H hr)
    · rw [if_neg q2]
      exact (rp_X9_fail 1 H hr)
  · rw [if_neg q1]
    by_cases q2 : H.1 14 3 < 20
    · rw [if_pos q2]
      by_cases q3 : f_X9_isAtSign 40 H = 0
      · rw [if_pos q3]
        by_cases q4 : H.1 4 11 = 18
        · rw [if_pos q4]
          exact (rp_X6_addStep 18 0 0 (f_X7_one1 (f_X9_advance (upI H 14 3 (iAdd (H.1 14 3) 1)))).2 (rp_X7_one1 (f_X9_advance (upI H 14 3 (iAdd (H.1 14 3) 1))) (rp_X9_advance (upI H 14 3 (iAdd (H.1 14 3) 1)) hr)))
        · rw [if_neg q4]
          by_cases q5 : H.1 4 11 = 5
          · rw [if_pos q5]
            exact (rp_X7_readNamed (H.1 4 11) 3 (f_X9_advance (upI H 14 3 (iAdd (H.1 14 3) 1))) (rp_X9_advance (upI H 14 3 (iAdd (H.1 14 3) 1)) hr))
          · rw [if_neg q5]
            by_cases q6 : H.1 4 11 = 19
            · rw [if_pos q6]
              exact (rp_X7_readNamed (H.1 4 11) 0 (f_X9_advance (upI H 14 3 (iAdd (H.1 14 3) 1))) (rp_X9_advance (upI H 14 3 (iAdd (H.1 14 3) 1)) hr))
            · rw [if_neg q6]
              by_cases q7 : H.1 4 11 = 4
              · rw [if_pos q7]
                exact (rp_X7_readNamed (H.1 4 11) 1 (f_X9_advance (upI H 14 3 (iAdd (H.1 14 3) 1))) (rp_X9_advance (upI H 14 3 (iAdd (H.1 14 3) 1)) hr))
              · rw [if_neg q7]
                by_cases q8 : H.1 4 11 = 20 ∨ H.1 4 11 = 21 ∨ H.1 4 11 = 22
                · rw [if_pos q8]
                  exact (rp_X7_readComparison (H.1 4 11) (f_X9_advance (upI H 14 3 (iAdd (H.1 14 3) 1))) (rp_X9_advance (upI H 14 3 (iAdd (H.1 14 3) 1)) hr))
                · rw [if_neg q8]
                  exact (rp_X6_addStep (H.1 4 11) 0 0 (f_X9_advance (upI H 14 3 (iAdd (H.1 14 3) 1))) (rp_X9_advance (upI H 14 3 (iAdd (H.1 14 3) 1)) hr))
      · rw [if_neg q3]
        by_cases q4 : ((f_X7_cond1 (f_X9_advance (upI H 14 3 (iAdd (H.1 14 3) 1)))).1) = 0
        · rw [if_pos q4]
          exact (rp_X7_cond1 (f_X9_advance (upI H 14 3 (iAdd (H.1 14 3) 1))) (rp_X9_advance (upI H 14 3 (iAdd (H.1 14 3) 1)) hr))
        · rw [if_neg q4]
          by_cases q5 : ((f_X9_passSign 41 (f_X7_cond1 (f_X9_advance (upI H 14 3 (iAdd (H.1 14 3) 1)))).2).1) = 0
          · rw [if_pos q5]
            exact (rp_X9_passSign 41 (f_X7_cond1 (f_X9_advance (upI H 14 3 (iAdd (H.1 14 3) 1)))).2 (rp_X7_cond1 (f_X9_advance (upI H 14 3 (iAdd (H.1 14 3) 1))) (rp_X9_advance (upI H 14 3 (iAdd (H.1 14 3) 1)) hr)))
          · rw [if_neg q5]
            exact (rp_X9_passSign 41 (f_X7_cond1 (f_X9_advance (upI H 14 3 (iAdd (H.1 14 3) 1)))).2 (rp_X7_cond1 (f_X9_advance (upI H 14 3 (iAdd (H.1 14 3) 1))) (rp_X9_advance (upI H 14 3 (iAdd (H.1 14 3) 1)) hr)))
    · rw [if_neg q2]
      exact (rp_X9_fail 4 H hr)
def f_X7_al2 : Nat → hH → Int × hH
  | 0, H => (1, H)
  | k + 1, H =>
    if f_X9_isAtWord 17 H = 0 then
      (1, H)
    else
      if ((f_X7_one2 (f_X9_advance H)).1) = 0 then
        (0, (f_X7_one2 (f_X9_advance H)).2)
      else
        f_X7_al2 k (f_X6_addStep 17 0 0 (f_X7_one2 (f_X9_advance H)).2)
set_option maxHeartbeats 16000000 in
set_option maxRecDepth 100000 in
theorem lp_X7_al2 {g : Nat → Nat} : ∀ (k i : Nat) (H : hH), i + k = 200 → RS H.2.2.1 → J g rvTab rvInf rvRet 316 rvMth 98 (fun res => res.1 = some (pt (f_X7_al2 k H).1) ∧ RH g res.2 (f_X7_al2 k H).2) 12 [rf (g 14), pt 7, pt (i : Int)] [] H := by
  intro k
  induction k with
  | zero =>
    intro i H hk hr
    have hj : 98 < 316 := by decide
    refine J_ld 13 jw hj rfl rfl rfl rfl ?_
    refine J_cst 16 jw hj rfl rfl rfl ?_
    refine J_icmp (t := 65) jw hj rfl (evn rfl) rfl (fun (h0 : ¬ (i : Int) < 200) => ?_) (fun (h0 : (i : Int) < 200) => ?_)
    · refine J_cst 66 jw hj rfl rfl rfl ?_
      exact J_ret rfl (Or.inl rfl) (fun aw hR => ⟨rfl, hR⟩)
    · exact absurd h0 (by omega)
  | succ k ih =>
    intro i H hk hr
    have hj : 98 < 316 := by decide
    refine J_ld 13 jw hj rfl rfl rfl rfl ?_
    refine J_cst 16 jw hj rfl rfl rfl ?_
    refine J_icmp (t := 65) jw hj rfl (evn rfl) rfl (fun (h0 : ¬ (i : Int) < 200) => ?_) (fun (h0 : (i : Int) < 200) => ?_)
    · refine J_cst 66 jw hj rfl rfl rfl ?_
      exact absurd (show (i : Int) < 200 by omega) h0
    · refine J_ld 20 jw hj rfl rfl rfl rfl ?_
      refine J_gfR (k := 4) jw hj rfl (evn rfl) (by decide) (by decide) (RSa hr rfl) ?_
      refine J_cst 25 jw hj rfl rfl rfl ?_
      refine J_callV1 jw rfl (Or.inl ⟨_, rfl⟩) rfl rfl (sp_X9_isAtWord (g := g) 17 H) ?_
      refine J_ifc (t := 65) jw hj rfl (evn rfl) rfl (fun (h1 : f_X9_isAtWord 17 H = 0) => ?_) (fun (h1 : ¬ f_X9_isAtWord 17 H = 0) => ?_)
      · refine J_cst 66 jw hj rfl rfl rfl ?_
        exact J_ret rfl (Or.inl rfl) (fun aw hR => by show _ ∧ _; rw [f_X7_al2]; rw [if_pos h1]; exact ⟨rfl, hR⟩)
      · refine J_ld 32 jw hj rfl rfl rfl rfl ?_
        refine J_gfR (k := 4) jw hj rfl (evn rfl) (by decide) (by decide) (RSa hr rfl) ?_
        refine J_callV0 jw rfl (Or.inl ⟨_, rfl⟩) rfl rfl (st_X9_advance (g := g) H (RSt hr)) ?_
        refine J_ld 39 jw hj rfl rfl rfl rfl ?_
        refine J_ld 40 jw hj rfl rfl rfl rfl ?_
        refine J_callV1 jw rfl (Or.inl ⟨_, rfl⟩) rfl rfl (sp_X7_one2 (g := g) (f_X9_advance H) (rp_X9_advance H hr)) ?_
        refine J_ifc (t := 48) jw hj rfl (evn rfl) rfl (fun (h2 : ¬ ((f_X7_one2 (f_X9_advance H)).1) = 0) => ?_) (fun (h2 : ((f_X7_one2 (f_X9_advance H)).1) = 0) => ?_)
        · refine J_ld 49 jw hj rfl rfl rfl rfl ?_
          refine J_gfR (k := 60) jw hj rfl (evn rfl) (by decide) (by decide) (RSa (rp_X7_one2 (f_X9_advance H) (rp_X9_advance H hr)) rfl) ?_
          refine J_cst 54 jw hj rfl rfl rfl ?_
          refine J_cst 55 jw hj rfl rfl rfl ?_
          refine J_cst 56 jw hj rfl rfl rfl ?_
          refine J_callV0 jw rfl (Or.inl ⟨_, rfl⟩) rfl rfl (sp_X6_addStep (g := g) 17 0 0 (f_X7_one2 (f_X9_advance H)).2 (rp_X7_one2 (f_X9_advance H) (rp_X9_advance H hr))) ?_
          refine J_iinc (al' := [rf (g 14), pt 7, pt (iAdd (i : Int) 1)]) jw hj rfl (evn rfl) rfl rfl ?_
          refine J_goto 12 jw hj rfl rfl ?_
          rw [show iAdd (i : Int) 1 = ((i + 1 : Nat) : Int) from iAdd_1 (by omega)]
          have e2 : f_X7_al2 (k + 1) H = f_X7_al2 k (f_X6_addStep 17 0 0 (f_X7_one2 (f_X9_advance H)).2) := by
            rw [f_X7_al2]
            rw [if_neg h1, if_neg h2]
          rw [e2]
          exact ih (i + 1) (f_X6_addStep 17 0 0 (f_X7_one2 (f_X9_advance H)).2) (by omega) (rp_X6_addStep 17 0 0 (f_X7_one2 (f_X9_advance H)).2 (rp_X7_one2 (f_X9_advance H) (rp_X9_advance H hr)))
        · refine J_cst 47 jw hj rfl rfl rfl ?_
          exact J_ret rfl (Or.inl rfl) (fun aw hR => by show _ ∧ _; rw [f_X7_al2]; rw [if_neg h1, if_pos h2]; exact ⟨rfl, hR⟩)
theorem rp_X7_al2 {P : (Nat → Nat → Option Nat) → Prop} : ∀ (k : Nat) (H : hH), P H.2.2.1 → P (f_X7_al2 k H).2.2.2.1 := by
  intro k
  induction k with
  | zero => intro H hr; exact hr
  | succ k ih =>
    intro H hr
    rw [f_X7_al2]
    by_cases q2 : f_X9_isAtWord 17 H = 0
    · rw [if_pos q2]
      exact hr
    · rw [if_neg q2]
      by_cases q3 : ((f_X7_one2 (f_X9_advance H)).1) = 0
      · rw [if_pos q3]
        exact (rp_X7_one2 (f_X9_advance H) (rp_X9_advance H hr))
      · rw [if_neg q3]
        exact ih (f_X6_addStep 17 0 0 (f_X7_one2 (f_X9_advance H)).2) (rp_X6_addStep 17 0 0 (f_X7_one2 (f_X9_advance H)).2 (rp_X7_one2 (f_X9_advance H) (rp_X9_advance H hr)))
def f_X7_all2  (H : hH) : Int × hH :=
  if ((f_X7_one2 H).1) = 0 then
    (0, (f_X7_one2 H).2)
  else
    ((f_X7_al2 200 (f_X7_one2 H).2).1, (f_X7_al2 200 (f_X7_one2 H).2).2)
set_option maxHeartbeats 16000000 in
set_option maxRecDepth 100000 in
theorem sp_X7_all2 {g : Nat → Nat}  (H : hH) (hr : RS H.2.2.1) : SP g rvTab rvInf rvRet 316 rvMth 98 [rf (g 14), pt 7] H (some (pt (f_X7_all2 H).1)) (f_X7_all2 H).2 := by
  have hj : 98 < 316 := by decide
  refine J_SP hj (Nat.le_of_ble_eq_true rfl) ?_
  show J g rvTab rvInf rvRet 316 rvMth 98 _ 0 [rf (g 14), pt 7, rvU] [] H
  refine J_ld 1 jw hj rfl rfl rfl rfl ?_
  refine J_ld 2 jw hj rfl rfl rfl rfl ?_
  refine J_callV1 jw rfl (Or.inl ⟨_, rfl⟩) rfl rfl (sp_X7_one2 (g := g) H hr) ?_
  refine J_ifc (t := 10) jw hj rfl (evn rfl) rfl (fun (h0 : ¬ ((f_X7_one2 H).1) = 0) => ?_) (fun (h0 : ((f_X7_one2 H).1) = 0) => ?_)
  · refine J_cst 11 jw hj rfl rfl rfl ?_
    refine J_st 12 [rf (g 14), pt 7, pt 0] (k := 2) jw hj rfl (Or.inr (Or.inr (Or.inl ⟨_, rfl, rfl, rfl⟩))) rfl ?_
    have e : f_X7_all2 H = (f_X7_al2 200 (f_X7_one2 H).2) := by
      unfold f_X7_all2
      rw [if_neg h0]
    rw [e]
    exact lp_X7_al2 200 0 (f_X7_one2 H).2 rfl (rp_X7_one2 H hr)
  · refine J_cst 9 jw hj rfl rfl rfl ?_
    exact J_ret rfl (Or.inl rfl) (fun aw hR => by show _ ∧ _; unfold f_X7_all2; rw [if_pos h0]; exact ⟨rfl, hR⟩)
theorem rp_X7_all2 {P : (Nat → Nat → Option Nat) → Prop}  (H : hH) (hr : P H.2.2.1) : P (f_X7_all2 H).2.2.2.1 := by
  unfold f_X7_all2
  by_cases q1 : ((f_X7_one2 H).1) = 0
  · rw [if_pos q1]
    exact (rp_X7_one2 H hr)
  · rw [if_neg q1]
    exact (rp_X7_al2 200 (f_X7_one2 H).2 (rp_X7_one2 H hr))
def f_X7_cl2 : Nat → hH → Int × hH
  | 0, H => (1, H)
  | k + 1, H =>
    if f_X9_isAtWord 16 H = 0 then
      (1, H)
    else
      if ((f_X7_all2 (f_X9_advance H)).1) = 0 then
        (0, (f_X7_all2 (f_X9_advance H)).2)
      else
        f_X7_cl2 k (f_X6_addStep 16 0 0 (f_X7_all2 (f_X9_advance H)).2)
set_option maxHeartbeats 16000000 in
set_option maxRecDepth 100000 in
theorem lp_X7_cl2 {g : Nat → Nat} : ∀ (k i : Nat) (H : hH), i + k = 200 → RS H.2.2.1 → J g rvTab rvInf rvRet 316 rvMth 99 (fun res => res.1 = some (pt (f_X7_cl2 k H).1) ∧ RH g res.2 (f_X7_cl2 k H).2) 12 [rf (g 14), pt 7, pt (i : Int)] [] H := by
  intro k
  induction k with
  | zero =>
    intro i H hk hr
    have hj : 99 < 316 := by decide
    refine J_ld 13 jw hj rfl rfl rfl rfl ?_
    refine J_cst 16 jw hj rfl rfl rfl ?_
    refine J_icmp (t := 65) jw hj rfl (evn rfl) rfl (fun (h0 : ¬ (i : Int) < 200) => ?_) (fun (h0 : (i : Int) < 200) => ?_)
    · refine J_cst 66 jw hj rfl rfl rfl ?_
      exact J_ret rfl (Or.inl rfl) (fun aw hR => ⟨rfl, hR⟩)
    · exact absurd h0 (by omega)
  | succ k ih =>
    intro i H hk hr
    have hj : 99 < 316 := by decide
    refine J_ld 13 jw hj rfl rfl rfl rfl ?_
    refine J_cst 16 jw hj rfl rfl rfl ?_
    refine J_icmp (t := 65) jw hj rfl (evn rfl) rfl (fun (h0 : ¬ (i : Int) < 200) => ?_) (fun (h0 : (i : Int) < 200) => ?_)
    · refine J_cst 66 jw hj rfl rfl rfl ?_
      exact absurd (show (i : Int) < 200 by omega) h0
    · refine J_ld 20 jw hj rfl rfl rfl rfl ?_
      refine J_gfR (k := 4) jw hj rfl (evn rfl) (by decide) (by decide) (RSa hr rfl) ?_
      refine J_cst 25 jw hj rfl rfl rfl ?_
      refine J_callV1 jw rfl (Or.inl ⟨_, rfl⟩) rfl rfl (sp_X9_isAtWord (g := g) 16 H) ?_
      refine J_ifc (t := 65) jw hj rfl (evn rfl) rfl (fun (h1 : f_X9_isAtWord 16 H = 0) => ?_) (fun (h1 : ¬ f_X9_isAtWord 16 H = 0) => ?_)
      · refine J_cst 66 jw hj rfl rfl rfl ?_
        exact J_ret rfl (Or.inl rfl) (fun aw hR => by show _ ∧ _; rw [f_X7_cl2]; rw [if_pos h1]; exact ⟨rfl, hR⟩)
      · refine J_ld 32 jw hj rfl rfl rfl rfl ?_
        refine J_gfR (k := 4) jw hj rfl (evn rfl) (by decide) (by decide) (RSa hr rfl) ?_
        refine J_callV0 jw rfl (Or.inl ⟨_, rfl⟩) rfl rfl (st_X9_advance (g := g) H (RSt hr)) ?_
        refine J_ld 39 jw hj rfl rfl rfl rfl ?_
        refine J_ld 40 jw hj rfl rfl rfl rfl ?_
        refine J_callV1 jw rfl (Or.inl ⟨_, rfl⟩) rfl rfl (sp_X7_all2 (g := g) (f_X9_advance H) (rp_X9_advance H hr)) ?_
        refine J_ifc (t := 48) jw hj rfl (evn rfl) rfl (fun (h2 : ¬ ((f_X7_all2 (f_X9_advance H)).1) = 0) => ?_) (fun (h2 : ((f_X7_all2 (f_X9_advance H)).1) = 0) => ?_)
        · refine J_ld 49 jw hj rfl rfl rfl rfl ?_
          refine J_gfR (k := 60) jw hj rfl (evn rfl) (by decide) (by decide) (RSa (rp_X7_all2 (f_X9_advance H) (rp_X9_advance H hr)) rfl) ?_
          refine J_cst 54 jw hj rfl rfl rfl ?_
          refine J_cst 55 jw hj rfl rfl rfl ?_
          refine J_cst 56 jw hj rfl rfl rfl ?_
          refine J_callV0 jw rfl (Or.inl ⟨_, rfl⟩) rfl rfl (sp_X6_addStep (g := g) 16 0 0 (f_X7_all2 (f_X9_advance H)).2 (rp_X7_all2 (f_X9_advance H) (rp_X9_advance H hr))) ?_
          refine J_iinc (al' := [rf (g 14), pt 7, pt (iAdd (i : Int) 1)]) jw hj rfl (evn rfl) rfl rfl ?_
          refine J_goto 12 jw hj rfl rfl ?_
          rw [show iAdd (i : Int) 1 = ((i + 1 : Nat) : Int) from iAdd_1 (by omega)]
          have e2 : f_X7_cl2 (k + 1) H = f_X7_cl2 k (f_X6_addStep 16 0 0 (f_X7_all2 (f_X9_advance H)).2) := by
            rw [f_X7_cl2]
            rw [if_neg h1, if_neg h2]
          rw [e2]
          exact ih (i + 1) (f_X6_addStep 16 0 0 (f_X7_all2 (f_X9_advance H)).2) (by omega) (rp_X6_addStep 16 0 0 (f_X7_all2 (f_X9_advance H)).2 (rp_X7_all2 (f_X9_advance H) (rp_X9_advance H hr)))
        · refine J_cst 47 jw hj rfl rfl rfl ?_
          exact J_ret rfl (Or.inl rfl) (fun aw hR => by show _ ∧ _; rw [f_X7_cl2]; rw [if_neg h1, if_pos h2]; exact ⟨rfl, hR⟩)
theorem rp_X7_cl2 {P : (Nat → Nat → Option Nat) → Prop} : ∀ (k : Nat) (H : hH), P H.2.2.1 → P (f_X7_cl2 k H).2.2.2.1 := by
  intro k
  induction k with
  | zero => intro H hr; exact hr
  | succ k ih =>
    intro H hr
    rw [f_X7_cl2]
    by_cases q2 : f_X9_isAtWord 16 H = 0
    · rw [if_pos q2]
      exact hr
    · rw [if_neg q2]
      by_cases q3 : ((f_X7_all2 (f_X9_advance H)).1) = 0
      · rw [if_pos q3]
        exact (rp_X7_all2 (f_X9_advance H) (rp_X9_advance H hr))
      · rw [if_neg q3]
        exact ih (f_X6_addStep 16 0 0 (f_X7_all2 (f_X9_advance H)).2) (rp_X6_addStep 16 0 0 (f_X7_all2 (f_X9_advance H)).2 (rp_X7_all2 (f_X9_advance H) (rp_X9_advance H hr)))
def f_X7_cond2  (H : hH) : Int × hH :=
  if ((f_X7_all2 H).1) = 0 then
    (0, (f_X7_all2 H).2)
  else
    ((f_X7_cl2 200 (f_X7_all2 H).2).1, (f_X7_cl2 200 (f_X7_all2 H).2).2)
set_option maxHeartbeats 16000000 in
set_option maxRecDepth 100000 in
theorem sp_X7_cond2 {g : Nat → Nat}  (H : hH) (hr : RS H.2.2.1) : SP g rvTab rvInf rvRet 316 rvMth 99 [rf (g 14), pt 7] H (some (pt (f_X7_cond2 H).1)) (f_X7_cond2 H).2 := by
  have hj : 99 < 316 := by decide
  refine J_SP hj (Nat.le_of_ble_eq_true rfl) ?_
  show J g rvTab rvInf rvRet 316 rvMth 99 _ 0 [rf (g 14), pt 7, rvU] [] H
  refine J_ld 1 jw hj rfl rfl rfl rfl ?_
  refine J_ld 2 jw hj rfl rfl rfl rfl ?_
  refine J_callV1 jw rfl (Or.inl ⟨_, rfl⟩) rfl rfl (sp_X7_all2 (g := g) H hr) ?_
  refine J_ifc (t := 10) jw hj rfl (evn rfl) rfl (fun (h0 : ¬ ((f_X7_all2 H).1) = 0) => ?_) (fun (h0 : ((f_X7_all2 H).1) = 0) => ?_)
  · refine J_cst 11 jw hj rfl rfl rfl ?_
    refine J_st 12 [rf (g 14), pt 7, pt 0] (k := 2) jw hj rfl (Or.inr (Or.inr (Or.inl ⟨_, rfl, rfl, rfl⟩))) rfl ?_
    have e : f_X7_cond2 H = (f_X7_cl2 200 (f_X7_all2 H).2) := by
      unfold f_X7_cond2
      rw [if_neg h0]
    rw [e]
    exact lp_X7_cl2 200 0 (f_X7_all2 H).2 rfl (rp_X7_all2 H hr)
  · refine J_cst 9 jw hj rfl rfl rfl ?_
    exact J_ret rfl (Or.inl rfl) (fun aw hR => by show _ ∧ _; unfold f_X7_cond2; rw [if_pos h0]; exact ⟨rfl, hR⟩)
theorem rp_X7_cond2 {P : (Nat → Nat → Option Nat) → Prop}  (H : hH) (hr : P H.2.2.1) : P (f_X7_cond2 H).2.2.2.1 := by
  unfold f_X7_cond2
  by_cases q1 : ((f_X7_all2 H).1) = 0
  · rw [if_pos q1]
    exact (rp_X7_all2 H hr)
  · rw [if_neg q1]
    exact (rp_X7_cl2 200 (f_X7_all2 H).2 (rp_X7_all2 H hr))
def f_X7_one3  (H : hH) : Int × hH :=
  if f_X9_isAtSign 40 H = 0 then
    if H.1 4 10 = 4 then
      if f_X7_beginsOne (H.1 4 11) = 0 then
        ((f_X9_fail 1 H).1, (f_X9_fail 1 H).2)
      else
        if H.1 14 3 < 20 then
          if f_X9_isAtSign 40 H = 0 then
            if H.1 4 11 = 18 then
              ((f_X7_one2 (f_X9_advance (upI H 14 3 (iAdd (H.1 14 3) 1)))).1, (f_X6_addStep 18 0 0 (f_X7_one2 (f_X9_advance (upI H 14 3 (iAdd (H.1 14 3) 1)))).2))
            else
              if H.1 4 11 = 5 then
                ((f_X7_readNamed (H.1 4 11) 3 (f_X9_advance (upI H 14 3 (iAdd (H.1 14 3) 1)))).1, (f_X7_readNamed (H.1 4 11) 3 (f_X9_advance (upI H 14 3 (iAdd (H.1 14 3) 1)))).2)
              else
                if H.1 4 11 = 19 then
                  ((f_X7_readNamed (H.1 4 11) 0 (f_X9_advance (upI H 14 3 (iAdd (H.1 14 3) 1)))).1, (f_X7_readNamed (H.1 4 11) 0 (f_X9_advance (upI H 14 3 (iAdd (H.1 14 3) 1)))).2)
                else
                  if H.1 4 11 = 4 then
                    ((f_X7_readNamed (H.1 4 11) 1 (f_X9_advance (upI H 14 3 (iAdd (H.1 14 3) 1)))).1, (f_X7_readNamed (H.1 4 11) 1 (f_X9_advance (upI H 14 3 (iAdd (H.1 14 3) 1)))).2)
                  else
                    if H.1 4 11 = 20 ∨ H.1 4 11 = 21 ∨ H.1 4 11 = 22 then
                      ((f_X7_readComparison (H.1 4 11) (f_X9_advance (upI H 14 3 (iAdd (H.1 14 3) 1)))).1, (f_X7_readComparison (H.1 4 11) (f_X9_advance (upI H 14 3 (iAdd (H.1 14 3) 1)))).2)
                    else
                      (1, (f_X6_addStep (H.1 4 11) 0 0 (f_X9_advance (upI H 14 3 (iAdd (H.1 14 3) 1)))))
          else
            if ((f_X7_cond2 (f_X9_advance (upI H 14 3 (iAdd (H.1 14 3) 1)))).1) = 0 then
              (0, (f_X7_cond2 (f_X9_advance (upI H 14 3 (iAdd (H.1 14 3) 1)))).2)
            else
              if ((f_X9_passSign 41 (f_X7_cond2 (f_X9_advance (upI H 14 3 (iAdd (H.1 14 3) 1)))).2).1) = 0 then
                (0, (f_X9_passSign 41 (f_X7_cond2 (f_X9_advance (upI H 14 3 (iAdd (H.1 14 3) 1)))).2).2)
              else
                (1, (f_X9_passSign 41 (f_X7_cond2 (f_X9_advance (upI H 14 3 (iAdd (H.1 14 3) 1)))).2).2)
        else
          ((f_X9_fail 4 H).1, (f_X9_fail 4 H).2)
    else
      ((f_X9_fail 1 H).1, (f_X9_fail 1 H).2)
  else
    if H.1 14 3 < 20 then
      if f_X9_isAtSign 40 H = 0 then
        if H.1 4 11 = 18 then
          ((f_X7_one2 (f_X9_advance (upI H 14 3 (iAdd (H.1 14 3) 1)))).1, (f_X6_addStep 18 0 0 (f_X7_one2 (f_X9_advance (upI H 14 3 (iAdd (H.1 14 3) 1)))).2))
        else
          if H.1 4 11 = 5 then
            ((f_X7_readNamed (H.1 4 11) 3 (f_X9_advance (upI H 14 3 (iAdd (H.1 14 3) 1)))).1, (f_X7_readNamed (H.1 4 11) 3 (f_X9_advance (upI H 14 3 (iAdd (H.1 14 3) 1)))).2)
          else
            if H.1 4 11 = 19 then
              ((f_X7_readNamed (H.1 4 11) 0 (f_X9_advance (upI H 14 3 (iAdd (H.1 14 3) 1)))).1, (f_X7_readNamed (H.1 4 11) 0 (f_X9_advance (upI H 14 3 (iAdd (H.1 14 3) 1)))).2)
            else
              if H.1 4 11 = 4 then
                ((f_X7_readNamed (H.1 4 11) 1 (f_X9_advance (upI H 14 3 (iAdd (H.1 14 3) 1)))).1, (f_X7_readNamed (H.1 4 11) 1 (f_X9_advance (upI H 14 3 (iAdd (H.1 14 3) 1)))).2)
              else
                if H.1 4 11 = 20 ∨ H.1 4 11 = 21 ∨ H.1 4 11 = 22 then
                  ((f_X7_readComparison (H.1 4 11) (f_X9_advance (upI H 14 3 (iAdd (H.1 14 3) 1)))).1, (f_X7_readComparison (H.1 4 11) (f_X9_advance (upI H 14 3 (iAdd (H.1 14 3) 1)))).2)
                else
                  (1, (f_X6_addStep (H.1 4 11) 0 0 (f_X9_advance (upI H 14 3 (iAdd (H.1 14 3) 1)))))
      else
        if ((f_X7_cond2 (f_X9_advance (upI H 14 3 (iAdd (H.1 14 3) 1)))).1) = 0 then
          (0, (f_X7_cond2 (f_X9_advance (upI H 14 3 (iAdd (H.1 14 3) 1)))).2)
        else
          if ((f_X9_passSign 41 (f_X7_cond2 (f_X9_advance (upI H 14 3 (iAdd (H.1 14 3) 1)))).2).1) = 0 then
            (0, (f_X9_passSign 41 (f_X7_cond2 (f_X9_advance (upI H 14 3 (iAdd (H.1 14 3) 1)))).2).2)
          else
            (1, (f_X9_passSign 41 (f_X7_cond2 (f_X9_advance (upI H 14 3 (iAdd (H.1 14 3) 1)))).2).2)
    else
      ((f_X9_fail 4 H).1, (f_X9_fail 4 H).2)
set_option maxHeartbeats 16000000 in
set_option maxRecDepth 100000 in
theorem sp_X7_one3 {g : Nat → Nat}  (H : hH) (hr : RS H.2.2.1) : SP g rvTab rvInf rvRet 316 rvMth 100 [rf (g 14), pt 6] H (some (pt (f_X7_one3 H).1)) (f_X7_one3 H).2 := by
  have hj : 100 < 316 := by decide
  refine J_SP hj (Nat.le_of_ble_eq_true rfl) ?_
  show J g rvTab rvInf rvRet 316 rvMth 100 _ 0 [rf (g 14), pt 6, rvU, rvU, rvU] [] H
  refine J_ld 1 jw hj rfl rfl rfl rfl ?_
  refine J_gfR (k := 4) jw hj rfl (evn rfl) (by decide) (by decide) (RSa hr rfl) ?_
  refine J_cst 6 jw hj rfl rfl rfl ?_
  refine J_callV1 jw rfl (Or.inl ⟨_, rfl⟩) rfl rfl (sp_X9_isAtSign (g := g) 40 H) ?_
  refine J_st 10 [rf (g 14), pt 6, pt (f_X9_isAtSign 40 H), rvU, rvU] (k := 2) jw hj rfl (Or.inr (Or.inr (Or.inl ⟨_, rfl, rfl, rfl⟩))) rfl ?_
  refine J_ld 11 jw hj rfl rfl rfl rfl ?_
  refine J_gfR (k := 4) jw hj rfl (evn rfl) (by decide) (by decide) (RSa hr rfl) ?_
  refine J_gfI jw hj rfl (evn rfl) (by decide) rfl (fun r0 => ?_)
  refine J_st 18 [rf (g 14), pt 6, pt (f_X9_isAtSign 40 H), pt (H.1 4 11), rvU] (k := 3) jw hj rfl (Or.inr (Or.inr (Or.inl ⟨_, rfl, rfl, rfl⟩))) rfl ?_
  refine J_ld 19 jw hj rfl rfl rfl rfl ?_
  refine J_ifc (t := 49) jw hj rfl (evn rfl) rfl (fun (h0 : ¬ f_X9_isAtSign 40 H = 0) => ?_) (fun (h0 : f_X9_isAtSign 40 H = 0) => ?_)
  · refine J_ld 50 jw hj rfl rfl rfl rfl ?_
    refine J_gfI jw hj rfl (evn rfl) (by decide) rfl (fun r1 => ?_)
    refine J_cst 55 jw hj rfl rfl rfl ?_
    refine J_icmp (t := 64) jw hj rfl (evn rfl) rfl (fun (h1 : ¬ H.1 14 3 < 20) => ?_) (fun (h1 : H.1 14 3 < 20) => ?_)
    · refine J_ld 65 jw hj rfl rfl rfl rfl ?_
      refine J_gfR (k := 4) jw hj rfl (evn rfl) (by decide) (by decide) (RSa hr rfl) ?_
      refine J_cst 69 jw hj rfl rfl rfl ?_
      refine J_callV1 jw rfl (Or.inl ⟨_, rfl⟩) rfl rfl (st_X9_fail (g := g) 4 H (RSt hr)) ?_
      exact J_ret rfl (Or.inl rfl) (fun aw hR => by show _ ∧ _; unfold f_X7_one3; rw [if_neg h0, if_neg h1]; exact ⟨rfl, hR⟩)
    · refine J_ld 59 jw hj rfl rfl rfl rfl ?_
      refine J_cst 61 jw hj rfl rfl rfl ?_
      refine J_icmp (t := 73) jw hj rfl (evn rfl) rfl (fun (h2 : ¬ (8 : Int) < (6 : Int)) => ?_) (fun (h2 : (8 : Int) < (6 : Int)) => absurd h2 (by decide))
      refine J_ld 74 jw hj rfl rfl rfl rfl ?_
      refine J_dup 75 jw hj rfl rfl ?_
      refine J_gfI jw hj rfl (evn rfl) (by decide) rfl (fun r2 => ?_)
      refine J_cst 79 jw hj rfl rfl rfl ?_
      refine J_bin jw hj rfl rfl ?_
      refine J_pfI jw hj rfl (evn rfl) rfl ?_
      refine J_ld 84 jw hj rfl rfl rfl rfl ?_
      refine J_gfR (k := 4) jw hj rfl (evn rfl) (by decide) (by decide) (RSa hr rfl) ?_
      refine J_callV0 jw rfl (Or.inl ⟨_, rfl⟩) rfl rfl (st_X9_advance (g := g) (upI H 14 3 (iAdd (H.1 14 3) 1)) (RSt hr)) ?_
      refine J_ld 91 jw hj rfl rfl rfl rfl ?_
      refine J_ifc (t := 122) jw hj rfl (evn rfl) rfl (fun (h3 : f_X9_isAtSign 40 H = 0) => ?_) (fun (h3 : ¬ f_X9_isAtSign 40 H = 0) => ?_)
      · refine J_ld 123 jw hj rfl rfl rfl rfl ?_
        refine J_cst 125 jw hj rfl rfl rfl ?_
        refine J_icmp (t := 151) jw hj rfl (evn rfl) rfl (fun (h4 : ¬ H.1 4 11 = 18) => ?_) (fun (h4 : H.1 4 11 = 18) => ?_)
        · refine J_ld 152 jw hj rfl rfl rfl rfl ?_
          refine J_swR jw hj rfl (fun (h5 : H.1 4 11 = 5) => ?_) (fun (h5 : H.1 4 11 = 19) => ?_) (fun (h5 : H.1 4 11 = 4) => ?_) (fun (h5 : H.1 4 11 = 20 ∨ H.1 4 11 = 21 ∨ H.1 4 11 = 22) => ?_) (fun h5 h5_b h5_c h5_d => ?_)
          · refine J_ld 245 jw hj rfl rfl rfl rfl ?_
            refine J_ld 246 jw hj rfl rfl rfl rfl ?_
            refine J_cst 247 jw hj rfl rfl rfl ?_
            refine J_callV1 jw rfl (Or.inl ⟨_, rfl⟩) rfl rfl (sp_X7_readNamed (g := g) (H.1 4 11) 3 (f_X9_advance (upI H 14 3 (iAdd (H.1 14 3) 1))) (rp_X9_advance (upI H 14 3 (iAdd (H.1 14 3) 1)) hr)) ?_
            exact J_ret rfl (Or.inl rfl) (fun aw hR => by show _ ∧ _; unfold f_X7_one3; rw [if_neg h0, if_pos h1, if_pos h3, if_neg h4, if_pos h5]; exact ⟨rfl, hR⟩)
          · refine J_ld 252 jw hj rfl rfl rfl rfl ?_
            refine J_ld 253 jw hj rfl rfl rfl rfl ?_
            refine J_cst 254 jw hj rfl rfl rfl ?_
            refine J_callV1 jw rfl (Or.inl ⟨_, rfl⟩) rfl rfl (sp_X7_readNamed (g := g) (H.1 4 11) 0 (f_X9_advance (upI H 14 3 (iAdd (H.1 14 3) 1))) (rp_X9_advance (upI H 14 3 (iAdd (H.1 14 3) 1)) hr)) ?_
            exact J_ret rfl (Or.inl rfl) (fun aw hR => by show _ ∧ _; unfold f_X7_one3; rw [if_neg h0, if_pos h1, if_pos h3, if_neg h4, if_neg (show ¬ (H.1 4 11 = 5) by omega), if_pos h5]; exact ⟨rfl, hR⟩)
          · refine J_ld 259 jw hj rfl rfl rfl rfl ?_
            refine J_ld 260 jw hj rfl rfl rfl rfl ?_
            refine J_cst 261 jw hj rfl rfl rfl ?_
            refine J_callV1 jw rfl (Or.inl ⟨_, rfl⟩) rfl rfl (sp_X7_readNamed (g := g) (H.1 4 11) 1 (f_X9_advance (upI H 14 3 (iAdd (H.1 14 3) 1))) (rp_X9_advance (upI H 14 3 (iAdd (H.1 14 3) 1)) hr)) ?_
            exact J_ret rfl (Or.inl rfl) (fun aw hR => by show _ ∧ _; unfold f_X7_one3; rw [if_neg h0, if_pos h1, if_pos h3, if_neg h4, if_neg (show ¬ (H.1 4 11 = 5) by omega), if_neg (show ¬ (H.1 4 11 = 19) by omega), if_pos h5]; exact ⟨rfl, hR⟩)
          · refine J_ld 266 jw hj rfl rfl rfl rfl ?_
            refine J_ld 267 jw hj rfl rfl rfl rfl ?_
            refine J_callV1 jw rfl (Or.inl ⟨_, rfl⟩) rfl rfl (sp_X7_readComparison (g := g) (H.1 4 11) (f_X9_advance (upI H 14 3 (iAdd (H.1 14 3) 1))) (rp_X9_advance (upI H 14 3 (iAdd (H.1 14 3) 1)) hr)) ?_
            exact J_ret rfl (Or.inl rfl) (fun aw hR => by show _ ∧ _; unfold f_X7_one3; rw [if_neg h0, if_pos h1, if_pos h3, if_neg h4, if_neg (show ¬ (H.1 4 11 = 5) by omega), if_neg (show ¬ (H.1 4 11 = 19) by omega), if_neg (show ¬ (H.1 4 11 = 4) by omega), if_pos h5]; exact ⟨rfl, hR⟩)
          · refine J_ld 272 jw hj rfl rfl rfl rfl ?_
            refine J_gfR (k := 60) jw hj rfl (evn rfl) (by decide) (by decide) (RSa (rp_X9_advance (upI H 14 3 (iAdd (H.1 14 3) 1)) hr) rfl) ?_
            refine J_ld 276 jw hj rfl rfl rfl rfl ?_
            refine J_cst 277 jw hj rfl rfl rfl ?_
            refine J_cst 278 jw hj rfl rfl rfl ?_
            refine J_callV0 jw rfl (Or.inl ⟨_, rfl⟩) rfl rfl (sp_X6_addStep (g := g) (H.1 4 11) 0 0 (f_X9_advance (upI H 14 3 (iAdd (H.1 14 3) 1))) (rp_X9_advance (upI H 14 3 (iAdd (H.1 14 3) 1)) hr)) ?_
            refine J_cst 282 jw hj rfl rfl rfl ?_
            exact J_ret rfl (Or.inl rfl) (fun aw hR => by show _ ∧ _; unfold f_X7_one3; rw [if_neg h0, if_pos h1, if_pos h3, if_neg h4, if_neg h5, if_neg h5_b, if_neg h5_c, if_neg h5_d]; exact ⟨rfl, hR⟩)
        · refine J_ld 129 jw hj rfl rfl rfl rfl ?_
          refine J_ld 130 jw hj rfl rfl rfl rfl ?_
          refine J_cst 131 jw hj rfl rfl rfl ?_
          refine J_bin jw hj rfl rfl ?_
          rw [show iop (· + ·) (6 : Int) 1 = 7 from by decide]
          refine J_callV1 jw rfl (Or.inl ⟨_, rfl⟩) rfl rfl (sp_X7_one2 (g := g) (f_X9_advance (upI H 14 3 (iAdd (H.1 14 3) 1))) (rp_X9_advance (upI H 14 3 (iAdd (H.1 14 3) 1)) hr)) ?_
          refine J_st 137 [rf (g 14), pt 6, pt (f_X9_isAtSign 40 H), pt (H.1 4 11), pt ((f_X7_one2 (f_X9_advance (upI H 14 3 (iAdd (H.1 14 3) 1)))).1)] (k := 4) jw hj rfl (Or.inl ⟨rfl, rfl⟩) rfl ?_
          refine J_ld 138 jw hj rfl rfl rfl rfl ?_
          refine J_gfR (k := 60) jw hj rfl (evn rfl) (by decide) (by decide) (RSa (rp_X7_one2 (f_X9_advance (upI H 14 3 (iAdd (H.1 14 3) 1))) (rp_X9_advance (upI H 14 3 (iAdd (H.1 14 3) 1)) hr)) rfl) ?_
          refine J_cst 143 jw hj rfl rfl rfl ?_
          refine J_cst 144 jw hj rfl rfl rfl ?_
          refine J_cst 145 jw hj rfl rfl rfl ?_
          refine J_callV0 jw rfl (Or.inl ⟨_, rfl⟩) rfl rfl (sp_X6_addStep (g := g) 18 0 0 (f_X7_one2 (f_X9_advance (upI H 14 3 (iAdd (H.1 14 3) 1)))).2 (rp_X7_one2 (f_X9_advance (upI H 14 3 (iAdd (H.1 14 3) 1))) (rp_X9_advance (upI H 14 3 (iAdd (H.1 14 3) 1)) hr))) ?_
          refine J_ld 150 jw hj rfl rfl rfl rfl ?_
          exact J_ret rfl (Or.inl rfl) (fun aw hR => by show _ ∧ _; unfold f_X7_one3; rw [if_neg h0, if_pos h1, if_pos h3, if_pos h4]; exact ⟨rfl, hR⟩)
      · refine J_ld 95 jw hj rfl rfl rfl rfl ?_
        refine J_ld 96 jw hj rfl rfl rfl rfl ?_
        refine J_cst 97 jw hj rfl rfl rfl ?_
        refine J_bin jw hj rfl rfl ?_
        rw [show iop (· + ·) (6 : Int) 1 = 7 from by decide]
        refine J_callV1 jw rfl (Or.inl ⟨_, rfl⟩) rfl rfl (sp_X7_cond2 (g := g) (f_X9_advance (upI H 14 3 (iAdd (H.1 14 3) 1))) (rp_X9_advance (upI H 14 3 (iAdd (H.1 14 3) 1)) hr)) ?_
        refine J_ifc (t := 120) jw hj rfl (evn rfl) rfl (fun (h6 : ((f_X7_cond2 (f_X9_advance (upI H 14 3 (iAdd (H.1 14 3) 1)))).1) = 0) => ?_) (fun (h6 : ¬ ((f_X7_cond2 (f_X9_advance (upI H 14 3 (iAdd (H.1 14 3) 1)))).1) = 0) => ?_)
        · refine J_cst 121 jw hj rfl rfl rfl ?_
          exact J_ret rfl (Or.inl rfl) (fun aw hR => by show _ ∧ _; unfold f_X7_one3; rw [if_neg h0, if_pos h1, if_neg h3, if_pos h6]; exact ⟨rfl, hR⟩)
        · refine J_ld 105 jw hj rfl rfl rfl rfl ?_
          refine J_gfR (k := 4) jw hj rfl (evn rfl) (by decide) (by decide) (RSa (rp_X7_cond2 (f_X9_advance (upI H 14 3 (iAdd (H.1 14 3) 1))) (rp_X9_advance (upI H 14 3 (iAdd (H.1 14 3) 1)) hr)) rfl) ?_
          refine J_cst 110 jw hj rfl rfl rfl ?_
          refine J_callV1 jw rfl (Or.inl ⟨_, rfl⟩) rfl rfl (st_X9_passSign (g := g) 41 (f_X7_cond2 (f_X9_advance (upI H 14 3 (iAdd (H.1 14 3) 1)))).2 (RSt (rp_X7_cond2 (f_X9_advance (upI H 14 3 (iAdd (H.1 14 3) 1))) (rp_X9_advance (upI H 14 3 (iAdd (H.1 14 3) 1)) hr)))) ?_
          refine J_ifc (t := 120) jw hj rfl (evn rfl) rfl (fun (h7 : ((f_X9_passSign 41 (f_X7_cond2 (f_X9_advance (upI H 14 3 (iAdd (H.1 14 3) 1)))).2).1) = 0) => ?_) (fun (h7 : ¬ ((f_X9_passSign 41 (f_X7_cond2 (f_X9_advance (upI H 14 3 (iAdd (H.1 14 3) 1)))).2).1) = 0) => ?_)
          · refine J_cst 121 jw hj rfl rfl rfl ?_
            exact J_ret rfl (Or.inl rfl) (fun aw hR => by show _ ∧ _; unfold f_X7_one3; rw [if_neg h0, if_pos h1, if_neg h3, if_neg h6, if_pos h7]; exact ⟨rfl, hR⟩)
          · refine J_cst 117 jw hj rfl rfl rfl ?_
            refine J_goto 121 jw hj rfl rfl ?_
            exact J_ret rfl (Or.inl rfl) (fun aw hR => by show _ ∧ _; unfold f_X7_one3; rw [if_neg h0, if_pos h1, if_neg h3, if_neg h6, if_neg h7]; exact ⟨rfl, hR⟩)
  · refine J_ld 23 jw hj rfl rfl rfl rfl ?_
    refine J_gfR (k := 4) jw hj rfl (evn rfl) (by decide) (by decide) (RSa hr rfl) ?_
    refine J_gfI jw hj rfl (evn rfl) (by decide) rfl (fun r3 => ?_)
    refine J_cst 30 jw hj rfl rfl rfl ?_
    refine J_icmp (t := 40) jw hj rfl (evn rfl) rfl (fun (h8 : ¬ H.1 4 10 = 4) => ?_) (fun (h8 : H.1 4 10 = 4) => ?_)
    · refine J_ld 41 jw hj rfl rfl rfl rfl ?_
      refine J_gfR (k := 4) jw hj rfl (evn rfl) (by decide) (by decide) (RSa hr rfl) ?_
      refine J_cst 45 jw hj rfl rfl rfl ?_
      refine J_callV1 jw rfl (Or.inl ⟨_, rfl⟩) rfl rfl (st_X9_fail (g := g) 1 H (RSt hr)) ?_
      exact J_ret rfl (Or.inl rfl) (fun aw hR => by show _ ∧ _; unfold f_X7_one3; rw [if_pos h0, if_neg h8]; exact ⟨rfl, hR⟩)
    · refine J_ld 34 jw hj rfl rfl rfl rfl ?_
      refine J_callS1 jw rfl rfl rfl rfl (sp_X7_beginsOne (g := g) (H.1 4 11) H) ?_
      refine J_ifc (t := 49) jw hj rfl (evn rfl) rfl (fun (h9 : ¬ f_X7_beginsOne (H.1 4 11) = 0) => ?_) (fun (h9 : f_X7_beginsOne (H.1 4 11) = 0) => ?_)
      · refine J_ld 50 jw hj rfl rfl rfl rfl ?_
        refine J_gfI jw hj rfl (evn rfl) (by decide) rfl (fun r4 => ?_)
        refine J_cst 55 jw hj rfl rfl rfl ?_
        refine J_icmp (t := 64) jw hj rfl (evn rfl) rfl (fun (h10 : ¬ H.1 14 3 < 20) => ?_) (fun (h10 : H.1 14 3 < 20) => ?_)
        · refine J_ld 65 jw hj rfl rfl rfl rfl ?_
          refine J_gfR (k := 4) jw hj rfl (evn rfl) (by decide) (by decide) (RSa hr rfl) ?_
          refine J_cst 69 jw hj rfl rfl rfl ?_
          refine J_callV1 jw rfl (Or.inl ⟨_, rfl⟩) rfl rfl (st_X9_fail (g := g) 4 H (RSt hr)) ?_
          exact J_ret rfl (Or.inl rfl) (fun aw hR => by show _ ∧ _; unfold f_X7_one3; rw [if_pos h0, if_pos h8, if_neg h9, if_neg h10]; exact ⟨rfl, hR⟩)
        · refine J_ld 59 jw hj rfl rfl rfl rfl ?_
          refine J_cst 61 jw hj rfl rfl rfl ?_
          refine J_icmp (t := 73) jw hj rfl (evn rfl) rfl (fun (h11 : ¬ (8 : Int) < (6 : Int)) => ?_) (fun (h11 : (8 : Int) < (6 : Int)) => absurd h11 (by decide))
          refine J_ld 74 jw hj rfl rfl rfl rfl ?_
          refine J_dup 75 jw hj rfl rfl ?_
          refine J_gfI jw hj rfl (evn rfl) (by decide) rfl (fun r5 => ?_)
          refine J_cst 79 jw hj rfl rfl rfl ?_
          refine J_bin jw hj rfl rfl ?_
          refine J_pfI jw hj rfl (evn rfl) rfl ?_
          refine J_ld 84 jw hj rfl rfl rfl rfl ?_
          refine J_gfR (k := 4) jw hj rfl (evn rfl) (by decide) (by decide) (RSa hr rfl) ?_
          refine J_callV0 jw rfl (Or.inl ⟨_, rfl⟩) rfl rfl (st_X9_advance (g := g) (upI H 14 3 (iAdd (H.1 14 3) 1)) (RSt hr)) ?_
          refine J_ld 91 jw hj rfl rfl rfl rfl ?_
          refine J_ifc (t := 122) jw hj rfl (evn rfl) rfl (fun (h12 : f_X9_isAtSign 40 H = 0) => ?_) (fun (h12 : ¬ f_X9_isAtSign 40 H = 0) => ?_)
          · refine J_ld 123 jw hj rfl rfl rfl rfl ?_
            refine J_cst 125 jw hj rfl rfl rfl ?_
            refine J_icmp (t := 151) jw hj rfl (evn rfl) rfl (fun (h13 : ¬ H.1 4 11 = 18) => ?_) (fun (h13 : H.1 4 11 = 18) => ?_)
            · refine J_ld 152 jw hj rfl rfl rfl rfl ?_
              refine J_swR jw hj rfl (fun (h14 : H.1 4 11 = 5) => ?_) (fun (h14 : H.1 4 11 = 19) => ?_) (fun (h14 : H.1 4 11 = 4) => ?_) (fun (h14 : H.1 4 11 = 20 ∨ H.1 4 11 = 21 ∨ H.1 4 11 = 22) => ?_) (fun h14 h14_b h14_c h14_d => ?_)
              · refine J_ld 245 jw hj rfl rfl rfl rfl ?_
                refine J_ld 246 jw hj rfl rfl rfl rfl ?_
                refine J_cst 247 jw hj rfl rfl rfl ?_
                refine J_callV1 jw rfl (Or.inl ⟨_, rfl⟩) rfl rfl (sp_X7_readNamed (g := g) (H.1 4 11) 3 (f_X9_advance (upI H 14 3 (iAdd (H.1 14 3) 1))) (rp_X9_advance (upI H 14 3 (iAdd (H.1 14 3) 1)) hr)) ?_
                exact J_ret rfl (Or.inl rfl) (fun aw hR => by show _ ∧ _; unfold f_X7_one3; rw [if_pos h0, if_pos h8, if_neg h9, if_pos h10, if_pos h12, if_neg h13, if_pos h14]; exact ⟨rfl, hR⟩)
              · refine J_ld 252 jw hj rfl rfl rfl rfl ?_
                refine J_ld 253 jw hj rfl rfl rfl rfl ?_
                refine J_cst 254 jw hj rfl rfl rfl ?_
                refine J_callV1 jw rfl (Or.inl ⟨_, rfl⟩) rfl rfl (sp_X7_readNamed (g := g) (H.1 4 11) 0 (f_X9_advance (upI H 14 3 (iAdd (H.1 14 3) 1))) (rp_X9_advance (upI H 14 3 (iAdd (H.1 14 3) 1)) hr)) ?_
                exact J_ret rfl (Or.inl rfl) (fun aw hR => by show _ ∧ _; unfold f_X7_one3; rw [if_pos h0, if_pos h8, if_neg h9, if_pos h10, if_pos h12, if_neg h13, if_neg (show ¬ (H.1 4 11 = 5) by omega), if_pos h14]; exact ⟨rfl, hR⟩)
              · refine J_ld 259 jw hj rfl rfl rfl rfl ?_
                refine J_ld 260 jw hj rfl rfl rfl rfl ?_
                refine J_cst 261 jw hj rfl rfl rfl ?_
                refine J_callV1 jw rfl (Or.inl ⟨_, rfl⟩) rfl rfl (sp_X7_readNamed (g := g) (H.1 4 11) 1 (f_X9_advance (upI H 14 3 (iAdd (H.1 14 3) 1))) (rp_X9_advance (upI H 14 3 (iAdd (H.1 14 3) 1)) hr)) ?_
                exact J_ret rfl (Or.inl rfl) (fun aw hR => by show _ ∧ _; unfold f_X7_one3; rw [if_pos h0, if_pos h8, if_neg h9, if_pos h10, if_pos h12, if_neg h13, if_neg (show ¬ (H.1 4 11 = 5) by omega), if_neg (show ¬ (H.1 4 11 = 19) by omega), if_pos h14]; exact ⟨rfl, hR⟩)
              · refine J_ld 266 jw hj rfl rfl rfl rfl ?_
                refine J_ld 267 jw hj rfl rfl rfl rfl ?_
                refine J_callV1 jw rfl (Or.inl ⟨_, rfl⟩) rfl rfl (sp_X7_readComparison (g := g) (H.1 4 11) (f_X9_advance (upI H 14 3 (iAdd (H.1 14 3) 1))) (rp_X9_advance (upI H 14 3 (iAdd (H.1 14 3) 1)) hr)) ?_
                exact J_ret rfl (Or.inl rfl) (fun aw hR => by show _ ∧ _; unfold f_X7_one3; rw [if_pos h0, if_pos h8, if_neg h9, if_pos h10, if_pos h12, if_neg h13, if_neg (show ¬ (H.1 4 11 = 5) by omega), if_neg (show ¬ (H.1 4 11 = 19) by omega), if_neg (show ¬ (H.1 4 11 = 4) by omega), if_pos h14]; exact ⟨rfl, hR⟩)
              · refine J_ld 272 jw hj rfl rfl rfl rfl ?_
                refine J_gfR (k := 60) jw hj rfl (evn rfl) (by decide) (by decide) (RSa (rp_X9_advance (upI H 14 3 (iAdd (H.1 14 3) 1)) hr) rfl) ?_
                refine J_ld 276 jw hj rfl rfl rfl rfl ?_
                refine J_cst 277 jw hj rfl rfl rfl ?_
                refine J_cst 278 jw hj rfl rfl rfl ?_
                refine J_callV0 jw rfl (Or.inl ⟨_, rfl⟩) rfl rfl (sp_X6_addStep (g := g) (H.1 4 11) 0 0 (f_X9_advance (upI H 14 3 (iAdd (H.1 14 3) 1))) (rp_X9_advance (upI H 14 3 (iAdd (H.1 14 3) 1)) hr)) ?_
                refine J_cst 282 jw hj rfl rfl rfl ?_
                exact J_ret rfl (Or.inl rfl) (fun aw hR => by show _ ∧ _; unfold f_X7_one3; rw [if_pos h0, if_pos h8, if_neg h9, if_pos h10, if_pos h12, if_neg h13, if_neg h14, if_neg h14_b, if_neg h14_c, if_neg h14_d]; exact ⟨rfl, hR⟩)
            · refine J_ld 129 jw hj rfl rfl rfl rfl ?_
              refine J_ld 130 jw hj rfl rfl rfl rfl ?_
              refine J_cst 131 jw hj rfl rfl rfl ?_
              refine J_bin jw hj rfl rfl ?_
              rw [show iop (· + ·) (6 : Int) 1 = 7 from by decide]
              refine J_callV1 jw rfl (Or.inl ⟨_, rfl⟩) rfl rfl (sp_X7_one2 (g := g) (f_X9_advance (upI H 14 3 (iAdd (H.1 14 3) 1))) (rp_X9_advance (upI H 14 3 (iAdd (H.1 14 3) 1)) hr)) ?_
              refine J_st 137 [rf (g 14), pt 6, pt (f_X9_isAtSign 40 H), pt (H.1 4 11), pt ((f_X7_one2 (f_X9_advance (upI H 14 3 (iAdd (H.1 14 3) 1)))).1)] (k := 4) jw hj rfl (Or.inl ⟨rfl, rfl⟩) rfl ?_
              refine J_ld 138 jw hj rfl rfl rfl rfl ?_
              refine J_gfR (k := 60) jw hj rfl (evn rfl) (by decide) (by decide) (RSa (rp_X7_one2 (f_X9_advance (upI H 14 3 (iAdd (H.1 14 3) 1))) (rp_X9_advance (upI H 14 3 (iAdd (H.1 14 3) 1)) hr)) rfl) ?_
              refine J_cst 143 jw hj rfl rfl rfl ?_
              refine J_cst 144 jw hj rfl rfl rfl ?_
              refine J_cst 145 jw hj rfl rfl rfl ?_
              refine J_callV0 jw rfl (Or.inl ⟨_, rfl⟩) rfl rfl (sp_X6_addStep (g := g) 18 0 0 (f_X7_one2 (f_X9_advance (upI H 14 3 (iAdd (H.1 14 3) 1)))).2 (rp_X7_one2 (f_X9_advance (upI H 14 3 (iAdd (H.1 14 3) 1))) (rp_X9_advance (upI H 14 3 (iAdd (H.1 14 3) 1)) hr))) ?_
              refine J_ld 150 jw hj rfl rfl rfl rfl ?_
              exact J_ret rfl (Or.inl rfl) (fun aw hR => by show _ ∧ _; unfold f_X7_one3; rw [if_pos h0, if_pos h8, if_neg h9, if_pos h10, if_pos h12, if_pos h13]; exact ⟨rfl, hR⟩)
          · refine J_ld 95 jw hj rfl rfl rfl rfl ?_
            refine J_ld 96 jw hj rfl rfl rfl rfl ?_
            refine J_cst 97 jw hj rfl rfl rfl ?_
            refine J_bin jw hj rfl rfl ?_
            rw [show iop (· + ·) (6 : Int) 1 = 7 from by decide]
            refine J_callV1 jw rfl (Or.inl ⟨_, rfl⟩) rfl rfl (sp_X7_cond2 (g := g) (f_X9_advance (upI H 14 3 (iAdd (H.1 14 3) 1))) (rp_X9_advance (upI H 14 3 (iAdd (H.1 14 3) 1)) hr)) ?_
            refine J_ifc (t := 120) jw hj rfl (evn rfl) rfl (fun (h15 : ((f_X7_cond2 (f_X9_advance (upI H 14 3 (iAdd (H.1 14 3) 1)))).1) = 0) => ?_) (fun (h15 : ¬ ((f_X7_cond2 (f_X9_advance (upI H 14 3 (iAdd (H.1 14 3) 1)))).1) = 0) => ?_)
            · refine J_cst 121 jw hj rfl rfl rfl ?_
              exact J_ret rfl (Or.inl rfl) (fun aw hR => by show _ ∧ _; unfold f_X7_one3; rw [if_pos h0, if_pos h8, if_neg h9, if_pos h10, if_neg h12, if_pos h15]; exact ⟨rfl, hR⟩)
            · refine J_ld 105 jw hj rfl rfl rfl rfl ?_
              refine J_gfR (k := 4) jw hj rfl (evn rfl) (by decide) (by decide) (RSa (rp_X7_cond2 (f_X9_advance (upI H 14 3 (iAdd (H.1 14 3) 1))) (rp_X9_advance (upI H 14 3 (iAdd (H.1 14 3) 1)) hr)) rfl) ?_
              refine J_cst 110 jw hj rfl rfl rfl ?_
              refine J_callV1 jw rfl (Or.inl ⟨_, rfl⟩) rfl rfl (st_X9_passSign (g := g) 41 (f_X7_cond2 (f_X9_advance (upI H 14 3 (iAdd (H.1 14 3) 1)))).2 (RSt (rp_X7_cond2 (f_X9_advance (upI H 14 3 (iAdd (H.1 14 3) 1))) (rp_X9_advance (upI H 14 3 (iAdd (H.1 14 3) 1)) hr)))) ?_
              refine J_ifc (t := 120) jw hj rfl (evn rfl) rfl (fun (h16 : ((f_X9_passSign 41 (f_X7_cond2 (f_X9_advance (upI H 14 3 (iAdd (H.1 14 3) 1)))).2).1) = 0) => ?_) (fun (h16 : ¬ ((f_X9_passSign 41 (f_X7_cond2 (f_X9_advance (upI H 14 3 (iAdd (H.1 14 3) 1)))).2).1) = 0) => ?_)
              · refine J_cst 121 jw hj rfl rfl rfl ?_
                exact J_ret rfl (Or.inl rfl) (fun aw hR => by show _ ∧ _; unfold f_X7_one3; rw [if_pos h0, if_pos h8, if_neg h9, if_pos h10, if_neg h12, if_neg h15, if_pos h16]; exact ⟨rfl, hR⟩)
              · refine J_cst 117 jw hj rfl rfl rfl ?_
                refine J_goto 121 jw hj rfl rfl ?_
                exact J_ret rfl (Or.inl rfl) (fun aw hR => by show _ ∧ _; unfold f_X7_one3; rw [if_pos h0, if_pos h8, if_neg h9, if_pos h10, if_neg h12, if_neg h15, if_neg h16]; exact ⟨rfl, hR⟩)
      · refine J_ld 41 jw hj rfl rfl rfl rfl ?_
        refine J_gfR (k := 4) jw hj rfl (evn rfl) (by decide) (by decide) (RSa hr rfl) ?_
        refine J_cst 45 jw hj rfl rfl rfl ?_
        refine J_callV1 jw rfl (Or.inl ⟨_, rfl⟩) rfl rfl (st_X9_fail (g := g) 1 H (RSt hr)) ?_
        exact J_ret rfl (Or.inl rfl) (fun aw hR => by show _ ∧ _; unfold f_X7_one3; rw [if_pos h0, if_pos h8, if_pos h9]; exact ⟨rfl, hR⟩)
theorem rp_X7_one3 {P : (Nat → Nat → Option Nat) → Prop}  (H : hH) (hr : P H.2.2.1) : P (f_X7_one3 H).2.2.2.1 := by
  unfold f_X7_one3
  by_cases q1 : f_X9_isAtSign 40 H = 0
  · rw [if_pos q1]
    by_cases q2 : H.1 4 10 = 4
    · rw [if_pos q2]
      by_cases q3 : f_X7_beginsOne (H.1 4 11) = 0
      · rw [if_pos q3]
        exact (rp_X9_fail 1 H hr)
      · rw [if_neg q3]
        by_cases q4 : H.1 14 3 < 20
        · rw [if_pos q4]
          by_cases q5 : f_X9_isAtSign 40 H = 0
          · rw [if_pos q5]
            by_cases q6 : H.1 4 11 = 18
            · rw [if_pos q6]
              exact (rp_X6_addStep 18 0 0 (f_X7_one2 (f_X9_advance (upI H 14 3 (iAdd (H.1 14 3) 1)))).2 (rp_X7_one2 (f_X9_advance (upI H 14 3 (iAdd (H.1 14 3) 1))) (rp_X9_advance (upI H 14 3 (iAdd (H.1 14 3) 1)) hr)))
            · rw [if_neg q6]
              by_cases q7 : H.1 4 11 = 5
              · rw [if_pos q7]
                exact (rp_X7_readNamed (H.1 4 11) 3 (f_X9_advance (upI H 14 3 (iAdd (H.1 14 3) 1))) (rp_X9_advance (upI H 14 3 (iAdd (H.1 14 3) 1)) hr))
              · rw [if_neg q7]
                by_cases q8 : H.1 4 11 = 19
                · rw [if_pos q8]
                  exact (rp_X7_readNamed (H.1 4 11) 0 (f_X9_advance (upI H 14 3 (iAdd (H.1 14 3) 1))) (rp_X9_advance (upI H 14 3 (iAdd (H.1 14 3) 1)) hr))
                · rw [if_neg q8]
                  by_cases q9 : H.1 4 11 = 4
                  · rw [if_pos q9]
                    exact (rp_X7_readNamed (H.1 4 11) 1 (f_X9_advance (upI H 14 3 (iAdd (H.1 14 3) 1))) (rp_X9_advance (upI H 14 3 (iAdd (H.1 14 3) 1)) hr))
                  · rw [if_neg q9]
                    by_cases q10 : H.1 4 11 = 20 ∨ H.1 4 11 = 21 ∨ H.1 4 11 = 22
                    · rw [if_pos q10]
                      exact (rp_X7_readComparison (H.1 4 11) (f_X9_advance (upI H 14 3 (iAdd (H.1 14 3) 1))) (rp_X9_advance (upI H 14 3 (iAdd (H.1 14 3) 1)) hr))
                    · rw [if_neg q10]
                      exact (rp_X6_addStep (H.1 4 11) 0 0 (f_X9_advance (upI H 14 3 (iAdd (H.1 14 3) 1))) (rp_X9_advance (upI H 14 3 (iAdd (H.1 14 3) 1)) hr))
          · rw [if_neg q5]
            by_cases q6 : ((f_X7_cond2 (f_X9_advance (upI H 14 3 (iAdd (H.1 14 3) 1)))).1) = 0
            · rw [if_pos q6]
              exact (rp_X7_cond2 (f_X9_advance (upI H 14 3 (iAdd (H.1 14 3) 1))) (rp_X9_advance (upI H 14 3 (iAdd (H.1 14 3) 1)) hr))
            · rw [if_neg q6]
              by_cases q7 : ((f_X9_passSign 41 (f_X7_cond2 (f_X9_advance (upI H 14 3 (iAdd (H.1 14 3) 1)))).2).1) = 0
              · rw [if_pos q7]
                exact (rp_X9_passSign 41 (f_X7_cond2 (f_X9_advance (upI H 14 3 (iAdd (H.1 14 3) 1)))).2 (rp_X7_cond2 (f_X9_advance (upI H 14 3 (iAdd (H.1 14 3) 1))) (rp_X9_advance (upI H 14 3 (iAdd (H.1 14 3) 1)) hr)))
              · rw [if_neg q7]
                exact (rp_X9_passSign 41 (f_X7_cond2 (f_X9_advance (upI H 14 3 (iAdd (H.1 14 3) 1)))).2 (rp_X7_cond2 (f_X9_advance (upI H 14 3 (iAdd (H.1 14 3) 1))) (rp_X9_advance (upI H 14 3 (iAdd (H.1 14 3) 1)) hr)))
        · rw [if_neg q4]
          exact (rp_X9_fail 4 H hr)
    · rw [if_neg q2]
      exact (rp_X9_fail 1 H hr)
  · rw [if_neg q1]
    by_cases q2 : H.1 14 3 < 20
    · rw [if_pos q2]
      by_cases q3 : f_X9_isAtSign 40 H = 0
      · rw [if_pos q3]
        by_cases q4 : H.1 4 11 = 18
        · rw [if_pos q4]
          exact (rp_X6_addStep 18 0 0 (f_X7_one2 (f_X9_advance (upI H 14 3 (iAdd (H.1 14 3) 1)))).2 (rp_X7_one2 (f_X9_advance (upI H 14 3 (iAdd (H.1 14 3) 1))) (rp_X9_advance (upI H 14 3 (iAdd (H.1 14 3) 1)) hr)))
        · rw [if_neg q4]
          by_cases q5 : H.1 4 11 = 5
          · rw [if_pos q5]
            exact (rp_X7_readNamed (H.1 4 11) 3 (f_X9_advance (upI H 14 3 (iAdd (H.1 14 3) 1))) (rp_X9_advance (upI H 14 3 (iAdd (H.1 14 3) 1)) hr))
          · rw [if_neg q5]
            by_cases q6 : H.1 4 11 = 19
            · rw [if_pos q6]
              exact (rp_X7_readNamed (H.1 4 11) 0 (f_X9_advance (upI H 14 3 (iAdd (H.1 14 3) 1))) (rp_X9_advance (upI H 14 3 (iAdd (H.1 14 3) 1)) hr))
            · rw [if_neg q6]
              by_cases q7 : H.1 4 11 = 4
              · rw [if_pos q7]
                exact (rp_X7_readNamed (H.1 4 11) 1 (f_X9_advance (upI H 14 3 (iAdd (H.1 14 3) 1))) (rp_X9_advance (upI H 14 3 (iAdd (H.1 14 3) 1)) hr))
              · rw [if_neg q7]
                by_cases q8 : H.1 4 11 = 20 ∨ H.1 4 11 = 21 ∨ H.1 4 11 = 22
                · rw [if_pos q8]
                  exact (rp_X7_readComparison (H.1 4 11) (f_X9_advance (upI H 14 3 (iAdd (H.1 14 3) 1))) (rp_X9_advance (upI H 14 3 (iAdd (H.1 14 3) 1)) hr))
                · rw [if_neg q8]
                  exact (rp_X6_addStep (H.1 4 11) 0 0 (f_X9_advance (upI H 14 3 (iAdd (H.1 14 3) 1))) (rp_X9_advance (upI H 14 3 (iAdd (H.1 14 3) 1)) hr))
      · rw [if_neg q3]
        by_cases q4 : ((f_X7_cond2 (f_X9_advance (upI H 14 3 (iAdd (H.1 14 3) 1)))).1) = 0
        · rw [if_pos q4]
          exact (rp_X7_cond2 (f_X9_advance (upI H 14 3 (iAdd (H.1 14 3) 1))) (rp_X9_advance (upI H 14 3 (iAdd (H.1 14 3) 1)) hr))
        · rw [if_neg q4]
          by_cases q5 : ((f_X9_passSign 41 (f_X7_cond2 (f_X9_advance (upI H 14 3 (iAdd (H.1 14 3) 1)))).2).1) = 0
          · rw [if_pos q5]
            exact (rp_X9_passSign 41 (f_X7_cond2 (f_X9_advance (upI H 14 3 (iAdd (H.1 14 3) 1)))).2 (rp_X7_cond2 (f_X9_advance (upI H 14 3 (iAdd (H.1 14 3) 1))) (rp_X9_advance (upI H 14 3 (iAdd (H.1 14 3) 1)) hr)))
          · rw [if_neg q5]
            exact (rp_X9_passSign 41 (f_X7_cond2 (f_X9_advance (upI H 14 3 (iAdd (H.1 14 3) 1)))).2 (rp_X7_cond2 (f_X9_advance (upI H 14 3 (iAdd (H.1 14 3) 1))) (rp_X9_advance (upI H 14 3 (iAdd (H.1 14 3) 1)) hr)))
    · rw [if_neg q2]
      exact (rp_X9_fail 4 H hr)
def f_X7_al3 : Nat → hH → Int × hH
  | 0, H => (1, H)
  | k + 1, H =>
    if f_X9_isAtWord 17 H = 0 then
      (1, H)
    else
      if ((f_X7_one3 (f_X9_advance H)).1) = 0 then
        (0, (f_X7_one3 (f_X9_advance H)).2)
      else
        f_X7_al3 k (f_X6_addStep 17 0 0 (f_X7_one3 (f_X9_advance H)).2)
set_option maxHeartbeats 16000000 in
set_option maxRecDepth 100000 in
theorem lp_X7_al3 {g : Nat → Nat} : ∀ (k i : Nat) (H : hH), i + k = 200 → RS H.2.2.1 → J g rvTab rvInf rvRet 316 rvMth 101 (fun res => res.1 = some (pt (f_X7_al3 k H).1) ∧ RH g res.2 (f_X7_al3 k H).2) 12 [rf (g 14), pt 6, pt (i : Int)] [] H := by
  intro k
  induction k with
  | zero =>
    intro i H hk hr
    have hj : 101 < 316 := by decide
    refine J_ld 13 jw hj rfl rfl rfl rfl ?_
    refine J_cst 16 jw hj rfl rfl rfl ?_
    refine J_icmp (t := 65) jw hj rfl (evn rfl) rfl (fun (h0 : ¬ (i : Int) < 200) => ?_) (fun (h0 : (i : Int) < 200) => ?_)
    · refine J_cst 66 jw hj rfl rfl rfl ?_
      exact J_ret rfl (Or.inl rfl) (fun aw hR => ⟨rfl, hR⟩)
    · exact absurd h0 (by omega)
  | succ k ih =>
    intro i H hk hr
    have hj : 101 < 316 := by decide
    refine J_ld 13 jw hj rfl rfl rfl rfl ?_
    refine J_cst 16 jw hj rfl rfl rfl ?_
    refine J_icmp (t := 65) jw hj rfl (evn rfl) rfl (fun (h0 : ¬ (i : Int) < 200) => ?_) (fun (h0 : (i : Int) < 200) => ?_)
    · refine J_cst 66 jw hj rfl rfl rfl ?_
      exact absurd (show (i : Int) < 200 by omega) h0
    · refine J_ld 20 jw hj rfl rfl rfl rfl ?_
      refine J_gfR (k := 4) jw hj rfl (evn rfl) (by decide) (by decide) (RSa hr rfl) ?_
      refine J_cst 25 jw hj rfl rfl rfl ?_
      refine J_callV1 jw rfl (Or.inl ⟨_, rfl⟩) rfl rfl (sp_X9_isAtWord (g := g) 17 H) ?_
      refine J_ifc (t := 65) jw hj rfl (evn rfl) rfl (fun (h1 : f_X9_isAtWord 17 H = 0) => ?_) (fun (h1 : ¬ f_X9_isAtWord 17 H = 0) => ?_)
      · refine J_cst 66 jw hj rfl rfl rfl ?_
        exact J_ret rfl (Or.inl rfl) (fun aw hR => by show _ ∧ _; rw [f_X7_al3]; rw [if_pos h1]; exact ⟨rfl, hR⟩)
      · refine J_ld 32 jw hj rfl rfl rfl rfl ?_
        refine J_gfR (k := 4) jw hj rfl (evn rfl) (by decide) (by decide) (RSa hr rfl) ?_
        refine J_callV0 jw rfl (Or.inl ⟨_, rfl⟩) rfl rfl (st_X9_advance (g := g) H (RSt hr)) ?_
        refine J_ld 39 jw hj rfl rfl rfl rfl ?_
        refine J_ld 40 jw hj rfl rfl rfl rfl ?_
        refine J_callV1 jw rfl (Or.inl ⟨_, rfl⟩) rfl rfl (sp_X7_one3 (g := g) (f_X9_advance H) (rp_X9_advance H hr)) ?_
        refine J_ifc (t := 48) jw hj rfl (evn rfl) rfl (fun (h2 : ¬ ((f_X7_one3 (f_X9_advance H)).1) = 0) => ?_) (fun (h2 : ((f_X7_one3 (f_X9_advance H)).1) = 0) => ?_)
        · refine J_ld 49 jw hj rfl rfl rfl rfl ?_
          refine J_gfR (k := 60) jw hj rfl (evn rfl) (by decide) (by decide) (RSa (rp_X7_one3 (f_X9_advance H) (rp_X9_advance H hr)) rfl) ?_
          refine J_cst 54 jw hj rfl rfl rfl ?_
          refine J_cst 55 jw hj rfl rfl rfl ?_
          refine J_cst 56 jw hj rfl rfl rfl ?_
          refine J_callV0 jw rfl (Or.inl ⟨_, rfl⟩) rfl rfl (sp_X6_addStep (g := g) 17 0 0 (f_X7_one3 (f_X9_advance H)).2 (rp_X7_one3 (f_X9_advance H) (rp_X9_advance H hr))) ?_
          refine J_iinc (al' := [rf (g 14), pt 6, pt (iAdd (i : Int) 1)]) jw hj rfl (evn rfl) rfl rfl ?_
          refine J_goto 12 jw hj rfl rfl ?_
          rw [show iAdd (i : Int) 1 = ((i + 1 : Nat) : Int) from iAdd_1 (by omega)]
          have e2 : f_X7_al3 (k + 1) H = f_X7_al3 k (f_X6_addStep 17 0 0 (f_X7_one3 (f_X9_advance H)).2) := by
            rw [f_X7_al3]
            rw [if_neg h1, if_neg h2]
          rw [e2]
          exact ih (i + 1) (f_X6_addStep 17 0 0 (f_X7_one3 (f_X9_advance H)).2) (by omega) (rp_X6_addStep 17 0 0 (f_X7_one3 (f_X9_advance H)).2 (rp_X7_one3 (f_X9_advance H) (rp_X9_advance H hr)))
        · refine J_cst 47 jw hj rfl rfl rfl ?_
          exact J_ret rfl (Or.inl rfl) (fun aw hR => by show _ ∧ _; rw [f_X7_al3]; rw [if_neg h1, if_pos h2]; exact ⟨rfl, hR⟩)
theorem rp_X7_al3 {P : (Nat → Nat → Option Nat) → Prop} : ∀ (k : Nat) (H : hH), P H.2.2.1 → P (f_X7_al3 k H).2.2.2.1 := by
  intro k
  induction k with
  | zero => intro H hr; exact hr
  | succ k ih =>
    intro H hr
    rw [f_X7_al3]
    by_cases q2 : f_X9_isAtWord 17 H = 0
    · rw [if_pos q2]
      exact hr
    · rw [if_neg q2]
      by_cases q3 : ((f_X7_one3 (f_X9_advance H)).1) = 0
      · rw [if_pos q3]
        exact (rp_X7_one3 (f_X9_advance H) (rp_X9_advance H hr))
      · rw [if_neg q3]
        exact ih (f_X6_addStep 17 0 0 (f_X7_one3 (f_X9_advance H)).2) (rp_X6_addStep 17 0 0 (f_X7_one3 (f_X9_advance H)).2 (rp_X7_one3 (f_X9_advance H) (rp_X9_advance H hr)))
def f_X7_all3  (H : hH) : Int × hH :=
  if ((f_X7_one3 H).1) = 0 then
    (0, (f_X7_one3 H).2)
  else
    ((f_X7_al3 200 (f_X7_one3 H).2).1, (f_X7_al3 200 (f_X7_one3 H).2).2)
set_option maxHeartbeats 16000000 in
set_option maxRecDepth 100000 in
theorem sp_X7_all3 {g : Nat → Nat}  (H : hH) (hr : RS H.2.2.1) : SP g rvTab rvInf rvRet 316 rvMth 101 [rf (g 14), pt 6] H (some (pt (f_X7_all3 H).1)) (f_X7_all3 H).2 := by
  have hj : 101 < 316 := by decide
  refine J_SP hj (Nat.le_of_ble_eq_true rfl) ?_
  show J g rvTab rvInf rvRet 316 rvMth 101 _ 0 [rf (g 14), pt 6, rvU] [] H
  refine J_ld 1 jw hj rfl rfl rfl rfl ?_
  refine J_ld 2 jw hj rfl rfl rfl rfl ?_
  refine J_callV1 jw rfl (Or.inl ⟨_, rfl⟩) rfl rfl (sp_X7_one3 (g := g) H hr) ?_
  refine J_ifc (t := 10) jw hj rfl (evn rfl) rfl (fun (h0 : ¬ ((f_X7_one3 H).1) = 0) => ?_) (fun (h0 : ((f_X7_one3 H).1) = 0) => ?_)
  · refine J_cst 11 jw hj rfl rfl rfl ?_
    refine J_st 12 [rf (g 14), pt 6, pt 0] (k := 2) jw hj rfl (Or.inr (Or.inr (Or.inl ⟨_, rfl, rfl, rfl⟩))) rfl ?_
    have e : f_X7_all3 H = (f_X7_al3 200 (f_X7_one3 H).2) := by
      unfold f_X7_all3
      rw [if_neg h0]
    rw [e]
    exact lp_X7_al3 200 0 (f_X7_one3 H).2 rfl (rp_X7_one3 H hr)
  · refine J_cst 9 jw hj rfl rfl rfl ?_
    exact J_ret rfl (Or.inl rfl) (fun aw hR => by show _ ∧ _; unfold f_X7_all3; rw [if_pos h0]; exact ⟨rfl, hR⟩)
theorem rp_X7_all3 {P : (Nat → Nat → Option Nat) → Prop}  (H : hH) (hr : P H.2.2.1) : P (f_X7_all3 H).2.2.2.1 := by
  unfold f_X7_all3
  by_cases q1 : ((f_X7_one3 H).1) = 0
  · rw [if_pos q1]
    exact (rp_X7_one3 H hr)
  · rw [if_neg q1]
    exact (rp_X7_al3 200 (f_X7_one3 H).2 (rp_X7_one3 H hr))
def f_X7_cl3 : Nat → hH → Int × hH
  | 0, H => (1, H)
  | k + 1, H =>
    if f_X9_isAtWord 16 H = 0 then
      (1, H)
    else
      if ((f_X7_all3 (f_X9_advance H)).1) = 0 then
        (0, (f_X7_all3 (f_X9_advance H)).2)
      else
        f_X7_cl3 k (f_X6_addStep 16 0 0 (f_X7_all3 (f_X9_advance H)).2)
set_option maxHeartbeats 16000000 in
set_option maxRecDepth 100000 in
theorem lp_X7_cl3 {g : Nat → Nat} : ∀ (k i : Nat) (H : hH), i + k = 200 → RS H.2.2.1 → J g rvTab rvInf rvRet 316 rvMth 102 (fun res => res.1 = some (pt (f_X7_cl3 k H).1) ∧ RH g res.2 (f_X7_cl3 k H).2) 12 [rf (g 14), pt 6, pt (i : Int)] [] H := by
  intro k
  induction k with
  | zero =>
    intro i H hk hr
    have hj : 102 < 316 := by decide
    refine J_ld 13 jw hj rfl rfl rfl rfl ?_
    refine J_cst 16 jw hj rfl rfl rfl ?_
    refine J_icmp (t := 65) jw hj rfl (evn rfl) rfl (fun (h0 : ¬ (i : Int) < 200) => ?_) (fun (h0 : (i : Int) < 200) => ?_)
    · refine J_cst 66 jw hj rfl rfl rfl ?_
      exact J_ret rfl (Or.inl rfl) (fun aw hR => ⟨rfl, hR⟩)
    · exact absurd h0 (by omega)
  | succ k ih =>
    intro i H hk hr
    have hj : 102 < 316 := by decide
    refine J_ld 13 jw hj rfl rfl rfl rfl ?_
    refine J_cst 16 jw hj rfl rfl rfl ?_
    refine J_icmp (t := 65) jw hj rfl (evn rfl) rfl (fun (h0 : ¬ (i : Int) < 200) => ?_) (fun (h0 : (i : Int) < 200) => ?_)
    · refine J_cst 66 jw hj rfl rfl rfl ?_
      exact absurd (show (i : Int) < 200 by omega) h0
    · refine J_ld 20 jw hj rfl rfl rfl rfl ?_
      refine J_gfR (k := 4) jw hj rfl (evn rfl) (by decide) (by decide) (RSa hr rfl) ?_
      refine J_cst 25 jw hj rfl rfl rfl ?_
      refine J_callV1 jw rfl (Or.inl ⟨_, rfl⟩) rfl rfl (sp_X9_isAtWord (g := g) 16 H) ?_
      refine J_ifc (t := 65) jw hj rfl (evn rfl) rfl (fun (h1 : f_X9_isAtWord 16 H = 0) => ?_) (fun (h1 : ¬ f_X9_isAtWord 16 H = 0) => ?_)
      · refine J_cst 66 jw hj rfl rfl rfl ?_
        exact J_ret rfl (Or.inl rfl) (fun aw hR => by show _ ∧ _; rw [f_X7_cl3]; rw [if_pos h1]; exact ⟨rfl, hR⟩)
      · refine J_ld 32 jw hj rfl rfl rfl rfl ?_
        refine J_gfR (k := 4) jw hj rfl (evn rfl) (by decide) (by decide) (RSa hr rfl) ?_
        refine J_callV0 jw rfl (Or.inl ⟨_, rfl⟩) rfl rfl (st_X9_advance (g := g) H (RSt hr)) ?_
        refine J_ld 39 jw hj rfl rfl rfl rfl ?_
        refine J_ld 40 jw hj rfl rfl rfl rfl ?_
        refine J_callV1 jw rfl (Or.inl ⟨_, rfl⟩) rfl rfl (sp_X7_all3 (g := g) (f_X9_advance H) (rp_X9_advance H hr)) ?_
        refine J_ifc (t := 48) jw hj rfl (evn rfl) rfl (fun (h2 : ¬ ((f_X7_all3 (f_X9_advance H)).1) = 0) => ?_) (fun (h2 : ((f_X7_all3 (f_X9_advance H)).1) = 0) => ?_)
        · refine J_ld 49 jw hj rfl rfl rfl rfl ?_
          refine J_gfR (k := 60) jw hj rfl (evn rfl) (by decide) (by decide) (RSa (rp_X7_all3 (f_X9_advance H) (rp_X9_advance H hr)) rfl) ?_
          refine J_cst 54 jw hj rfl rfl rfl ?_
          refine J_cst 55 jw hj rfl rfl rfl ?_
          refine J_cst 56 jw hj rfl rfl rfl ?_
          refine J_callV0 jw rfl (Or.inl ⟨_, rfl⟩) rfl rfl (sp_X6_addStep (g := g) 16 0 0 (f_X7_all3 (f_X9_advance H)).2 (rp_X7_all3 (f_X9_advance H) (rp_X9_advance H hr))) ?_
          refine J_iinc (al' := [rf (g 14), pt 6, pt (iAdd (i : Int) 1)]) jw hj rfl (evn rfl) rfl rfl ?_
          refine J_goto 12 jw hj rfl rfl ?_
          rw [show iAdd (i : Int) 1 = ((i + 1 : Nat) : Int) from iAdd_1 (by omega)]
          have e2 : f_X7_cl3 (k + 1) H = f_X7_cl3 k (f_X6_addStep 16 0 0 (f_X7_all3 (f_X9_advance H)).2) := by
            rw [f_X7_cl3]
            rw [if_neg h1, if_neg h2]
          rw [e2]
          exact ih (i + 1) (f_X6_addStep 16 0 0 (f_X7_all3 (f_X9_advance H)).2) (by omega) (rp_X6_addStep 16 0 0 (f_X7_all3 (f_X9_advance H)).2 (rp_X7_all3 (f_X9_advance H) (rp_X9_advance H hr)))
        · refine J_cst 47 jw hj rfl rfl rfl ?_
          exact J_ret rfl (Or.inl rfl) (fun aw hR => by show _ ∧ _; rw [f_X7_cl3]; rw [if_neg h1, if_pos h2]; exact ⟨rfl, hR⟩)
theorem rp_X7_cl3 {P : (Nat → Nat → Option Nat) → Prop} : ∀ (k : Nat) (H : hH), P H.2.2.1 → P (f_X7_cl3 k H).2.2.2.1 := by
  intro k
  induction k with
  | zero => intro H hr; exact hr
  | succ k ih =>
    intro H hr
    rw [f_X7_cl3]
    by_cases q2 : f_X9_isAtWord 16 H = 0
    · rw [if_pos q2]
      exact hr
    · rw [if_neg q2]
      by_cases q3 : ((f_X7_all3 (f_X9_advance H)).1) = 0
      · rw [if_pos q3]
        exact (rp_X7_all3 (f_X9_advance H) (rp_X9_advance H hr))
      · rw [if_neg q3]
        exact ih (f_X6_addStep 16 0 0 (f_X7_all3 (f_X9_advance H)).2) (rp_X6_addStep 16 0 0 (f_X7_all3 (f_X9_advance H)).2 (rp_X7_all3 (f_X9_advance H) (rp_X9_advance H hr)))
def f_X7_cond3  (H : hH) : Int × hH :=
  if ((f_X7_all3 H).1) = 0 then
    (0, (f_X7_all3 H).2)
  else
    ((f_X7_cl3 200 (f_X7_all3 H).2).1, (f_X7_cl3 200 (f_X7_all3 H).2).2)
set_option maxHeartbeats 16000000 in
set_option maxRecDepth 100000 in
theorem sp_X7_cond3 {g : Nat → Nat}  (H : hH) (hr : RS H.2.2.1) : SP g rvTab rvInf rvRet 316 rvMth 102 [rf (g 14), pt 6] H (some (pt (f_X7_cond3 H).1)) (f_X7_cond3 H).2 := by
  have hj : 102 < 316 := by decide
  refine J_SP hj (Nat.le_of_ble_eq_true rfl) ?_
  show J g rvTab rvInf rvRet 316 rvMth 102 _ 0 [rf (g 14), pt 6, rvU] [] H
  refine J_ld 1 jw hj rfl rfl rfl rfl ?_
  refine J_ld 2 jw hj rfl rfl rfl rfl ?_
  refine J_callV1 jw rfl (Or.inl ⟨_, rfl⟩) rfl rfl (sp_X7_all3 (g := g) H hr) ?_
  refine J_ifc (t := 10) jw hj rfl (evn rfl) rfl (fun (h0 : ¬ ((f_X7_all3 H).1) = 0) => ?_) (fun (h0 : ((f_X7_all3 H).1) = 0) => ?_)
  · refine J_cst 11 jw hj rfl rfl rfl ?_
    refine J_st 12 [rf (g 14), pt 6, pt 0] (k := 2) jw hj rfl (Or.inr (Or.inr (Or.inl ⟨_, rfl, rfl, rfl⟩))) rfl ?_
    have e : f_X7_cond3 H = (f_X7_cl3 200 (f_X7_all3 H).2) := by
      unfold f_X7_cond3
      rw [if_neg h0]
    rw [e]
    exact lp_X7_cl3 200 0 (f_X7_all3 H).2 rfl (rp_X7_all3 H hr)
  · refine J_cst 9 jw hj rfl rfl rfl ?_
    exact J_ret rfl (Or.inl rfl) (fun aw hR => by show _ ∧ _; unfold f_X7_cond3; rw [if_pos h0]; exact ⟨rfl, hR⟩)
theorem rp_X7_cond3 {P : (Nat → Nat → Option Nat) → Prop}  (H : hH) (hr : P H.2.2.1) : P (f_X7_cond3 H).2.2.2.1 := by
  unfold f_X7_cond3
  by_cases q1 : ((f_X7_all3 H).1) = 0
  · rw [if_pos q1]
    exact (rp_X7_all3 H hr)
  · rw [if_neg q1]
    exact (rp_X7_cl3 200 (f_X7_all3 H).2 (rp_X7_all3 H hr))
def f_X7_one4  (H : hH) : Int × hH :=
  if f_X9_isAtSign 40 H = 0 then
    if H.1 4 10 = 4 then
      if f_X7_beginsOne (H.1 4 11) = 0 then
        ((f_X9_fail 1 H).1, (f_X9_fail 1 H).2)
      else
        if H.1 14 3 < 20 then
          if f_X9_isAtSign 40 H = 0 then
            if H.1 4 11 = 18 then
              ((f_X7_one3 (f_X9_advance (upI H 14 3 (iAdd (H.1 14 3) 1)))).1, (f_X6_addStep 18 0 0 (f_X7_one3 (f_X9_advance (upI H 14 3 (iAdd (H.1 14 3) 1)))).2))
            else
              if H.1 4 11 = 5 then
                ((f_X7_readNamed (H.1 4 11) 3 (f_X9_advance (upI H 14 3 (iAdd (H.1 14 3) 1)))).1, (f_X7_readNamed (H.1 4 11) 3 (f_X9_advance (upI H 14 3 (iAdd (H.1 14 3) 1)))).2)
              else
                if H.1 4 11 = 19 then
                  ((f_X7_readNamed (H.1 4 11) 0 (f_X9_advance (upI H 14 3 (iAdd (H.1 14 3) 1)))).1, (f_X7_readNamed (H.1 4 11) 0 (f_X9_advance (upI H 14 3 (iAdd (H.1 14 3) 1)))).2)
                else
                  if H.1 4 11 = 4 then
                    ((f_X7_readNamed (H.1 4 11) 1 (f_X9_advance (upI H 14 3 (iAdd (H.1 14 3) 1)))).1, (f_X7_readNamed (H.1 4 11) 1 (f_X9_advance (upI H 14 3 (iAdd (H.1 14 3) 1)))).2)
                  else
                    if H.1 4 11 = 20 ∨ H.1 4 11 = 21 ∨ H.1 4 11 = 22 then
                      ((f_X7_readComparison (H.1 4 11) (f_X9_advance (upI H 14 3 (iAdd (H.1 14 3) 1)))).1, (f_X7_readComparison (H.1 4 11) (f_X9_advance (upI H 14 3 (iAdd (H.1 14 3) 1)))).2)
                    else
                      (1, (f_X6_addStep (H.1 4 11) 0 0 (f_X9_advance (upI H 14 3 (iAdd (H.1 14 3) 1)))))
          else
            if ((f_X7_cond3 (f_X9_advance (upI H 14 3 (iAdd (H.1 14 3) 1)))).1) = 0 then
              (0, (f_X7_cond3 (f_X9_advance (upI H 14 3 (iAdd (H.1 14 3) 1)))).2)
            else
              if ((f_X9_passSign 41 (f_X7_cond3 (f_X9_advance (upI H 14 3 (iAdd (H.1 14 3) 1)))).2).1) = 0 then
                (0, (f_X9_passSign 41 (f_X7_cond3 (f_X9_advance (upI H 14 3 (iAdd (H.1 14 3) 1)))).2).2)
              else
                (1, (f_X9_passSign 41 (f_X7_cond3 (f_X9_advance (upI H 14 3 (iAdd (H.1 14 3) 1)))).2).2)
        else
          ((f_X9_fail 4 H).1, (f_X9_fail 4 H).2)
    else
      ((f_X9_fail 1 H).1, (f_X9_fail 1 H).2)
  else
    if H.1 14 3 < 20 then
      if f_X9_isAtSign 40 H = 0 then
        if H.1 4 11 = 18 then
          ((f_X7_one3 (f_X9_advance (upI H 14 3 (iAdd (H.1 14 3) 1)))).1, (f_X6_addStep 18 0 0 (f_X7_one3 (f_X9_advance (upI H 14 3 (iAdd (H.1 14 3) 1)))).2))
        else
          if H.1 4 11 = 5 then
            ((f_X7_readNamed (H.1 4 11) 3 (f_X9_advance (upI H 14 3 (iAdd (H.1 14 3) 1)))).1, (f_X7_readNamed (H.1 4 11) 3 (f_X9_advance (upI H 14 3 (iAdd (H.1 14 3) 1)))).2)
          else
            if H.1 4 11 = 19 then
              ((f_X7_readNamed (H.1 4 11) 0 (f_X9_advance (upI H 14 3 (iAdd (H.1 14 3) 1)))).1, (f_X7_readNamed (H.1 4 11) 0 (f_X9_advance (upI H 14 3 (iAdd (H.1 14 3) 1)))).2)
            else
              if H.1 4 11 = 4 then
                ((f_X7_readNamed (H.1 4 11) 1 (f_X9_advance (upI H 14 3 (iAdd (H.1 14 3) 1)))).1, (f_X7_readNamed (H.1 4 11) 1 (f_X9_advance (upI H 14 3 (iAdd (H.1 14 3) 1)))).2)
              else
                if H.1 4 11 = 20 ∨ H.1 4 11 = 21 ∨ H.1 4 11 = 22 then
                  ((f_X7_readComparison (H.1 4 11) (f_X9_advance (upI H 14 3 (iAdd (H.1 14 3) 1)))).1, (f_X7_readComparison (H.1 4 11) (f_X9_advance (upI H 14 3 (iAdd (H.1 14 3) 1)))).2)
                else
                  (1, (f_X6_addStep (H.1 4 11) 0 0 (f_X9_advance (upI H 14 3 (iAdd (H.1 14 3) 1)))))
      else
        if ((f_X7_cond3 (f_X9_advance (upI H 14 3 (iAdd (H.1 14 3) 1)))).1) = 0 then
          (0, (f_X7_cond3 (f_X9_advance (upI H 14 3 (iAdd (H.1 14 3) 1)))).2)
        else
          if ((f_X9_passSign 41 (f_X7_cond3 (f_X9_advance (upI H 14 3 (iAdd (H.1 14 3) 1)))).2).1) = 0 then
            (0, (f_X9_passSign 41 (f_X7_cond3 (f_X9_advance (upI H 14 3 (iAdd (H.1 14 3) 1)))).2).2)
          else
            (1, (f_X9_passSign 41 (f_X7_cond3 (f_X9_advance (upI H 14 3 (iAdd (H.1 14 3) 1)))).2).2)
    else
      ((f_X9_fail 4 H).1, (f_X9_fail 4 H).2)
set_option maxHeartbeats 16000000 in
set_option maxRecDepth 100000 in
theorem sp_X7_one4 {g : Nat → Nat}  (H : hH) (hr : RS H.2.2.1) : SP g rvTab rvInf rvRet 316 rvMth 103 [rf (g 14), pt 5] H (some (pt (f_X7_one4 H).1)) (f_X7_one4 H).2 := by
  have hj : 103 < 316 := by decide
  refine J_SP hj (Nat.le_of_ble_eq_true rfl) ?_
  show J g rvTab rvInf rvRet 316 rvMth 103 _ 0 [rf (g 14), pt 5, rvU, rvU, rvU] [] H
  refine J_ld 1 jw hj rfl rfl rfl rfl ?_
  refine J_gfR (k := 4) jw hj rfl (evn rfl) (by decide) (by decide) (RSa hr rfl) ?_
  refine J_cst 6 jw hj rfl rfl rfl ?_
  refine J_callV1 jw rfl (Or.inl ⟨_, rfl⟩) rfl rfl (sp_X9_isAtSign (g := g) 40 H) ?_
  refine J_st 10 [rf (g 14), pt 5, pt (f_X9_isAtSign 40 H), rvU, rvU] (k := 2) jw hj rfl (Or.inr (Or.inr (Or.inl ⟨_, rfl, rfl, rfl⟩))) rfl ?_
  refine J_ld 11 jw hj rfl rfl rfl rfl ?_
  refine J_gfR (k := 4) jw hj rfl (evn rfl) (by decide) (by decide) (RSa hr rfl) ?_
  refine J_gfI jw hj rfl (evn rfl) (by decide) rfl (fun r0 => ?_)
  refine J_st 18 [rf (g 14), pt 5, pt (f_X9_isAtSign 40 H), pt (H.1 4 11), rvU] (k := 3) jw hj rfl (Or.inr (Or.inr (Or.inl ⟨_, rfl, rfl, rfl⟩))) rfl ?_
  refine J_ld 19 jw hj rfl rfl rfl rfl ?_
  refine J_ifc (t := 49) jw hj rfl (evn rfl) rfl (fun (h0 : ¬ f_X9_isAtSign 40 H = 0) => ?_) (fun (h0 : f_X9_isAtSign 40 H = 0) => ?_)
  · refine J_ld 50 jw hj rfl rfl rfl rfl ?_
    refine J_gfI jw hj rfl (evn rfl) (by decide) rfl (fun r1 => ?_)
    refine J_cst 55 jw hj rfl rfl rfl ?_
    refine J_icmp (t := 64) jw hj rfl (evn rfl) rfl (fun (h1 : ¬ H.1 14 3 < 20) => ?_) (fun (h1 : H.1 14 3 < 20) => ?_)
    · refine J_ld 65 jw hj rfl rfl rfl rfl ?_
      refine J_gfR (k := 4) jw hj rfl (evn rfl) (by decide) (by decide) (RSa hr rfl) ?_
      refine J_cst 69 jw hj rfl rfl rfl ?_
      refine J_callV1 jw rfl (Or.inl ⟨_, rfl⟩) rfl rfl (st_X9_fail (g := g) 4 H (RSt hr)) ?_
      exact J_ret rfl (Or.inl rfl) (fun aw hR => by show _ ∧ _; unfold f_X7_one4; rw [if_neg h0, if_neg h1]; exact ⟨rfl, hR⟩)
    · refine J_ld 59 jw hj rfl rfl rfl rfl ?_
      refine J_cst 61 jw hj rfl rfl rfl ?_
      refine J_icmp (t := 73) jw hj rfl (evn rfl) rfl (fun (h2 : ¬ (8 : Int) < (5 : Int)) => ?_) (fun (h2 : (8 : Int) < (5 : Int)) => absurd h2 (by decide))
      refine J_ld 74 jw hj rfl rfl rfl rfl ?_
      refine J_dup 75 jw hj rfl rfl ?_
      refine J_gfI jw hj rfl (evn rfl) (by decide) rfl (fun r2 => ?_)
      refine J_cst 79 jw hj rfl rfl rfl ?_
      refine J_bin jw hj rfl rfl ?_
      refine J_pfI jw hj rfl (evn rfl) rfl ?_
      refine J_ld 84 jw hj rfl rfl rfl rfl ?_
      refine J_gfR (k := 4) jw hj rfl (evn rfl) (by decide) (by decide) (RSa hr rfl) ?_
      refine J_callV0 jw rfl (Or.inl ⟨_, rfl⟩) rfl rfl (st_X9_advance (g := g) (upI H 14 3 (iAdd (H.1 14 3) 1)) (RSt hr)) ?_
      refine J_ld 91 jw hj rfl rfl rfl rfl ?_
      refine J_ifc (t := 122) jw hj rfl (evn rfl) rfl (fun (h3 : f_X9_isAtSign 40 H = 0) => ?_) (fun (h3 : ¬ f_X9_isAtSign 40 H = 0) => ?_)
      · refine J_ld 123 jw hj rfl rfl rfl rfl ?_
        refine J_cst 125 jw hj rfl rfl rfl ?_
        refine J_icmp (t := 151) jw hj rfl (evn rfl) rfl (fun (h4 : ¬ H.1 4 11 = 18) => ?_) (fun (h4 : H.1 4 11 = 18) => ?_)
        · refine J_ld 152 jw hj rfl rfl rfl rfl ?_
          refine J_swR jw hj rfl (fun (h5 : H.1 4 11 = 5) => ?_) (fun (h5 : H.1 4 11 = 19) => ?_) (fun (h5 : H.1 4 11 = 4) => ?_) (fun (h5 : H.1 4 11 = 20 ∨ H.1 4 11 = 21 ∨ H.1 4 11 = 22) => ?_) (fun h5 h5_b h5_c h5_d => ?_)
          · refine J_ld 245 jw hj rfl rfl rfl rfl ?_
            refine J_ld 246 jw hj rfl rfl rfl rfl ?_
            refine J_cst 247 jw hj rfl rfl rfl ?_
            refine J_callV1 jw rfl (Or.inl ⟨_, rfl⟩) rfl rfl (sp_X7_readNamed (g := g) (H.1 4 11) 3 (f_X9_advance (upI H 14 3 (iAdd (H.1 14 3) 1))) (rp_X9_advance (upI H 14 3 (iAdd (H.1 14 3) 1)) hr)) ?_
            exact J_ret rfl (Or.inl rfl) (fun aw hR => by show _ ∧ _; unfold f_X7_one4; rw [if_neg h0, if_pos h1, if_pos h3, if_neg h4, if_pos h5]; exact ⟨rfl, hR⟩)
          · refine J_ld 252 jw hj rfl rfl rfl rfl ?_
            refine J_ld 253 jw hj rfl rfl rfl rfl ?_
            refine J_cst 254 jw hj rfl rfl rfl ?_
            refine J_callV1 jw rfl (Or.inl ⟨_, rfl⟩) rfl rfl (sp_X7_readNamed (g := g) (H.1 4 11) 0 (f_X9_advance (upI H 14 3 (iAdd (H.1 14 3) 1))) (rp_X9_advance (upI H 14 3 (iAdd (H.1 14 3) 1)) hr)) ?_
            exact J_ret rfl (Or.inl rfl) (fun aw hR => by show _ ∧ _; unfold f_X7_one4; rw [if_neg h0, if_pos h1, if_pos h3, if_neg h4, if_neg (show ¬ (H.1 4 11 = 5) by omega), if_pos h5]; exact ⟨rfl, hR⟩)
          · refine J_ld 259 jw hj rfl rfl rfl rfl ?_
            refine J_ld 260 jw hj rfl rfl rfl rfl ?_
            refine J_cst 261 jw hj rfl rfl rfl ?_
            refine J_callV1 jw rfl (Or.inl ⟨_, rfl⟩) rfl rfl (sp_X7_readNamed (g := g) (H.1 4 11) 1 (f_X9_advance (upI H 14 3 (iAdd (H.1 14 3) 1))) (rp_X9_advance (upI H 14 3 (iAdd (H.1 14 3) 1)) hr)) ?_
            exact J_ret rfl (Or.inl rfl) (fun aw hR => by show _ ∧ _; unfold f_X7_one4; rw [if_neg h0, if_pos h1, if_pos h3, if_neg h4, if_neg (show ¬ (H.1 4 11 = 5) by omega), if_neg (show ¬ (H.1 4 11 = 19) by omega), if_pos h5]; exact ⟨rfl, hR⟩)
          · refine J_ld 266 jw hj rfl rfl rfl rfl ?_
            refine J_ld 267 jw hj rfl rfl rfl rfl ?_
            refine J_callV1 jw rfl (Or.inl ⟨_, rfl⟩) rfl rfl (sp_X7_readComparison (g := g) (H.1 4 11) (f_X9_advance (upI H 14 3 (iAdd (H.1 14 3) 1))) (rp_X9_advance (upI H 14 3 (iAdd (H.1 14 3) 1)) hr)) ?_
            exact J_ret rfl (Or.inl rfl) (fun aw hR => by show _ ∧ _; unfold f_X7_one4; rw [if_neg h0, if_pos h1, if_pos h3, if_neg h4, if_neg (show ¬ (H.1 4 11 = 5) by omega), if_neg (show ¬ (H.1 4 11 = 19) by omega), if_neg (show ¬ (H.1 4 11 = 4) by omega), if_pos h5]; exact ⟨rfl, hR⟩)
          · refine J_ld 272 jw hj rfl rfl rfl rfl ?_
            refine J_gfR (k := 60) jw hj rfl (evn rfl) (by decide) (by decide) (RSa (rp_X9_advance (upI H 14 3 (iAdd (H.1 14 3) 1)) hr) rfl) ?_
            refine J_ld 276 jw hj rfl rfl rfl rfl ?_
            refine J_cst 277 jw hj rfl rfl rfl ?_
            refine J_cst 278 jw hj rfl rfl rfl ?_
            refine J_callV0 jw rfl (Or.inl ⟨_, rfl⟩) rfl rfl (sp_X6_addStep (g := g) (H.1 4 11) 0 0 (f_X9_advance (upI H 14 3 (iAdd (H.1 14 3) 1))) (rp_X9_advance (upI H 14 3 (iAdd (H.1 14 3) 1)) hr)) ?_
            refine J_cst 282 jw hj rfl rfl rfl ?_
            exact J_ret rfl (Or.inl rfl) (fun aw hR => by show _ ∧ _; unfold f_X7_one4; rw [if_neg h0, if_pos h1, if_pos h3, if_neg h4, if_neg h5, if_neg h5_b, if_neg h5_c, if_neg h5_d]; exact ⟨rfl, hR⟩)
        · refine J_ld 129 jw hj rfl rfl rfl rfl ?_
          refine J_ld 130 jw hj rfl rfl rfl rfl ?_
          refine J_cst 131 jw hj rfl rfl rfl ?_
          refine J_bin jw hj rfl rfl ?_
          rw [show iop (· + ·) (5 : Int) 1 = 6 from by decide]
          refine J_callV1 jw rfl (Or.inl ⟨_, rfl⟩) rfl rfl (sp_X7_one3 (g := g) (f_X9_advance (upI H 14 3 (iAdd (H.1 14 3) 1))) (rp_X9_advance (upI H 14 3 (iAdd (H.1 14 3) 1)) hr)) ?_
          refine J_st 137 [rf (g 14), pt 5, pt (f_X9_isAtSign 40 H), pt (H.1 4 11), pt ((f_X7_one3 (f_X9_advance (upI H 14 3 (iAdd (H.1 14 3) 1)))).1)] (k := 4) jw hj rfl (Or.inl ⟨rfl, rfl⟩) rfl ?_
          refine J_ld 138 jw hj rfl rfl rfl rfl ?_
          refine J_gfR (k := 60) jw hj rfl (evn rfl) (by decide) (by decide) (RSa (rp_X7_one3 (f_X9_advance (upI H 14 3 (iAdd (H.1 14 3) 1))) (rp_X9_advance (upI H 14 3 (iAdd (H.1 14 3) 1)) hr)) rfl) ?_
          refine J_cst 143 jw hj rfl rfl rfl ?_
          refine J_cst 144 jw hj rfl rfl rfl ?_
          refine J_cst 145 jw hj rfl rfl rfl ?_
          refine J_callV0 jw rfl (Or.inl ⟨_, rfl⟩) rfl rfl (sp_X6_addStep (g := g) 18 0 0 (f_X7_one3 (f_X9_advance (upI H 14 3 (iAdd (H.1 14 3) 1)))).2 (rp_X7_one3 (f_X9_advance (upI H 14 3 (iAdd (H.1 14 3) 1))) (rp_X9_advance (upI H 14 3 (iAdd (H.1 14 3) 1)) hr))) ?_
          refine J_ld 150 jw hj rfl rfl rfl rfl ?_
          exact J_ret rfl (Or.inl rfl) (fun aw hR => by show _ ∧ _; unfold f_X7_one4; rw [if_neg h0, if_pos h1, if_pos h3, if_pos h4]; exact ⟨rfl, hR⟩)
      · refine J_ld 95 jw hj rfl rfl rfl rfl ?_
        refine J_ld 96 jw hj rfl rfl rfl rfl ?_
        refine J_cst 97 jw hj rfl rfl rfl ?_
        refine J_bin jw hj rfl rfl ?_
        rw [show iop (· + ·) (5 : Int) 1 = 6 from by decide]
        refine J_callV1 jw rfl (Or.inl ⟨_, rfl⟩) rfl rfl (sp_X7_cond3 (g := g) (f_X9_advance (upI H 14 3 (iAdd (H.1 14 3) 1))) (rp_X9_advance (upI H 14 3 (iAdd (H.1 14 3) 1)) hr)) ?_
        refine J_ifc (t := 120) jw hj rfl (evn rfl) rfl (fun (h6 : ((f_X7_cond3 (f_X9_advance (upI H 14 3 (iAdd (H.1 14 3) 1)))).1) = 0) => ?_) (fun (h6 : ¬ ((f_X7_cond3 (f_X9_advance (upI H 14 3 (iAdd (H.1 14 3) 1)))).1) = 0) => ?_)
        · refine J_cst 121 jw hj rfl rfl rfl ?_
          exact J_ret rfl (Or.inl rfl) (fun aw hR => by show _ ∧ _; unfold f_X7_one4; rw [if_neg h0, if_pos h1, if_neg h3, if_pos h6]; exact ⟨rfl, hR⟩)
        · refine J_ld 105 jw hj rfl rfl rfl rfl ?_
          refine J_gfR (k := 4) jw hj rfl (evn rfl) (by decide) (by decide) (RSa (rp_X7_cond3 (f_X9_advance (upI H 14 3 (iAdd (H.1 14 3) 1))) (rp_X9_advance (upI H 14 3 (iAdd (H.1 14 3) 1)) hr)) rfl) ?_
          refine J_cst 110 jw hj rfl rfl rfl ?_
          refine J_callV1 jw rfl (Or.inl ⟨_, rfl⟩) rfl rfl (st_X9_passSign (g := g) 41 (f_X7_cond3 (f_X9_advance (upI H 14 3 (iAdd (H.1 14 3) 1)))).2 (RSt (rp_X7_cond3 (f_X9_advance (upI H 14 3 (iAdd (H.1 14 3) 1))) (rp_X9_advance (upI H 14 3 (iAdd (H.1 14 3) 1)) hr)))) ?_
          refine J_ifc (t := 120) jw hj rfl (evn rfl) rfl (fun (h7 : ((f_X9_passSign 41 (f_X7_cond3 (f_X9_advance (upI H 14 3 (iAdd (H.1 14 3) 1)))).2).1) = 0) => ?_) (fun (h7 : ¬ ((f_X9_passSign 41 (f_X7_cond3 (f_X9_advance (upI H 14 3 (iAdd (H.1 14 3) 1)))).2).1) = 0) => ?_)
          · refine J_cst 121 jw hj rfl rfl rfl ?_
            exact J_ret rfl (Or.inl rfl) (fun aw hR => by show _ ∧ _; unfold f_X7_one4; rw [if_neg h0, if_pos h1, if_neg h3, if_neg h6, if_pos h7]; exact ⟨rfl, hR⟩)
          · refine J_cst 117 jw hj rfl rfl rfl ?_
            refine J_goto 121 jw hj rfl rfl ?_
            exact J_ret rfl (Or.inl rfl) (fun aw hR => by show _ ∧ _; unfold f_X7_one4; rw [if_neg h0, if_pos h1, if_neg h3, if_neg h6, if_neg h7]; exact ⟨rfl, hR⟩)
  · refine J_ld 23 jw hj rfl rfl rfl rfl ?_
    refine J_gfR (k := 4) jw hj rfl (evn rfl) (by decide) (by decide) (RSa hr rfl) ?_
    refine J_gfI jw hj rfl (evn rfl) (by decide) rfl (fun r3 => ?_)
    refine J_cst 30 jw hj rfl rfl rfl ?_
    refine J_icmp (t := 40) jw hj rfl (evn rfl) rfl (fun (h8 : ¬ H.1 4 10 = 4) => ?_) (fun (h8 : H.1 4 10 = 4) => ?_)
    · refine J_ld 41 jw hj rfl rfl rfl rfl ?_
      refine J_gfR (k := 4) jw hj rfl (evn rfl) (by decide) (by decide) (RSa hr rfl) ?_
      refine J_cst 45 jw hj rfl rfl rfl ?_
      refine J_callV1 jw rfl (Or.inl ⟨_, rfl⟩) rfl rfl (st_X9_fail (g := g) 1 H (RSt hr)) ?_
      exact J_ret rfl (Or.inl rfl) (fun aw hR => by show _ ∧ _; unfold f_X7_one4; rw [if_pos h0, if_neg h8]; exact ⟨rfl, hR⟩)
    · refine J_ld 34 jw hj rfl rfl rfl rfl ?_
      refine J_callS1 jw rfl rfl rfl rfl (sp_X7_beginsOne (g := g) (H.1 4 11) H) ?_
      refine J_ifc (t := 49) jw hj rfl (evn rfl) rfl (fun (h9 : ¬ f_X7_beginsOne (H.1 4 11) = 0) => ?_) (fun (h9 : f_X7_beginsOne (H.1 4 11) = 0) => ?_)
      · refine J_ld 50 jw hj rfl rfl rfl rfl ?_
        refine J_gfI jw hj rfl (evn rfl) (by decide) rfl (fun r4 => ?_)
        refine J_cst 55 jw hj rfl rfl rfl ?_
        refine J_icmp (t := 64) jw hj rfl (evn rfl) rfl (fun (h10 : ¬ H.1 14 3 < 20) => ?_) (fun (h10 : H.1 14 3 < 20) => ?_)
        · refine J_ld 65 jw hj rfl rfl rfl rfl ?_
          refine J_gfR (k := 4) jw hj rfl (evn rfl) (by decide) (by decide) (RSa hr rfl) ?_
          refine J_cst 69 jw hj rfl rfl rfl ?_
          refine J_callV1 jw rfl (Or.inl ⟨_, rfl⟩) rfl rfl (st_X9_fail (g := g) 4 H (RSt hr)) ?_
          exact J_ret rfl (Or.inl rfl) (fun aw hR => by show _ ∧ _; unfold f_X7_one4; rw [if_pos h0, if_pos h8, if_neg h9, if_neg h10]; exact ⟨rfl, hR⟩)
        · refine J_ld 59 jw hj rfl rfl rfl rfl ?_
          refine J_cst 61 jw hj rfl rfl rfl ?_
          refine J_icmp (t := 73) jw hj rfl (evn rfl) rfl (fun (h11 : ¬ (8 : Int) < (5 : Int)) => ?_) (fun (h11 : (8 : Int) < (5 : Int)) => absurd h11 (by decide))
          refine J_ld 74 jw hj rfl rfl rfl rfl ?_
          refine J_dup 75 jw hj rfl rfl ?_
          refine J_gfI jw hj rfl (evn rfl) (by decide) rfl (fun r5 => ?_)
          refine J_cst 79 jw hj rfl rfl rfl ?_
          refine J_bin jw hj rfl rfl ?_
          refine J_pfI jw hj rfl (evn rfl) rfl ?_
          refine J_ld 84 jw hj rfl rfl rfl rfl ?_
          refine J_gfR (k := 4) jw hj rfl (evn rfl) (by decide) (by decide) (RSa hr rfl) ?_
          refine J_callV0 jw rfl (Or.inl ⟨_, rfl⟩) rfl rfl (st_X9_advance (g := g) (upI H 14 3 (iAdd (H.1 14 3) 1)) (RSt hr)) ?_
          refine J_ld 91 jw hj rfl rfl rfl rfl ?_
          refine J_ifc (t := 122) jw hj rfl (evn rfl) rfl (fun (h12 : f_X9_isAtSign 40 H = 0) => ?_) (fun (h12 : ¬ f_X9_isAtSign 40 H = 0) => ?_)
          · refine J_ld 123 jw hj rfl rfl rfl rfl ?_
            refine J_cst 125 jw hj rfl rfl rfl ?_
            refine J_icmp (t := 151) jw hj rfl (evn rfl) rfl (fun (h13 : ¬ H.1 4 11 = 18) => ?_) (fun (h13 : H.1 4 11 = 18) => ?_)
            · refine J_ld 152 jw hj rfl rfl rfl rfl ?_
              refine J_swR jw hj rfl (fun (h14 : H.1 4 11 = 5) => ?_) (fun (h14 : H.1 4 11 = 19) => ?_) (fun (h14 : H.1 4 11 = 4) => ?_) (fun (h14 : H.1 4 11 = 20 ∨ H.1 4 11 = 21 ∨ H.1 4 11 = 22) => ?_) (fun h14 h14_b h14_c h14_d => ?_)
              · refine J_ld 245 jw hj rfl rfl rfl rfl ?_
                refine J_ld 246 jw hj rfl rfl rfl rfl ?_
                refine J_cst 247 jw hj rfl rfl rfl ?_
                refine J_callV1 jw rfl (Or.inl ⟨_, rfl⟩) rfl rfl (sp_X7_readNamed (g := g) (H.1 4 11) 3 (f_X9_advance (upI H 14 3 (iAdd (H.1 14 3) 1))) (rp_X9_advance (upI H 14 3 (iAdd (H.1 14 3) 1)) hr)) ?_
                exact J_ret rfl (Or.inl rfl) (fun aw hR => by show _ ∧ _; unfold f_X7_one4; rw [if_pos h0, if_pos h8, if_neg h9, if_pos h10, if_pos h12, if_neg h13, if_pos h14]; exact ⟨rfl, hR⟩)
              · refine J_ld 252 jw hj rfl rfl rfl rfl ?_
                refine J_ld 253 jw hj rfl rfl rfl rfl ?_
                refine J_cst 254 jw hj rfl rfl rfl ?_
                refine J_callV1 jw rfl (Or.inl ⟨_, rfl⟩) rfl rfl (sp_X7_readNamed (g := g) (H.1 4 11) 0 (f_X9_advance (upI H 14 3 (iAdd (H.1 14 3) 1))) (rp_X9_advance (upI H 14 3 (iAdd (H.1 14 3) 1)) hr)) ?_
                exact J_ret rfl (Or.inl rfl) (fun aw hR => by show _ ∧ _; unfold f_X7_one4; rw [if_pos h0, if_pos h8, if_neg h9, if_pos h10, if_pos h12, if_neg h13, if_neg (show ¬ (H.1 4 11 = 5) by omega), if_pos h14]; exact ⟨rfl, hR⟩)
              · refine J_ld 259 jw hj rfl rfl rfl rfl ?_
                refine J_ld 260 jw hj rfl rfl rfl rfl ?_
                refine J_cst 261 jw hj rfl rfl rfl ?_
                refine J_callV1 jw rfl (Or.inl ⟨_, rfl⟩) rfl rfl (sp_X7_readNamed (g := g) (H.1 4 11) 1 (f_X9_advance (upI H 14 3 (iAdd (H.1 14 3) 1))) (rp_X9_advance (upI H 14 3 (iAdd (H.1 14 3) 1)) hr)) ?_
                exact J_ret rfl (Or.inl rfl) (fun aw hR => by show _ ∧ _; unfold f_X7_one4; rw [if_pos h0, if_pos h8, if_neg h9, if_pos h10, if_pos h12, if_neg h13, if_neg (show ¬ (H.1 4 11 = 5) by omega), if_neg (show ¬ (H.1 4 11 = 19) by omega), if_pos h14]; exact ⟨rfl, hR⟩)
              · refine J_ld 266 jw hj rfl rfl rfl rfl ?_
                refine J_ld 267 jw hj rfl rfl rfl rfl ?_
                refine J_callV1 jw rfl (Or.inl ⟨_, rfl⟩) rfl rfl (sp_X7_readComparison (g := g) (H.1 4 11) (f_X9_advance (upI H 14 3 (iAdd (H.1 14 3) 1))) (rp_X9_advance (upI H 14 3 (iAdd (H.1 14 3) 1)) hr)) ?_
                exact J_ret rfl (Or.inl rfl) (fun aw hR => by show _ ∧ _; unfold f_X7_one4; rw [if_pos h0, if_pos h8, if_neg h9, if_pos h10, if_pos h12, if_neg h13, if_neg (show ¬ (H.1 4 11 = 5) by omega), if_neg (show ¬ (H.1 4 11 = 19) by omega), if_neg (show ¬ (H.1 4 11 = 4) by omega), if_pos h14]; exact ⟨rfl, hR⟩)
              · refine J_ld 272 jw hj rfl rfl rfl rfl ?_
                refine J_gfR (k := 60) jw hj rfl (evn rfl) (by decide) (by decide) (RSa (rp_X9_advance (upI H 14 3 (iAdd (H.1 14 3) 1)) hr) rfl) ?_
                refine J_ld 276 jw hj rfl rfl rfl rfl ?_
                refine J_cst 277 jw hj rfl rfl rfl ?_
                refine J_cst 278 jw hj rfl rfl rfl ?_
                refine J_callV0 jw rfl (Or.inl ⟨_, rfl⟩) rfl rfl (sp_X6_addStep (g := g) (H.1 4 11) 0 0 (f_X9_advance (upI H 14 3 (iAdd (H.1 14 3) 1))) (rp_X9_advance (upI H 14 3 (iAdd (H.1 14 3) 1)) hr)) ?_
                refine J_cst 282 jw hj rfl rfl rfl ?_
                exact J_ret rfl (Or.inl rfl) (fun aw hR => by show _ ∧ _; unfold f_X7_one4; rw [if_pos h0, if_pos h8, if_neg h9, if_pos h10, if_pos h12, if_neg h13, if_neg h14, if_neg h14_b, if_neg h14_c, if_neg h14_d]; exact ⟨rfl, hR⟩)
            · refine J_ld 129 jw hj rfl rfl rfl rfl ?_
              refine J_ld 130 jw hj rfl rfl rfl rfl ?_
              refine J_cst 131 jw hj rfl rfl rfl ?_
              refine J_bin jw hj rfl rfl ?_
              rw [show iop (· + ·) (5 : Int) 1 = 6 from by decide]
              refine J_callV1 jw rfl (Or.inl ⟨_, rfl⟩) rfl rfl (sp_X7_one3 (g := g) (f_X9_advance (upI H 14 3 (iAdd (H.1 14 3) 1))) (rp_X9_advance (upI H 14 3 (iAdd (H.1 14 3) 1)) hr)) ?_
              refine J_st 137 [rf (g 14), pt 5, pt (f_X9_isAtSign 40 H), pt (H.1 4 11), pt ((f_X7_one3 (f_X9_advance (upI H 14 3 (iAdd (H.1 14 3) 1)))).1)] (k := 4) jw hj rfl (Or.inl ⟨rfl, rfl⟩) rfl ?_
              refine J_ld 138 jw hj rfl rfl rfl rfl ?_
              refine J_gfR (k := 60) jw hj rfl (evn rfl) (by decide) (by decide) (RSa (rp_X7_one3 (f_X9_advance (upI H 14 3 (iAdd (H.1 14 3) 1))) (rp_X9_advance (upI H 14 3 (iAdd (H.1 14 3) 1)) hr)) rfl) ?_
              refine J_cst 143 jw hj rfl rfl rfl ?_
              refine J_cst 144 jw hj rfl rfl rfl ?_
              refine J_cst 145 jw hj rfl rfl rfl ?_
              refine J_callV0 jw rfl (Or.inl ⟨_, rfl⟩) rfl rfl (sp_X6_addStep (g := g) 18 0 0 (f_X7_one3 (f_X9_advance (upI H 14 3 (iAdd (H.1 14 3) 1)))).2 (rp_X7_one3 (f_X9_advance (upI H 14 3 (iAdd (H.1 14 3) 1))) (rp_X9_advance (upI H 14 3 (iAdd (H.1 14 3) 1)) hr))) ?_
              refine J_ld 150 jw hj rfl rfl rfl rfl ?_
              exact J_ret rfl (Or.inl rfl) (fun aw hR => by show _ ∧ _; unfold f_X7_one4; rw [if_pos h0, if_pos h8, if_neg h9, if_pos h10, if_pos h12, if_pos h13]; exact ⟨rfl, hR⟩)
          · refine J_ld 95 jw hj rfl rfl rfl rfl ?_
            refine J_ld 96 jw hj rfl rfl rfl rfl ?_
            refine J_cst 97 jw hj rfl rfl rfl ?_
            refine J_bin jw hj rfl rfl ?_
            rw [show iop (· + ·) (5 : Int) 1 = 6 from by decide]
            refine J_callV1 jw rfl (Or.inl ⟨_, rfl⟩) rfl rfl (sp_X7_cond3 (g := g) (f_X9_advance (upI H 14 3 (iAdd (H.1 14 3) 1))) (rp_X9_advance (upI H 14 3 (iAdd (H.1 14 3) 1)) hr)) ?_
            refine J_ifc (t := 120) jw hj rfl (evn rfl) rfl (fun (h15 : ((f_X7_cond3 (f_X9_advance (upI H 14 3 (iAdd (H.1 14 3) 1)))).1) = 0) => ?_) (fun (h15 : ¬ ((f_X7_cond3 (f_X9_advance (upI H 14 3 (iAdd (H.1 14 3) 1)))).1) = 0) => ?_)
            · refine J_cst 121 jw hj rfl rfl rfl ?_
              exact J_ret rfl (Or.inl rfl) (fun aw hR => by show _ ∧ _; unfold f_X7_one4; rw [if_pos h0, if_pos h8, if_neg h9, if_pos h10, if_neg h12, if_pos h15]; exact ⟨rfl, hR⟩)
            · refine J_ld 105 jw hj rfl rfl rfl rfl ?_
              refine J_gfR (k := 4) jw hj rfl (evn rfl) (by decide) (by decide) (RSa (rp_X7_cond3 (f_X9_advance (upI H 14 3 (iAdd (H.1 14 3) 1))) (rp_X9_advance (upI H 14 3 (iAdd (H.1 14 3) 1)) hr)) rfl) ?_
              refine J_cst 110 jw hj rfl rfl rfl ?_
              refine J_callV1 jw rfl (Or.inl ⟨_, rfl⟩) rfl rfl (st_X9_passSign (g := g) 41 (f_X7_cond3 (f_X9_advance (upI H 14 3 (iAdd (H.1 14 3) 1)))).2 (RSt (rp_X7_cond3 (f_X9_advance (upI H 14 3 (iAdd (H.1 14 3) 1))) (rp_X9_advance (upI H 14 3 (iAdd (H.1 14 3) 1)) hr)))) ?_
              refine J_ifc (t := 120) jw hj rfl (evn rfl) rfl (fun (h16 : ((f_X9_passSign 41 (f_X7_cond3 (f_X9_advance (upI H 14 3 (iAdd (H.1 14 3) 1)))).2).1) = 0) => ?_) (fun (h16 : ¬ ((f_X9_passSign 41 (f_X7_cond3 (f_X9_advance (upI H 14 3 (iAdd (H.1 14 3) 1)))).2).1) = 0) => ?_)
              · refine J_cst 121 jw hj rfl rfl rfl ?_
                exact J_ret rfl (Or.inl rfl) (fun aw hR => by show _ ∧ _; unfold f_X7_one4; rw [if_pos h0, if_pos h8, if_neg h9, if_pos h10, if_neg h12, if_neg h15, if_pos h16]; exact ⟨rfl, hR⟩)
              · refine J_cst 117 jw hj rfl rfl rfl ?_
                refine J_goto 121 jw hj rfl rfl ?_
                exact J_ret rfl (Or.inl rfl) (fun aw hR => by show _ ∧ _; unfold f_X7_one4; rw [if_pos h0, if_pos h8, if_neg h9, if_pos h10, if_neg h12, if_neg h15, if_neg h16]; exact ⟨rfl, hR⟩)
      · refine J_ld 41 jw hj rfl rfl rfl rfl ?_
        refine J_gfR (k := 4) jw hj rfl (evn rfl) (by decide) (by decide) (RSa hr rfl) ?_
        refine J_cst 45 jw hj rfl rfl rfl ?_
        refine J_callV1 jw rfl (Or.inl ⟨_, rfl⟩) rfl rfl (st_X9_fail (g := g) 1 H (RSt hr)) ?_
        exact J_ret rfl (Or.inl rfl) (fun aw hR => by show _ ∧ _; unfold f_X7_one4; rw [if_pos h0, if_pos h8, if_pos h9]; exact ⟨rfl, hR⟩)
theorem rp_X7_one4 {P : (Nat → Nat → Option Nat) → Prop}  (H : hH) (hr : P H.2.2.1) : P (f_X7_one4 H).2.2.2.1 := by
  unfold f_X7_one4
  by_cases q1 : f_X9_isAtSign 40 H = 0
  · rw [if_pos q1]
    by_cases q2 : H.1 4 10 = 4
    · rw [if_pos q2]
      by_cases q3 : f_X7_beginsOne (H.1 4 11) = 0
      · rw [if_pos q3]
        exact (rp_X9_fail 1 H hr)
      · rw [if_neg q3]
        by_cases q4 : H.1 14 3 < 20
        · rw [if_pos q4]
          by_cases q5 : f_X9_isAtSign 40 H = 0
          · rw [if_pos q5]
            by_cases q6 : H.1 4 11 = 18
            · rw [if_pos q6]
              exact (rp_X6_addStep 18 0 0 (f_X7_one3 (f_X9_advance (upI H 14 3 (iAdd (H.1 14 3) 1)))).2 (rp_X7_one3 (f_X9_advance (upI H 14 3 (iAdd (H.1 14 3) 1))) (rp_X9_advance (upI H 14 3 (iAdd (H.1 14 3) 1)) hr)))
            · rw [if_neg q6]
              by_cases q7 : H.1 4 11 = 5
              · rw [if_pos q7]
                exact (rp_X7_readNamed (H.1 4 11) 3 (f_X9_advance (upI H 14 3 (iAdd (H.1 14 3) 1))) (rp_X9_advance (upI H 14 3 (iAdd (H.1 14 3) 1)) hr))
              · rw [if_neg q7]
                by_cases q8 : H.1 4 11 = 19
                · rw [if_pos q8]
                  exact (rp_X7_readNamed (H.1 4 11) 0 (f_X9_advance (upI H 14 3 (iAdd (H.1 14 3) 1))) (rp_X9_advance (upI H 14 3 (iAdd (H.1 14 3) 1)) hr))
                · rw [if_neg q8]
                  by_cases q9 : H.1 4 11 = 4
                  · rw [if_pos q9]
                    exact (rp_X7_readNamed (H.1 4 11) 1 (f_X9_advance (upI H 14 3 (iAdd (H.1 14 3) 1))) (rp_X9_advance (upI H 14 3 (iAdd (H.1 14 3) 1)) hr))
                  · rw [if_neg q9]
                    by_cases q10 : H.1 4 11 = 20 ∨ H.1 4 11 = 21 ∨ H.1 4 11 = 22
                    · rw [if_pos q10]
                      exact (rp_X7_readComparison (H.1 4 11) (f_X9_advance (upI H 14 3 (iAdd (H.1 14 3) 1))) (rp_X9_advance (upI H 14 3 (iAdd (H.1 14 3) 1)) hr))
                    · rw [if_neg q10]
                      exact (rp_X6_addStep (H.1 4 11) 0 0 (f_X9_advance (upI H 14 3 (iAdd (H.1 14 3) 1))) (rp_X9_advance (upI H 14 3 (iAdd (H.1 14 3) 1)) hr))
          · rw [if_neg q5]
            by_cases q6 : ((f_X7_cond3 (f_X9_advance (upI H 14 3 (iAdd (H.1 14 3) 1)))).1) = 0
            · rw [if_pos q6]
              exact (rp_X7_cond3 (f_X9_advance (upI H 14 3 (iAdd (H.1 14 3) 1))) (rp_X9_advance (upI H 14 3 (iAdd (H.1 14 3) 1)) hr))
            · rw [if_neg q6]
              by_cases q7 : ((f_X9_passSign 41 (f_X7_cond3 (f_X9_advance (upI H 14 3 (iAdd (H.1 14 3) 1)))).2).1) = 0
              · rw [if_pos q7]
                exact (rp_X9_passSign 41 (f_X7_cond3 (f_X9_advance (upI H 14 3 (iAdd (H.1 14 3) 1)))).2 (rp_X7_cond3 (f_X9_advance (upI H 14 3 (iAdd (H.1 14 3) 1))) (rp_X9_advance (upI H 14 3 (iAdd (H.1 14 3) 1)) hr)))
              · rw [if_neg q7]
                exact (rp_X9_passSign 41 (f_X7_cond3 (f_X9_advance (upI H 14 3 (iAdd (H.1 14 3) 1)))).2 (rp_X7_cond3 (f_X9_advance (upI H 14 3 (iAdd (H.1 14 3) 1))) (rp_X9_advance (upI H 14 3 (iAdd (H.1 14 3) 1)) hr)))
        · rw [if_neg q4]
          exact (rp_X9_fail 4 H hr)
    · rw [if_neg q2]
      exact (rp_X9_fail 1 H hr)
  · rw [if_neg q1]
    by_cases q2 : H.1 14 3 < 20
    · rw [if_pos q2]
      by_cases q3 : f_X9_isAtSign 40 H = 0
      · rw [if_pos q3]
        by_cases q4 : H.1 4 11 = 18
        · rw [if_pos q4]
          exact (rp_X6_addStep 18 0 0 (f_X7_one3 (f_X9_advance (upI H 14 3 (iAdd (H.1 14 3) 1)))).2 (rp_X7_one3 (f_X9_advance (upI H 14 3 (iAdd (H.1 14 3) 1))) (rp_X9_advance (upI H 14 3 (iAdd (H.1 14 3) 1)) hr)))
        · rw [if_neg q4]
          by_cases q5 : H.1 4 11 = 5
          · rw [if_pos q5]
            exact (rp_X7_readNamed (H.1 4 11) 3 (f_X9_advance (upI H 14 3 (iAdd (H.1 14 3) 1))) (rp_X9_advance (upI H 14 3 (iAdd (H.1 14 3) 1)) hr))
          · rw [if_neg q5]
            by_cases q6 : H.1 4 11 = 19
            · rw [if_pos q6]
              exact (rp_X7_readNamed (H.1 4 11) 0 (f_X9_advance (upI H 14 3 (iAdd (H.1 14 3) 1))) (rp_X9_advance (upI H 14 3 (iAdd (H.1 14 3) 1)) hr))
            · rw [if_neg q6]
              by_cases q7 : H.1 4 11 = 4
              · rw [if_pos q7]
                exact (rp_X7_readNamed (H.1 4 11) 1 (f_X9_advance (upI H 14 3 (iAdd (H.1 14 3) 1))) (rp_X9_advance (upI H 14 3 (iAdd (H.1 14 3) 1)) hr))
              · rw [if_neg q7]
                by_cases q8 : H.1 4 11 = 20 ∨ H.1 4 11 = 21 ∨ H.1 4 11 = 22
                · rw [if_pos q8]
                  exact (rp_X7_readComparison (H.1 4 11) (f_X9_advance (upI H 14 3 (iAdd (H.1 14 3) 1))) (rp_X9_advance (upI H 14 3 (iAdd (H.1 14 3) 1)) hr))
                · rw [if_neg q8]
                  exact (rp_X6_addStep (H.1 4 11) 0 0 (f_X9_advance (upI H 14 3 (iAdd (H.1 14 3) 1))) (rp_X9_advance (upI H 14 3 (iAdd (H.1 14 3) 1)) hr))
      · rw [if_neg q3]
        by_cases q4 : ((f_X7_cond3 (f_X9_advance (upI H 14 3 (iAdd (H.1 14 3) 1)))).1) = 0
        · rw [if_pos q4]
          exact (rp_X7_cond3 (f_X9_advance (upI H 14 3 (iAdd (H.1 14 3) 1))) (rp_X9_advance (upI H 14 3 (iAdd (H.1 14 3) 1)) hr))
        · rw [if_neg q4]
          by_cases q5 : ((f_X9_passSign 41 (f_X7_cond3 (f_X9_advance (upI H 14 3 (iAdd (H.1 14 3) 1)))).2).1) = 0
          · rw [if_pos q5]
            exact (rp_X9_passSign 41 (f_X7_cond3 (f_X9_advance (upI H 14 3 (iAdd (H.1 14 3) 1)))).2 (rp_X7_cond3 (f_X9_advance (upI H 14 3 (iAdd (H.1 14 3) 1))) (rp_X9_advance (upI H 14 3 (iAdd (H.1 14 3) 1)) hr)))
          · rw [if_neg q5]
            exact (rp_X9_passSign 41 (f_X7_cond3 (f_X9_advance (upI H 14 3 (iAdd (H.1 14 3) 1)))).2 (rp_X7_cond3 (f_X9_advance (upI H 14 3 (iAdd (H.1 14 3) 1))) (rp_X9_advance (upI H 14 3 (iAdd (H.1 14 3) 1)) hr)))
    · rw [if_neg q2]
      exact (rp_X9_fail 4 H hr)
def f_X7_al4 : Nat → hH → Int × hH
  | 0, H => (1, H)
  | k + 1, H =>
    if f_X9_isAtWord 17 H = 0 then
      (1, H)
    else
      if ((f_X7_one4 (f_X9_advance H)).1) = 0 then
        (0, (f_X7_one4 (f_X9_advance H)).2)
      else
        f_X7_al4 k (f_X6_addStep 17 0 0 (f_X7_one4 (f_X9_advance H)).2)
set_option maxHeartbeats 16000000 in
set_option maxRecDepth 100000 in
theorem lp_X7_al4 {g : Nat → Nat} : ∀ (k i : Nat) (H : hH), i + k = 200 → RS H.2.2.1 → J g rvTab rvInf rvRet 316 rvMth 104 (fun res => res.1 = some (pt (f_X7_al4 k H).1) ∧ RH g res.2 (f_X7_al4 k H).2) 12 [rf (g 14), pt 5, pt (i : Int)] [] H := by
  intro k
  induction k with
  | zero =>
    intro i H hk hr
    have hj : 104 < 316 := by decide
    refine J_ld 13 jw hj rfl rfl rfl rfl ?_
    refine J_cst 16 jw hj rfl rfl rfl ?_
    refine J_icmp (t := 65) jw hj rfl (evn rfl) rfl (fun (h0 : ¬ (i : Int) < 200) => ?_) (fun (h0 : (i : Int) < 200) => ?_)
    · refine J_cst 66 jw hj rfl rfl rfl ?_
      exact J_ret rfl (Or.inl rfl) (fun aw hR => ⟨rfl, hR⟩)
    · exact absurd h0 (by omega)
  | succ k ih =>
    intro i H hk hr
    have hj : 104 < 316 := by decide
    refine J_ld 13 jw hj rfl rfl rfl rfl ?_
    refine J_cst 16 jw hj rfl rfl rfl ?_
    refine J_icmp (t := 65) jw hj rfl (evn rfl) rfl (fun (h0 : ¬ (i : Int) < 200) => ?_) (fun (h0 : (i : Int) < 200) => ?_)
    · refine J_cst 66 jw hj rfl rfl rfl ?_
      exact absurd (show (i : Int) < 200 by omega) h0
    · refine J_ld 20 jw hj rfl rfl rfl rfl ?_
      refine J_gfR (k := 4) jw hj rfl (evn rfl) (by decide) (by decide) (RSa hr rfl) ?_
      refine J_cst 25 jw hj rfl rfl rfl ?_
      refine J_callV1 jw rfl (Or.inl ⟨_, rfl⟩) rfl rfl (sp_X9_isAtWord (g := g) 17 H) ?_
      refine J_ifc (t := 65) jw hj rfl (evn rfl) rfl (fun (h1 : f_X9_isAtWord 17 H = 0) => ?_) (fun (h1 : ¬ f_X9_isAtWord 17 H = 0) => ?_)
      · refine J_cst 66 jw hj rfl rfl rfl ?_
        exact J_ret rfl (Or.inl rfl) (fun aw hR => by show _ ∧ _; rw [f_X7_al4]; rw [if_pos h1]; exact ⟨rfl, hR⟩)
      · refine J_ld 32 jw hj rfl rfl rfl rfl ?_
        refine J_gfR (k := 4) jw hj rfl (evn rfl) (by decide) (by decide) (RSa hr rfl) ?_
        refine J_callV0 jw rfl (Or.inl ⟨_, rfl⟩) rfl rfl (st_X9_advance (g := g) H (RSt hr)) ?_
        refine J_ld 39 jw hj rfl rfl rfl rfl ?_
        refine J_ld 40 jw hj rfl rfl rfl rfl ?_
        refine J_callV1 jw rfl (Or.inl ⟨_, rfl⟩) rfl rfl (sp_X7_one4 (g := g) (f_X9_advance H) (rp_X9_advance H hr)) ?_
        refine J_ifc (t := 48) jw hj rfl (evn rfl) rfl (fun (h2 : ¬ ((f_X7_one4 (f_X9_advance H)).1) = 0) => ?_) (fun (h2 : ((f_X7_one4 (f_X9_advance H)).1) = 0) => ?_)
        · refine J_ld 49 jw hj rfl rfl rfl rfl ?_
          refine J_gfR (k := 60) jw hj rfl (evn rfl) (by decide) (by decide) (RSa (rp_X7_one4 (f_X9_advance H) (rp_X9_advance H hr)) rfl) ?_
          refine J_cst 54 jw hj rfl rfl rfl ?_
          refine J_cst 55 jw hj rfl rfl rfl ?_
          refine J_cst 56 jw hj rfl rfl rfl ?_
          refine J_callV0 jw rfl (Or.inl ⟨_, rfl⟩) rfl rfl (sp_X6_addStep (g := g) 17 0 0 (f_X7_one4 (f_X9_advance H)).2 (rp_X7_one4 (f_X9_advance H) (rp_X9_advance H hr))) ?_
          refine J_iinc (al' := [rf (g 14), pt 5, pt (iAdd (i : Int) 1)]) jw hj rfl (evn rfl) rfl rfl ?_
          refine J_goto 12 jw hj rfl rfl ?_
          rw [show iAdd (i : Int) 1 = ((i + 1 : Nat) : Int) from iAdd_1 (by omega)]
          have e2 : f_X7_al4 (k + 1) H = f_X7_al4 k (f_X6_addStep 17 0 0 (f_X7_one4 (f_X9_advance H)).2) := by
            rw [f_X7_al4]
            rw [if_neg h1, if_neg h2]
          rw [e2]
          exact ih (i + 1) (f_X6_addStep 17 0 0 (f_X7_one4 (f_X9_advance H)).2) (by omega) (rp_X6_addStep 17 0 0 (f_X7_one4 (f_X9_advance H)).2 (rp_X7_one4 (f_X9_advance H) (rp_X9_advance H hr)))
        · refine J_cst 47 jw hj rfl rfl rfl ?_
          exact J_ret rfl (Or.inl rfl) (fun aw hR => by show _ ∧ _; rw [f_X7_al4]; rw [if_neg h1, if_pos h2]; exact ⟨rfl, hR⟩)
theorem rp_X7_al4 {P : (Nat → Nat → Option Nat) → Prop} : ∀ (k : Nat) (H : hH), P H.2.2.1 → P (f_X7_al4 k H).2.2.2.1 := by
  intro k
  induction k with
  | zero => intro H hr; exact hr
  | succ k ih =>
    intro H hr
    rw [f_X7_al4]
    by_cases q2 : f_X9_isAtWord 17 H = 0
    · rw [if_pos q2]
      exact hr
    · rw [if_neg q2]
      by_cases q3 : ((f_X7_one4 (f_X9_advance H)).1) = 0
      · rw [if_pos q3]
        exact (rp_X7_one4 (f_X9_advance H) (rp_X9_advance H hr))
      · rw [if_neg q3]
        exact ih (f_X6_addStep 17 0 0 (f_X7_one4 (f_X9_advance H)).2) (rp_X6_addStep 17 0 0 (f_X7_one4 (f_X9_advance H)).2 (rp_X7_one4 (f_X9_advance H) (rp_X9_advance H hr)))
def f_X7_all4  (H : hH) : Int × hH :=
  if ((f_X7_one4 H).1) = 0 then
    (0, (f_X7_one4 H).2)
  else
    ((f_X7_al4 200 (f_X7_one4 H).2).1, (f_X7_al4 200 (f_X7_one4 H).2).2)
set_option maxHeartbeats 16000000 in
set_option maxRecDepth 100000 in
theorem sp_X7_all4 {g : Nat → Nat}  (H : hH) (hr : RS H.2.2.1) : SP g rvTab rvInf rvRet 316 rvMth 104 [rf (g 14), pt 5] H (some (pt (f_X7_all4 H).1)) (f_X7_all4 H).2 := by
  have hj : 104 < 316 := by decide
  refine J_SP hj (Nat.le_of_ble_eq_true rfl) ?_
  show J g rvTab rvInf rvRet 316 rvMth 104 _ 0 [rf (g 14), pt 5, rvU] [] H
  refine J_ld 1 jw hj rfl rfl rfl rfl ?_
  refine J_ld 2 jw hj rfl rfl rfl rfl ?_
  refine J_callV1 jw rfl (Or.inl ⟨_, rfl⟩) rfl rfl (sp_X7_one4 (g := g) H hr) ?_
  refine J_ifc (t := 10) jw hj rfl (evn rfl) rfl (fun (h0 : ¬ ((f_X7_one4 H).1) = 0) => ?_) (fun (h0 : ((f_X7_one4 H).1) = 0) => ?_)
  · refine J_cst 11 jw hj rfl rfl rfl ?_
    refine J_st 12 [rf (g 14), pt 5, pt 0] (k := 2) jw hj rfl (Or.inr (Or.inr (Or.inl ⟨_, rfl, rfl, rfl⟩))) rfl ?_
    have e : f_X7_all4 H = (f_X7_al4 200 (f_X7_one4 H).2) := by
      unfold f_X7_all4
      rw [if_neg h0]
    rw [e]
    exact lp_X7_al4 200 0 (f_X7_one4 H).2 rfl (rp_X7_one4 H hr)
  · refine J_cst 9 jw hj rfl rfl rfl ?_
    exact J_ret rfl (Or.inl rfl) (fun aw hR => by show _ ∧ _; unfold f_X7_all4; rw [if_pos h0]; exact ⟨rfl, hR⟩)
theorem rp_X7_all4 {P : (Nat → Nat → Option Nat) → Prop}  (H : hH) (hr : P H.2.2.1) : P (f_X7_all4 H).2.2.2.1 := by
  unfold f_X7_all4
  by_cases q1 : ((f_X7_one4 H).1) = 0
  · rw [if_pos q1]
    exact (rp_X7_one4 H hr)
  · rw [if_neg q1]
    exact (rp_X7_al4 200 (f_X7_one4 H).2 (rp_X7_one4 H hr))
def f_X7_cl4 : Nat → hH → Int × hH
  | 0, H => (1, H)
  | k + 1, H =>
    if f_X9_isAtWord 16 H = 0 then
      (1, H)
    else
      if ((f_X7_all4 (f_X9_advance H)).1) = 0 then
        (0, (f_X7_all4 (f_X9_advance H)).2)
      else
        f_X7_cl4 k (f_X6_addStep 16 0 0 (f_X7_all4 (f_X9_advance H)).2)
set_option maxHeartbeats 16000000 in
set_option maxRecDepth 100000 in
theorem lp_X7_cl4 {g : Nat → Nat} : ∀ (k i : Nat) (H : hH), i + k = 200 → RS H.2.2.1 → J g rvTab rvInf rvRet 316 rvMth 105 (fun res => res.1 = some (pt (f_X7_cl4 k H).1) ∧ RH g res.2 (f_X7_cl4 k H).2) 12 [rf (g 14), pt 5, pt (i : Int)] [] H := by
  intro k
  induction k with
  | zero =>
    intro i H hk hr
    have hj : 105 < 316 := by decide
    refine J_ld 13 jw hj rfl rfl rfl rfl ?_
    refine J_cst 16 jw hj rfl rfl rfl ?_
    refine J_icmp (t := 65) jw hj rfl (evn rfl) rfl (fun (h0 : ¬ (i : Int) < 200) => ?_) (fun (h0 : (i : Int) < 200) => ?_)
    · refine J_cst 66 jw hj rfl rfl rfl ?_
      exact J_ret rfl (Or.inl rfl) (fun aw hR => ⟨rfl, hR⟩)
    · exact absurd h0 (by omega)
  | succ k ih =>
    intro i H hk hr
    have hj : 105 < 316 := by decide
    refine J_ld 13 jw hj rfl rfl rfl rfl ?_
    refine J_cst 16 jw hj rfl rfl rfl ?_
    refine J_icmp (t := 65) jw hj rfl (evn rfl) rfl (fun (h0 : ¬ (i : Int) < 200) => ?_) (fun (h0 : (i : Int) < 200) => ?_)
    · refine J_cst 66 jw hj rfl rfl rfl ?_
      exact absurd (show (i : Int) < 200 by omega) h0
    · refine J_ld 20 jw hj rfl rfl rfl rfl ?_
      refine J_gfR (k := 4) jw hj rfl (evn rfl) (by decide) (by decide) (RSa hr rfl) ?_
      refine J_cst 25 jw hj rfl rfl rfl ?_
      refine J_callV1 jw rfl (Or.inl ⟨_, rfl⟩) rfl rfl (sp_X9_isAtWord (g := g) 16 H) ?_
      refine J_ifc (t := 65) jw hj rfl (evn rfl) rfl (fun (h1 : f_X9_isAtWord 16 H = 0) => ?_) (fun (h1 : ¬ f_X9_isAtWord 16 H = 0) => ?_)
      · refine J_cst 66 jw hj rfl rfl rfl ?_
        exact J_ret rfl (Or.inl rfl) (fun aw hR => by show _ ∧ _; rw [f_X7_cl4]; rw [if_pos h1]; exact ⟨rfl, hR⟩)
      · refine J_ld 32 jw hj rfl rfl rfl rfl ?_
        refine J_gfR (k := 4) jw hj rfl (evn rfl) (by decide) (by decide) (RSa hr rfl) ?_
        refine J_callV0 jw rfl (Or.inl ⟨_, rfl⟩) rfl rfl (st_X9_advance (g := g) H (RSt hr)) ?_
        refine J_ld 39 jw hj rfl rfl rfl rfl ?_
        refine J_ld 40 jw hj rfl rfl rfl rfl ?_
        refine J_callV1 jw rfl (Or.inl ⟨_, rfl⟩) rfl rfl (sp_X7_all4 (g := g) (f_X9_advance H) (rp_X9_advance H hr)) ?_
        refine J_ifc (t := 48) jw hj rfl (evn rfl) rfl (fun (h2 : ¬ ((f_X7_all4 (f_X9_advance H)).1) = 0) => ?_) (fun (h2 : ((f_X7_all4 (f_X9_advance H)).1) = 0) => ?_)
        · refine J_ld 49 jw hj rfl rfl rfl rfl ?_
          refine J_gfR (k := 60) jw hj rfl (evn rfl) (by decide) (by decide) (RSa (rp_X7_all4 (f_X9_advance H) (rp_X9_advance H hr)) rfl) ?_
          refine J_cst 54 jw hj rfl rfl rfl ?_
          refine J_cst 55 jw hj rfl rfl rfl ?_
          refine J_cst 56 jw hj rfl rfl rfl ?_
          refine J_callV0 jw rfl (Or.inl ⟨_, rfl⟩) rfl rfl (sp_X6_addStep (g := g) 16 0 0 (f_X7_all4 (f_X9_advance H)).2 (rp_X7_all4 (f_X9_advance H) (rp_X9_advance H hr))) ?_
          refine J_iinc (al' := [rf (g 14), pt 5, pt (iAdd (i : Int) 1)]) jw hj rfl (evn rfl) rfl rfl ?_
          refine J_goto 12 jw hj rfl rfl ?_
          rw [show iAdd (i : Int) 1 = ((i + 1 : Nat) : Int) from iAdd_1 (by omega)]
          have e2 : f_X7_cl4 (k + 1) H = f_X7_cl4 k (f_X6_addStep 16 0 0 (f_X7_all4 (f_X9_advance H)).2) := by
            rw [f_X7_cl4]
            rw [if_neg h1, if_neg h2]
          rw [e2]
          exact ih (i + 1) (f_X6_addStep 16 0 0 (f_X7_all4 (f_X9_advance H)).2) (by omega) (rp_X6_addStep 16 0 0 (f_X7_all4 (f_X9_advance H)).2 (rp_X7_all4 (f_X9_advance H) (rp_X9_advance H hr)))
        · refine J_cst 47 jw hj rfl rfl rfl ?_
          exact J_ret rfl (Or.inl rfl) (fun aw hR => by show _ ∧ _; rw [f_X7_cl4]; rw [if_neg h1, if_pos h2]; exact ⟨rfl, hR⟩)
theorem rp_X7_cl4 {P : (Nat → Nat → Option Nat) → Prop} : ∀ (k : Nat) (H : hH), P H.2.2.1 → P (f_X7_cl4 k H).2.2.2.1 := by
  intro k
  induction k with
  | zero => intro H hr; exact hr
  | succ k ih =>
    intro H hr
    rw [f_X7_cl4]
    by_cases q2 : f_X9_isAtWord 16 H = 0
    · rw [if_pos q2]
      exact hr
    · rw [if_neg q2]
      by_cases q3 : ((f_X7_all4 (f_X9_advance H)).1) = 0
      · rw [if_pos q3]
        exact (rp_X7_all4 (f_X9_advance H) (rp_X9_advance H hr))
      · rw [if_neg q3]
        exact ih (f_X6_addStep 16 0 0 (f_X7_all4 (f_X9_advance H)).2) (rp_X6_addStep 16 0 0 (f_X7_all4 (f_X9_advance H)).2 (rp_X7_all4 (f_X9_advance H) (rp_X9_advance H hr)))
def f_X7_cond4  (H : hH) : Int × hH :=
  if ((f_X7_all4 H).1) = 0 then
    (0, (f_X7_all4 H).2)
  else
    ((f_X7_cl4 200 (f_X7_all4 H).2).1, (f_X7_cl4 200 (f_X7_all4 H).2).2)
set_option maxHeartbeats 16000000 in
set_option maxRecDepth 100000 in
theorem sp_X7_cond4 {g : Nat → Nat}  (H : hH) (hr : RS H.2.2.1) : SP g rvTab rvInf rvRet 316 rvMth 105 [rf (g 14), pt 5] H (some (pt (f_X7_cond4 H).1)) (f_X7_cond4 H).2 := by
  have hj : 105 < 316 := by decide
  refine J_SP hj (Nat.le_of_ble_eq_true rfl) ?_
  show J g rvTab rvInf rvRet 316 rvMth 105 _ 0 [rf (g 14), pt 5, rvU] [] H
  refine J_ld 1 jw hj rfl rfl rfl rfl ?_
  refine J_ld 2 jw hj rfl rfl rfl rfl ?_
  refine J_callV1 jw rfl (Or.inl ⟨_, rfl⟩) rfl rfl (sp_X7_all4 (g := g) H hr) ?_
  refine J_ifc (t := 10) jw hj rfl (evn rfl) rfl (fun (h0 : ¬ ((f_X7_all4 H).1) = 0) => ?_) (fun (h0 : ((f_X7_all4 H).1) = 0) => ?_)
  · refine J_cst 11 jw hj rfl rfl rfl ?_
    refine J_st 12 [rf (g 14), pt 5, pt 0] (k := 2) jw hj rfl (Or.inr (Or.inr (Or.inl ⟨_, rfl, rfl, rfl⟩))) rfl ?_
    have e : f_X7_cond4 H = (f_X7_cl4 200 (f_X7_all4 H).2) := by
      unfold f_X7_cond4
      rw [if_neg h0]
    rw [e]
    exact lp_X7_cl4 200 0 (f_X7_all4 H).2 rfl (rp_X7_all4 H hr)
  · refine J_cst 9 jw hj rfl rfl rfl ?_
    exact J_ret rfl (Or.inl rfl) (fun aw hR => by show _ ∧ _; unfold f_X7_cond4; rw [if_pos h0]; exact ⟨rfl, hR⟩)
theorem rp_X7_cond4 {P : (Nat → Nat → Option Nat) → Prop}  (H : hH) (hr : P H.2.2.1) : P (f_X7_cond4 H).2.2.2.1 := by
  unfold f_X7_cond4
  by_cases q1 : ((f_X7_all4 H).1) = 0
  · rw [if_pos q1]
    exact (rp_X7_all4 H hr)
  · rw [if_neg q1]
    exact (rp_X7_cl4 200 (f_X7_all4 H).2 (rp_X7_all4 H hr))
def f_X7_one5  (H : hH) : Int × hH :=
  if f_X9_isAtSign 40 H = 0 then
    if H.1 4 10 = 4 then
      if f_X7_beginsOne (H.1 4 11) = 0 then
        ((f_X9_fail 1 H).1, (f_X9_fail 1 H).2)
      else
        if H.1 14 3 < 20 then
          if f_X9_isAtSign 40 H = 0 then
            if H.1 4 11 = 18 then
              ((f_X7_one4 (f_X9_advance (upI H 14 3 (iAdd (H.1 14 3) 1)))).1, (f_X6_addStep 18 0 0 (f_X7_one4 (f_X9_advance (upI H 14 3 (iAdd (H.1 14 3) 1)))).2))
            else
              if H.1 4 11 = 5 then
                ((f_X7_readNamed (H.1 4 11) 3 (f_X9_advance (upI H 14 3 (iAdd (H.1 14 3) 1)))).1, (f_X7_readNamed (H.1 4 11) 3 (f_X9_advance (upI H 14 3 (iAdd (H.1 14 3) 1)))).2)
              else
                if H.1 4 11 = 19 then
                  ((f_X7_readNamed (H.1 4 11) 0 (f_X9_advance (upI H 14 3 (iAdd (H.1 14 3) 1)))).1, (f_X7_readNamed (H.1 4 11) 0 (f_X9_advance (upI H 14 3 (iAdd (H.1 14 3) 1)))).2)
                else
                  if H.1 4 11 = 4 then
                    ((f_X7_readNamed (H.1 4 11) 1 (f_X9_advance (upI H 14 3 (iAdd (H.1 14 3) 1)))).1, (f_X7_readNamed (H.1 4 11) 1 (f_X9_advance (upI H 14 3 (iAdd (H.1 14 3) 1)))).2)
                  else
                    if H.1 4 11 = 20 ∨ H.1 4 11 = 21 ∨ H.1 4 11 = 22 then
                      ((f_X7_readComparison (H.1 4 11) (f_X9_advance (upI H 14 3 (iAdd (H.1 14 3) 1)))).1, (f_X7_readComparison (H.1 4 11) (f_X9_advance (upI H 14 3 (iAdd (H.1 14 3) 1)))).2)
                    else
                      (1, (f_X6_addStep (H.1 4 11) 0 0 (f_X9_advance (upI H 14 3 (iAdd (H.1 14 3) 1)))))
          else
            if ((f_X7_cond4 (f_X9_advance (upI H 14 3 (iAdd (H.1 14 3) 1)))).1) = 0 then
              (0, (f_X7_cond4 (f_X9_advance (upI H 14 3 (iAdd (H.1 14 3) 1)))).2)
            else
              if ((f_X9_passSign 41 (f_X7_cond4 (f_X9_advance (upI H 14 3 (iAdd (H.1 14 3) 1)))).2).1) = 0 then
                (0, (f_X9_passSign 41 (f_X7_cond4 (f_X9_advance (upI H 14 3 (iAdd (H.1 14 3) 1)))).2).2)
              else
                (1, (f_X9_passSign 41 (f_X7_cond4 (f_X9_advance (upI H 14 3 (iAdd (H.1 14 3) 1)))).2).2)
        else
          ((f_X9_fail 4 H).1, (f_X9_fail 4 H).2)
    else
      ((f_X9_fail 1 H).1, (f_X9_fail 1 H).2)
  else
    if H.1 14 3 < 20 then
      if f_X9_isAtSign 40 H = 0 then
        if H.1 4 11 = 18 then
          ((f_X7_one4 (f_X9_advance (upI H 14 3 (iAdd (H.1 14 3) 1)))).1, (f_X6_addStep 18 0 0 (f_X7_one4 (f_X9_advance (upI H 14 3 (iAdd (H.1 14 3) 1)))).2))
        else
          if H.1 4 11 = 5 then
            ((f_X7_readNamed (H.1 4 11) 3 (f_X9_advance (upI H 14 3 (iAdd (H.1 14 3) 1)))).1, (f_X7_readNamed (H.1 4 11) 3 (f_X9_advance (upI H 14 3 (iAdd (H.1 14 3) 1)))).2)
          else
            if H.1 4 11 = 19 then
              ((f_X7_readNamed (H.1 4 11) 0 (f_X9_advance (upI H 14 3 (iAdd (H.1 14 3) 1)))).1, (f_X7_readNamed (H.1 4 11) 0 (f_X9_advance (upI H 14 3 (iAdd (H.1 14 3) 1)))).2)
            else
              if H.1 4 11 = 4 then
                ((f_X7_readNamed (H.1 4 11) 1 (f_X9_advance (upI H 14 3 (iAdd (H.1 14 3) 1)))).1, (f_X7_readNamed (H.1 4 11) 1 (f_X9_advance (upI H 14 3 (iAdd (H.1 14 3) 1)))).2)
              else
                if H.1 4 11 = 20 ∨ H.1 4 11 = 21 ∨ H.1 4 11 = 22 then
                  ((f_X7_readComparison (H.1 4 11) (f_X9_advance (upI H 14 3 (iAdd (H.1 14 3) 1)))).1, (f_X7_readComparison (H.1 4 11) (f_X9_advance (upI H 14 3 (iAdd (H.1 14 3) 1)))).2)
                else
                  (1, (f_X6_addStep (H.1 4 11) 0 0 (f_X9_advance (upI H 14 3 (iAdd (H.1 14 3) 1)))))
      else
        if ((f_X7_cond4 (f_X9_advance (upI H 14 3 (iAdd (H.1 14 3) 1)))).1) = 0 then
          (0, (f_X7_cond4 (f_X9_advance (upI H 14 3 (iAdd (H.1 14 3) 1)))).2)
        else
          if ((f_X9_passSign 41 (f_X7_cond4 (f_X9_advance (upI H 14 3 (iAdd (H.1 14 3) 1)))).2).1) = 0 then
            (0, (f_X9_passSign 41 (f_X7_cond4 (f_X9_advance (upI H 14 3 (iAdd (H.1 14 3) 1)))).2).2)
          else
            (1, (f_X9_passSign 41 (f_X7_cond4 (f_X9_advance (upI H 14 3 (iAdd (H.1 14 3) 1)))).2).2)
    else
      ((f_X9_fail 4 H).1, (f_X9_fail 4 H).2)
set_option maxHeartbeats 16000000 in
set_option maxRecDepth 100000 in
theorem sp_X7_one5 {g : Nat → Nat}  (H : hH) (hr : RS H.2.2.1) : SP g rvTab rvInf rvRet 316 rvMth 106 [rf (g 14), pt 4] H (some (pt (f_X7_one5 H).1)) (f_X7_one5 H).2 := by
  have hj : 106 < 316 := by decide
  refine J_SP hj (Nat.le_of_ble_eq_true rfl) ?_
  show J g rvTab rvInf rvRet 316 rvMth 106 _ 0 [rf (g 14), pt 4, rvU, rvU, rvU] [] H
  refine J_ld 1 jw hj rfl rfl rfl rfl ?_
  refine J_gfR (k := 4) jw hj rfl (evn rfl) (by decide) (by decide) (RSa hr rfl) ?_
  refine J_cst 6 jw hj rfl rfl rfl ?_
  refine J_callV1 jw rfl (Or.inl ⟨_, rfl⟩) rfl rfl (sp_X9_isAtSign (g := g) 40 H) ?_
  refine J_st 10 [rf (g 14), pt 4, pt (f_X9_isAtSign 40 H), rvU, rvU] (k := 2) jw hj rfl (Or.inr (Or.inr (Or.inl ⟨_, rfl, rfl, rfl⟩))) rfl ?_
  refine J_ld 11 jw hj rfl rfl rfl rfl ?_
  refine J_gfR (k := 4) jw hj rfl (evn rfl) (by decide) (by decide) (RSa hr rfl) ?_
  refine J_gfI jw hj rfl (evn rfl) (by decide) rfl (fun r0 => ?_)
  refine J_st 18 [rf (g 14), pt 4, pt (f_X9_isAtSign 40 H), pt (H.1 4 11), rvU] (k := 3) jw hj rfl (Or.inr (Or.inr (Or.inl ⟨_, rfl, rfl, rfl⟩))) rfl ?_
  refine J_ld 19 jw hj rfl rfl rfl rfl ?_
  refine J_ifc (t := 49) jw hj rfl (evn rfl) rfl (fun (h0 : ¬ f_X9_isAtSign 40 H = 0) => ?_) (fun (h0 : f_X9_isAtSign 40 H = 0) => ?_)
  · refine J_ld 50 jw hj rfl rfl rfl rfl ?_
    refine J_gfI jw hj rfl (evn rfl) (by decide) rfl (fun r1 => ?_)
    refine J_cst 55 jw hj rfl rfl rfl ?_
    refine J_icmp (t := 64) jw hj rfl (evn rfl) rfl (fun (h1 : ¬ H.1 14 3 < 20) => ?_) (fun (h1 : H.1 14 3 < 20) => ?_)
    · refine J_ld 65 jw hj rfl rfl rfl rfl ?_
      refine J_gfR (k := 4) jw hj rfl (evn rfl) (by decide) (by decide) (RSa hr rfl) ?_
      refine J_cst 69 jw hj rfl rfl rfl ?_
      refine J_callV1 jw rfl (Or.inl ⟨_, rfl⟩) rfl rfl (st_X9_fail (g := g) 4 H (RSt hr)) ?_
      exact J_ret rfl (Or.inl rfl) (fun aw hR => by show _ ∧ _; unfold f_X7_one5; rw [if_neg h0, if_neg h1]; exact ⟨rfl, hR⟩)
    · refine J_ld 59 jw hj rfl rfl rfl rfl ?_
      refine J_cst 61 jw hj rfl rfl rfl ?_
      refine J_icmp (t := 73) jw hj rfl (evn rfl) rfl (fun (h2 : ¬ (8 : Int) < (4 : Int)) => ?_) (fun (h2 : (8 : Int) < (4 : Int)) => absurd h2 (by decide))
      refine J_ld 74 jw hj rfl rfl rfl rfl ?_
      refine J_dup 75 jw hj rfl rfl ?_
      refine J_gfI jw hj rfl (evn rfl) (by decide) rfl (fun r2 => ?_)
      refine J_cst 79 jw hj rfl rfl rfl ?_
      refine J_bin jw hj rfl rfl ?_
      refine J_pfI jw hj rfl (evn rfl) rfl ?_
      refine J_ld 84 jw hj rfl rfl rfl rfl ?_
      refine J_gfR (k := 4) jw hj rfl (evn rfl) (by decide) (by decide) (RSa hr rfl) ?_
      refine J_callV0 jw rfl (Or.inl ⟨_, rfl⟩) rfl rfl (st_X9_advance (g := g) (upI H 14 3 (iAdd (H.1 14 3) 1)) (RSt hr)) ?_
      refine J_ld 91 jw hj rfl rfl rfl rfl ?_
      refine J_ifc (t := 122) jw hj rfl (evn rfl) rfl (fun (h3 : f_X9_isAtSign 40 H = 0) => ?_) (fun (h3 : ¬ f_X9_isAtSign 40 H = 0) => ?_)
      · refine J_ld 123 jw hj rfl rfl rfl rfl ?_
        refine J_cst 125 jw hj rfl rfl rfl ?_
        refine J_icmp (t := 151) jw hj rfl (evn rfl) rfl (fun (h4 : ¬ H.1 4 11 = 18) => ?_) (fun (h4 : H.1 4 11 = 18) => ?_)
        · refine J_ld 152 jw hj rfl rfl rfl rfl ?_
          refine J_swR jw hj rfl (fun (h5 : H.1 4 11 = 5) => ?_) (fun (h5 : H.1 4 11 = 19) => ?_) (fun (h5 : H.1 4 11 = 4) => ?_) (fun (h5 : H.1 4 11 = 20 ∨ H.1 4 11 = 21 ∨ H.1 4 11 = 22) => ?_) (fun h5 h5_b h5_c h5_d => ?_)
          · refine J_ld 245 jw hj rfl rfl rfl rfl ?_
            refine J_ld 246 jw hj rfl rfl rfl rfl ?_
            refine J_cst 247 jw hj rfl rfl rfl ?_
            refine J_callV1 jw rfl (Or.inl ⟨_, rfl⟩) rfl rfl (sp_X7_readNamed (g := g) (H.1 4 11) 3 (f_X9_advance (upI H 14 3 (iAdd (H.1 14 3) 1))) (rp_X9_advance (upI H 14 3 (iAdd (H.1 14 3) 1)) hr)) ?_
            exact J_ret rfl (Or.inl rfl) (fun aw hR => by show _ ∧ _; unfold f_X7_one5; rw [if_neg h0, if_pos h1, if_pos h3, if_neg h4, if_pos h5]; exact ⟨rfl, hR⟩)
          · refine J_ld 252 jw hj rfl rfl rfl rfl ?_
            refine J_ld 253 jw hj rfl rfl rfl rfl ?_
            refine J_cst 254 jw hj rfl rfl rfl ?_
            refine J_callV1 jw rfl (Or.inl ⟨_, rfl⟩) rfl rfl (sp_X7_readNamed (g := g) (H.1 4 11) 0 (f_X9_advance (upI H 14 3 (iAdd (H.1 14 3) 1))) (rp_X9_advance (upI H 14 3 (iAdd (H.1 14 3) 1)) hr)) ?_
            exact J_ret rfl (Or.inl rfl) (fun aw hR => by show _ ∧ _; unfold f_X7_one5; rw [if_neg h0, if_pos h1, if_pos h3, if_neg h4, if_neg (show ¬ (H.1 4 11 = 5) by omega), if_pos h5]; exact ⟨rfl, hR⟩)
          · refine J_ld 259 jw hj rfl rfl rfl rfl ?_
            refine J_ld 260 jw hj rfl rfl rfl rfl ?_
            refine J_cst 261 jw hj rfl rfl rfl ?_
            refine J_callV1 jw rfl (Or.inl ⟨_, rfl⟩) rfl rfl (sp_X7_readNamed (g := g) (H.1 4 11) 1 (f_X9_advance (upI H 14 3 (iAdd (H.1 14 3) 1))) (rp_X9_advance (upI H 14 3 (iAdd (H.1 14 3) 1)) hr)) ?_
            exact J_ret rfl (Or.inl rfl) (fun aw hR => by show _ ∧ _; unfold f_X7_one5; rw [if_neg h0, if_pos h1, if_pos h3, if_neg h4, if_neg (show ¬ (H.1 4 11 = 5) by omega), if_neg (show ¬ (H.1 4 11 = 19) by omega), if_pos h5]; exact ⟨rfl, hR⟩)
          · refine J_ld 266 jw hj rfl rfl rfl rfl ?_
            refine J_ld 267 jw hj rfl rfl rfl rfl ?_
            refine J_callV1 jw rfl (Or.inl ⟨_, rfl⟩) rfl rfl (sp_X7_readComparison (g := g) (H.1 4 11) (f_X9_advance (upI H 14 3 (iAdd (H.1 14 3) 1))) (rp_X9_advance (upI H 14 3 (iAdd (H.1 14 3) 1)) hr)) ?_
            exact J_ret rfl (Or.inl rfl) (fun aw hR => by show _ ∧ _; unfold f_X7_one5; rw [if_neg h0, if_pos h1, if_pos h3, if_neg h4, if_neg (show ¬ (H.1 4 11 = 5) by omega), if_neg (show ¬ (H.1 4 11 = 19) by omega), if_neg (show ¬ (H.1 4 11 = 4) by omega), if_pos h5]; exact ⟨rfl, hR⟩)
          · refine J_ld 272 jw hj rfl rfl rfl rfl ?_
            refine J_gfR (k := 60) jw hj rfl (evn rfl) (by decide) (by decide) (RSa (rp_X9_advance (upI H 14 3 (iAdd (H.1 14 3) 1)) hr) rfl) ?_
            refine J_ld 276 jw hj rfl rfl rfl rfl ?_
            refine J_cst 277 jw hj rfl rfl rfl ?_
            refine J_cst 278 jw hj rfl rfl rfl ?_
            refine J_callV0 jw rfl (Or.inl ⟨_, rfl⟩) rfl rfl (sp_X6_addStep (g := g) (H.1 4 11) 0 0 (f_X9_advance (upI H 14 3 (iAdd (H.1 14 3) 1))) (rp_X9_advance (upI H 14 3 (iAdd (H.1 14 3) 1)) hr)) ?_
            refine J_cst 282 jw hj rfl rfl rfl ?_
            exact J_ret rfl (Or.inl rfl) (fun aw hR => by show _ ∧ _; unfold f_X7_one5; rw [if_neg h0, if_pos h1, if_pos h3, if_neg h4, if_neg h5, if_neg h5_b, if_neg h5_c, if_neg h5_d]; exact ⟨rfl, hR⟩)
        · refine J_ld 129 jw hj rfl rfl rfl rfl ?_
          refine J_ld 130 jw hj rfl rfl rfl rfl ?_
          refine J_cst 131 jw hj rfl rfl rfl ?_
          refine J_bin jw hj rfl rfl ?_
          rw [show iop (· + ·) (4 : Int) 1 = 5 from by decide]
          refine J_callV1 jw rfl (Or.inl ⟨_, rfl⟩) rfl rfl (sp_X7_one4 (g := g) (f_X9_advance (upI H 14 3 (iAdd (H.1 14 3) 1))) (rp_X9_advance (upI H 14 3 (iAdd (H.1 14 3) 1)) hr)) ?_
          refine J_st 137 [rf (g 14), pt 4, pt (f_X9_isAtSign 40 H), pt (H.1 4 11), pt ((f_X7_one4 (f_X9_advance (upI H 14 3 (iAdd (H.1 14 3) 1)))).1)] (k := 4) jw hj rfl (Or.inl ⟨rfl, rfl⟩) rfl ?_
          refine J_ld 138 jw hj rfl rfl rfl rfl ?_
          refine J_gfR (k := 60) jw hj rfl (evn rfl) (by decide) (by decide) (RSa (rp_X7_one4 (f_X9_advance (upI H 14 3 (iAdd (H.1 14 3) 1))) (rp_X9_advance (upI H 14 3 (iAdd (H.1 14 3) 1)) hr)) rfl) ?_
          refine J_cst 143 jw hj rfl rfl rfl ?_
          refine J_cst 144 jw hj rfl rfl rfl ?_
          refine J_cst 145 jw hj rfl rfl rfl ?_
          refine J_callV0 jw rfl (Or.inl ⟨_, rfl⟩) rfl rfl (sp_X6_addStep (g := g) 18 0 0 (f_X7_one4 (f_X9_advance (upI H 14 3 (iAdd (H.1 14 3) 1)))).2 (rp_X7_one4 (f_X9_advance (upI H 14 3 (iAdd (H.1 14 3) 1))) (rp_X9_advance (upI H 14 3 (iAdd (H.1 14 3) 1)) hr))) ?_
          refine J_ld 150 jw hj rfl rfl rfl rfl ?_
          exact J_ret rfl (Or.inl rfl) (fun aw hR => by show _ ∧ _; unfold f_X7_one5; rw [if_neg h0, if_pos h1, if_pos h3, if_pos h4]; exact ⟨rfl, hR⟩)
      · refine J_ld 95 jw hj rfl rfl rfl rfl ?_
        refine J_ld 96 jw hj rfl rfl rfl rfl ?_
        refine J_cst 97 jw hj rfl rfl rfl ?_
        refine J_bin jw hj rfl rfl ?_
        rw [show iop (· + ·) (4 : Int) 1 = 5 from by decide]
        refine J_callV1 jw rfl (Or.inl ⟨_, rfl⟩) rfl rfl (sp_X7_cond4 (g := g) (f_X9_advance (upI H 14 3 (iAdd (H.1 14 3) 1))) (rp_X9_advance (upI H 14 3 (iAdd (H.1 14 3) 1)) hr)) ?_
        refine J_ifc (t := 120) jw hj rfl (evn rfl) rfl (fun (h6 : ((f_X7_cond4 (f_X9_advance (upI H 14 3 (iAdd (H.1 14 3) 1)))).1) = 0) => ?_) (fun (h6 : ¬ ((f_X7_cond4 (f_X9_advance (upI H 14 3 (iAdd (H.1 14 3) 1)))).1) = 0) => ?_)
        · refine J_cst 121 jw hj rfl rfl rfl ?_
          exact J_ret rfl (Or.inl rfl) (fun aw hR => by show _ ∧ _; unfold f_X7_one5; rw [if_neg h0, if_pos h1, if_neg h3, if_pos h6]; exact ⟨rfl, hR⟩)
        · refine J_ld 105 jw hj rfl rfl rfl rfl ?_
          refine J_gfR (k := 4) jw hj rfl (evn rfl) (by decide) (by decide) (RSa (rp_X7_cond4 (f_X9_advance (upI H 14 3 (iAdd (H.1 14 3) 1))) (rp_X9_advance (upI H 14 3 (iAdd (H.1 14 3) 1)) hr)) rfl) ?_
          refine J_cst 110 jw hj rfl rfl rfl ?_
          refine J_callV1 jw rfl (Or.inl ⟨_, rfl⟩) rfl rfl (st_X9_passSign (g := g) 41 (f_X7_cond4 (f_X9_advance (upI H 14 3 (iAdd (H.1 14 3) 1)))).2 (RSt (rp_X7_cond4 (f_X9_advance (upI H 14 3 (iAdd (H.1 14 3) 1))) (rp_X9_advance (upI H 14 3 (iAdd (H.1 14 3) 1)) hr)))) ?_
          refine J_ifc (t := 120) jw hj rfl (evn rfl) rfl (fun (h7 : ((f_X9_passSign 41 (f_X7_cond4 (f_X9_advance (upI H 14 3 (iAdd (H.1 14 3) 1)))).2).1) = 0) => ?_) (fun (h7 : ¬ ((f_X9_passSign 41 (f_X7_cond4 (f_X9_advance (upI H 14 3 (iAdd (H.1 14 3) 1)))).2).1) = 0) => ?_)
          · refine J_cst 121 jw hj rfl rfl rfl ?_
            exact J_ret rfl (Or.inl rfl) (fun aw hR => by show _ ∧ _; unfold f_X7_one5; rw [if_neg h0, if_pos h1, if_neg h3, if_neg h6, if_pos h7]; exact ⟨rfl, hR⟩)
          · refine J_cst 117 jw hj rfl rfl rfl ?_
            refine J_goto 121 jw hj rfl rfl ?_
            exact J_ret rfl (Or.inl rfl) (fun aw hR => by show _ ∧ _; unfold f_X7_one5; rw [if_neg h0, if_pos h1, if_neg h3, if_neg h6, if_neg h7]; exact ⟨rfl, hR⟩)
  · refine J_ld 23 jw hj rfl rfl rfl rfl ?_
    refine J_gfR (k := 4) jw hj rfl (evn rfl) (by decide) (by decide) (RSa hr rfl) ?_
    refine J_gfI jw hj rfl (evn rfl) (by decide) rfl (fun r3 => ?_)
    refine J_cst 30 jw hj rfl rfl rfl ?_
    refine J_icmp (t := 40) jw hj rfl (evn rfl) rfl (fun (h8 : ¬ H.1 4 10 = 4) => ?_) (fun (h8 : H.1 4 10 = 4) => ?_)
    · refine J_ld 41 jw hj rfl rfl rfl rfl ?_
      refine J_gfR (k := 4) jw hj rfl (evn rfl) (by decide) (by decide) (RSa hr rfl) ?_
      refine J_cst 45 jw hj rfl rfl rfl ?_
      refine J_callV1 jw rfl (Or.inl ⟨_, rfl⟩) rfl rfl (st_X9_fail (g := g) 1 H (RSt hr)) ?_
      exact J_ret rfl (Or.inl rfl) (fun aw hR => by show _ ∧ _; unfold f_X7_one5; rw [if_pos h0, if_neg h8]; exact ⟨rfl, hR⟩)
    · refine J_ld 34 jw hj rfl rfl rfl rfl ?_
      refine J_callS1 jw rfl rfl rfl rfl (sp_X7_beginsOne (g := g) (H.1 4 11) H) ?_
      refine J_ifc (t := 49) jw hj rfl (evn rfl) rfl (fun (h9 : ¬ f_X7_beginsOne (H.1 4 11) = 0) => ?_) (fun (h9 : f_X7_beginsOne (H.1 4 11) = 0) => ?_)
      · refine J_ld 50 jw hj rfl rfl rfl rfl ?_
        refine J_gfI jw hj rfl (evn rfl) (by decide) rfl (fun r4 => ?_)
        refine J_cst 55 jw hj rfl rfl rfl ?_
        refine J_icmp (t := 64) jw hj rfl (evn rfl) rfl (fun (h10 : ¬ H.1 14 3 < 20) => ?_) (fun (h10 : H.1 14 3 < 20) => ?_)
        · refine J_ld 65 jw hj rfl rfl rfl rfl ?_
          refine J_gfR (k := 4) jw hj rfl (evn rfl) (by decide) (by decide) (RSa hr rfl) ?_
          refine J_cst 69 jw hj rfl rfl rfl ?_
          refine J_callV1 jw rfl (Or.inl ⟨_, rfl⟩) rfl rfl (st_X9_fail (g := g) 4 H (RSt hr)) ?_
          exact J_ret rfl (Or.inl rfl) (fun aw hR => by show _ ∧ _; unfold f_X7_one5; rw [if_pos h0, if_pos h8, if_neg h9, if_neg h10]; exact ⟨rfl, hR⟩)
        · refine J_ld 59 jw hj rfl rfl rfl rfl ?_
          refine J_cst 61 jw hj rfl rfl rfl ?_
          refine J_icmp (t := 73) jw hj rfl (evn rfl) rfl (fun (h11 : ¬ (8 : Int) < (4 : Int)) => ?_) (fun (h11 : (8 : Int) < (4 : Int)) => absurd h11 (by decide))
          refine J_ld 74 jw hj rfl rfl rfl rfl ?_
          refine J_dup 75 jw hj rfl rfl ?_
          refine J_gfI jw hj rfl (evn rfl) (by decide) rfl (fun r5 => ?_)
          refine J_cst 79 jw hj rfl rfl rfl ?_
          refine J_bin jw hj rfl rfl ?_
          refine J_pfI jw hj rfl (evn rfl) rfl ?_
          refine J_ld 84 jw hj rfl rfl rfl rfl ?_
          refine J_gfR (k := 4) jw hj rfl (evn rfl) (by decide) (by decide) (RSa hr rfl) ?_
          refine J_callV0 jw rfl (Or.inl ⟨_, rfl⟩) rfl rfl (st_X9_advance (g := g) (upI H 14 3 (iAdd (H.1 14 3) 1)) (RSt hr)) ?_
          refine J_ld 91 jw hj rfl rfl rfl rfl ?_
          refine J_ifc (t := 122) jw hj rfl (evn rfl) rfl (fun (h12 : f_X9_isAtSign 40 H = 0) => ?_) (fun (h12 : ¬ f_X9_isAtSign 40 H = 0) => ?_)
          · refine J_ld 123 jw hj rfl rfl rfl rfl ?_
            refine J_cst 125 jw hj rfl rfl rfl ?_
            refine J_icmp (t := 151) jw hj rfl (evn rfl) rfl (fun (h13 : ¬ H.1 4 11 = 18) => ?_) (fun (h13 : H.1 4 11 = 18) => ?_)
            · refine J_ld 152 jw hj rfl rfl rfl rfl ?_
              refine J_swR jw hj rfl (fun (h14 : H.1 4 11 = 5) => ?_) (fun (h14 : H.1 4 11 = 19) => ?_) (fun (h14 : H.1 4 11 = 4) => ?_) (fun (h14 : H.1 4 11 = 20 ∨ H.1 4 11 = 21 ∨ H.1 4 11 = 22) => ?_) (fun h14 h14_b h14_c h14_d => ?_)
              · refine J_ld 245 jw hj rfl rfl rfl rfl ?_
                refine J_ld 246 jw hj rfl rfl rfl rfl ?_
                refine J_cst 247 jw hj rfl rfl rfl ?_
                refine J_callV1 jw rfl (Or.inl ⟨_, rfl⟩) rfl rfl (sp_X7_readNamed (g := g) (H.1 4 11) 3 (f_X9_advance (upI H 14 3 (iAdd (H.1 14 3) 1))) (rp_X9_advance (upI H 14 3 (iAdd (H.1 14 3) 1)) hr)) ?_
                exact J_ret rfl (Or.inl rfl) (fun aw hR => by show _ ∧ _; unfold f_X7_one5; rw [if_pos h0, if_pos h8, if_neg h9, if_pos h10, if_pos h12, if_neg h13, if_pos h14]; exact ⟨rfl, hR⟩)
              · refine J_ld 252 jw hj rfl rfl rfl rfl ?_
                refine J_ld 253 jw hj rfl rfl rfl rfl ?_
                refine J_cst 254 jw hj rfl rfl rfl ?_
                refine J_callV1 jw rfl (Or.inl ⟨_, rfl⟩) rfl rfl (sp_X7_readNamed (g := g) (H.1 4 11) 0 (f_X9_advance (upI H 14 3 (iAdd (H.1 14 3) 1))) (rp_X9_advance (upI H 14 3 (iAdd (H.1 14 3) 1)) hr)) ?_
                exact J_ret rfl (Or.inl rfl) (fun aw hR => by show _ ∧ _; unfold f_X7_one5; rw [if_pos h0, if_pos h8, if_neg h9, if_pos h10, if_pos h12, if_neg h13, if_neg (show ¬ (H.1 4 11 = 5) by omega), if_pos h14]; exact ⟨rfl, hR⟩)
              · refine J_ld 259 jw hj rfl rfl rfl rfl ?_
                refine J_ld 260 jw hj rfl rfl rfl rfl ?_
                refine J_cst 261 jw hj rfl rfl rfl ?_
                refine J_callV1 jw rfl (Or.inl ⟨_, rfl⟩) rfl rfl (sp_X7_readNamed (g := g) (H.1 4 11) 1 (f_X9_advance (upI H 14 3 (iAdd (H.1 14 3) 1))) (rp_X9_advance (upI H 14 3 (iAdd (H.1 14 3) 1)) hr)) ?_
                exact J_ret rfl (Or.inl rfl) (fun aw hR => by show _ ∧ _; unfold f_X7_one5; rw [if_pos h0, if_pos h8, if_neg h9, if_pos h10, if_pos h12, if_neg h13, if_neg (show ¬ (H.1 4 11 = 5) by omega), if_neg (show ¬ (H.1 4 11 = 19) by omega), if_pos h14]; exact ⟨rfl, hR⟩)
              · refine J_ld 266 jw hj rfl rfl rfl rfl ?_
                refine J_ld 267 jw hj rfl rfl rfl rfl ?_
                refine J_callV1 jw rfl (Or.inl ⟨_, rfl⟩) rfl rfl (sp_X7_readComparison (g := g) (H.1 4 11) (f_X9_advance (upI H 14 3 (iAdd (H.1 14 3) 1))) (rp_X9_advance (upI H 14 3 (iAdd (H.1 14 3) 1)) hr)) ?_
                exact J_ret rfl (Or.inl rfl) (fun aw hR => by show _ ∧ _; unfold f_X7_one5; rw [if_pos h0, if_pos h8, if_neg h9, if_pos h10, if_pos h12, if_neg h13, if_neg (show ¬ (H.1 4 11 = 5) by omega), if_neg (show ¬ (H.1 4 11 = 19) by omega), if_neg (show ¬ (H.1 4 11 = 4) by omega), if_pos h14]; exact ⟨rfl, hR⟩)
              · refine J_ld 272 jw hj rfl rfl rfl rfl ?_
                refine J_gfR (k := 60) jw hj rfl (evn rfl) (by decide) (by decide) (RSa (rp_X9_advance (upI H 14 3 (iAdd (H.1 14 3) 1)) hr) rfl) ?_
                refine J_ld 276 jw hj rfl rfl rfl rfl ?_
                refine J_cst 277 jw hj rfl rfl rfl ?_
                refine J_cst 278 jw hj rfl rfl rfl ?_
                refine J_callV0 jw rfl (Or.inl ⟨_, rfl⟩) rfl rfl (sp_X6_addStep (g := g) (H.1 4 11) 0 0 (f_X9_advance (upI H 14 3 (iAdd (H.1 14 3) 1))) (rp_X9_advance (upI H 14 3 (iAdd (H.1 14 3) 1)) hr)) ?_
                refine J_cst 282 jw hj rfl rfl rfl ?_
                exact J_ret rfl (Or.inl rfl) (fun aw hR => by show _ ∧ _; unfold f_X7_one5; rw [if_pos h0, if_pos h8, if_neg h9, if_pos h10, if_pos h12, if_neg h13, if_neg h14, if_neg h14_b, if_neg h14_c, if_neg h14_d]; exact ⟨rfl, hR⟩)
            · refine J_ld 129 jw hj rfl rfl rfl rfl ?_
              refine J_ld 130 jw hj rfl rfl rfl rfl ?_
              refine J_cst 131 jw hj rfl rfl rfl ?_
              refine J_bin jw hj rfl rfl ?_
              rw [show iop (· + ·) (4 : Int) 1 = 5 from by decide]
              refine J_callV1 jw rfl (Or.inl ⟨_, rfl⟩) rfl rfl (sp_X7_one4 (g := g) (f_X9_advance (upI H 14 3 (iAdd (H.1 14 3) 1))) (rp_X9_advance (upI H 14 3 (iAdd (H.1 14 3) 1)) hr)) ?_
              refine J_st 137 [rf (g 14), pt 4, pt (f_X9_isAtSign 40 H), pt (H.1 4 11), pt ((f_X7_one4 (f_X9_advance (upI H 14 3 (iAdd (H.1 14 3) 1)))).1)] (k := 4) jw hj rfl (Or.inl ⟨rfl, rfl⟩) rfl ?_
              refine J_ld 138 jw hj rfl rfl rfl rfl ?_
              refine J_gfR (k := 60) jw hj rfl (evn rfl) (by decide) (by decide) (RSa (rp_X7_one4 (f_X9_advance (upI H 14 3 (iAdd (H.1 14 3) 1))) (rp_X9_advance (upI H 14 3 (iAdd (H.1 14 3) 1)) hr)) rfl) ?_
              refine J_cst 143 jw hj rfl rfl rfl ?_
              refine J_cst 144 jw hj rfl rfl rfl ?_
              refine J_cst 145 jw hj rfl rfl rfl ?_
              refine J_callV0 jw rfl (Or.inl ⟨_, rfl⟩) rfl rfl (sp_X6_addStep (g := g) 18 0 0 (f_X7_one4 (f_X9_advance (upI H 14 3 (iAdd (H.1 14 3) 1)))).2 (rp_X7_one4 (f_X9_advance (upI H 14 3 (iAdd (H.1 14 3) 1))) (rp_X9_advance (upI H 14 3 (iAdd (H.1 14 3) 1)) hr))) ?_
              refine J_ld 150 jw hj rfl rfl rfl rfl ?_
              exact J_ret rfl (Or.inl rfl) (fun aw hR => by show _ ∧ _; unfold f_X7_one5; rw [if_pos h0, if_pos h8, if_neg h9, if_pos h10, if_pos h12, if_pos h13]; exact ⟨rfl, hR⟩)
          · refine J_ld 95 jw hj rfl rfl rfl rfl ?_
            refine J_ld 96 jw hj rfl rfl rfl rfl ?_
            refine J_cst 97 jw hj rfl rfl rfl ?_
            refine J_bin jw hj rfl rfl ?_
            rw [show iop (· + ·) (4 : Int) 1 = 5 from by decide]
            refine J_callV1 jw rfl (Or.inl ⟨_, rfl⟩) rfl rfl (sp_X7_cond4 (g := g) (f_X9_advance (upI H 14 3 (iAdd (H.1 14 3) 1))) (rp_X9_advance (upI H 14 3 (iAdd (H.1 14 3) 1)) hr)) ?_
            refine J_ifc (t := 120) jw hj rfl (evn rfl) rfl (fun (h15 : ((f_X7_cond4 (f_X9_advance (upI H 14 3 (iAdd (H.1 14 3) 1)))).1) = 0) => ?_) (fun (h15 : ¬ ((f_X7_cond4 (f_X9_advance (upI H 14 3 (iAdd (H.1 14 3) 1)))).1) = 0) => ?_)
            · refine J_cst 121 jw hj rfl rfl rfl ?_
              exact J_ret rfl (Or.inl rfl) (fun aw hR => by show _ ∧ _; unfold f_X7_one5; rw [if_pos h0, if_pos h8, if_neg h9, if_pos h10, if_neg h12, if_pos h15]; exact ⟨rfl, hR⟩)
            · refine J_ld 105 jw hj rfl rfl rfl rfl ?_
              refine J_gfR (k := 4) jw hj rfl (evn rfl) (by decide) (by decide) (RSa (rp_X7_cond4 (f_X9_advance (upI H 14 3 (iAdd (H.1 14 3) 1))) (rp_X9_advance (upI H 14 3 (iAdd (H.1 14 3) 1)) hr)) rfl) ?_
              refine J_cst 110 jw hj rfl rfl rfl ?_
              refine J_callV1 jw rfl (Or.inl ⟨_, rfl⟩) rfl rfl (st_X9_passSign (g := g) 41 (f_X7_cond4 (f_X9_advance (upI H 14 3 (iAdd (H.1 14 3) 1)))).2 (RSt (rp_X7_cond4 (f_X9_advance (upI H 14 3 (iAdd (H.1 14 3) 1))) (rp_X9_advance (upI H 14 3 (iAdd (H.1 14 3) 1)) hr)))) ?_
              refine J_ifc (t := 120) jw hj rfl (evn rfl) rfl (fun (h16 : ((f_X9_passSign 41 (f_X7_cond4 (f_X9_advance (upI H 14 3 (iAdd (H.1 14 3) 1)))).2).1) = 0) => ?_) (fun (h16 : ¬ ((f_X9_passSign 41 (f_X7_cond4 (f_X9_advance (upI H 14 3 (iAdd (H.1 14 3) 1)))).2).1) = 0) => ?_)
              · refine J_cst 121 jw hj rfl rfl rfl ?_
                exact J_ret rfl (Or.inl rfl) (fun aw hR => by show _ ∧ _; unfold f_X7_one5; rw [if_pos h0, if_pos h8, if_neg h9, if_pos h10, if_neg h12, if_neg h15, if_pos h16]; exact ⟨rfl, hR⟩)
              · refine J_cst 117 jw hj rfl rfl rfl ?_
                refine J_goto 121 jw hj rfl rfl ?_
                exact J_ret rfl (Or.inl rfl) (fun aw hR => by show _ ∧ _; unfold f_X7_one5; rw [if_pos h0, if_pos h8, if_neg h9, if_pos h10, if_neg h12, if_neg h15, if_neg h16]; exact ⟨rfl, hR⟩)
      · refine J_ld 41 jw hj rfl rfl rfl rfl ?_
        refine J_gfR (k := 4) jw hj rfl (evn rfl) (by decide) (by decide) (RSa hr rfl) ?_
        refine J_cst 45 jw hj rfl rfl rfl ?_
        refine J_callV1 jw rfl (Or.inl ⟨_, rfl⟩) rfl rfl (st_X9_fail (g := g) 1 H (RSt hr)) ?_
        exact J_ret rfl (Or.inl rfl) (fun aw hR => by show _ ∧ _; unfold f_X7_one5; rw [if_pos h0, if_pos h8, if_pos h9]; exact ⟨rfl, hR⟩)
theorem rp_X7_one5 {P : (Nat → Nat → Option Nat) → Prop}  (H : hH) (hr : P H.2.2.1) : P (f_X7_one5 H).2.2.2.1 := by
  unfold f_X7_one5
  by_cases q1 : f_X9_isAtSign 40 H = 0
  · rw [if_pos q1]
    by_cases q2 : H.1 4 10 = 4
    · rw [if_pos q2]
      by_cases q3 : f_X7_beginsOne (H.1 4 11) = 0
      · rw [if_pos q3]
        exact (rp_X9_fail 1 H hr)
      · rw [if_neg q3]
        by_cases q4 : H.1 14 3 < 20
        · rw [if_pos q4]
          by_cases q5 : f_X9_isAtSign 40 H = 0
          · rw [if_pos q5]
            by_cases q6 : H.1 4 11 = 18
            · rw [if_pos q6]
              exact (rp_X6_addStep 18 0 0 (f_X7_one4 (f_X9_advance (upI H 14 3 (iAdd (H.1 14 3) 1)))).2 (rp_X7_one4 (f_X9_advance (upI H 14 3 (iAdd (H.1 14 3) 1))) (rp_X9_advance (upI H 14 3 (iAdd (H.1 14 3) 1)) hr)))
            · rw [if_neg q6]
              by_cases q7 : H.1 4 11 = 5
              · rw [if_pos q7]
                exact (rp_X7_readNamed (H.1 4 11) 3 (f_X9_advance (upI H 14 3 (iAdd (H.1 14 3) 1))) (rp_X9_advance (upI H 14 3 (iAdd (H.1 14 3) 1)) hr))
              · rw [if_neg q7]
                by_cases q8 : H.1 4 11 = 19
                · rw [if_pos q8]
                  exact (rp_X7_readNamed (H.1 4 11) 0 (f_X9_advance (upI H 14 3 (iAdd (H.1 14 3) 1))) (rp_X9_advance (upI H 14 3 (iAdd (H.1 14 3) 1)) hr))
                · rw [if_neg q8]
                  by_cases q9 : H.1 4 11 = 4
                  · rw [if_pos q9]
                    exact (rp_X7_readNamed (H.1 4 11) 1 (f_X9_advance (upI H 14 3 (iAdd (H.1 14 3) 1))) (rp_X9_advance (upI H 14 3 (iAdd (H.1 14 3) 1)) hr))
                  · rw [if_neg q9]
                    by_cases q10 : H.1 4 11 = 20 ∨ H.1 4 11 = 21 ∨ H.1 4 11 = 22
                    · rw [if_pos q10]
                      exact (rp_X7_readComparison (H.1 4 11) (f_X9_advance (upI H 14 3 (iAdd (H.1 14 3) 1))) (rp_X9_advance (upI H 14 3 (iAdd (H.1 14 3) 1)) hr))
                    · rw [if_neg q10]
                      exact (rp_X6_addStep (H.1 4 11) 0 0 (f_X9_advance (upI H 14 3 (iAdd (H.1 14 3) 1))) (rp_X9_advance (upI H 14 3 (iAdd (H.1 14 3) 1)) hr))
          · rw [if_neg q5]
            by_cases q6 : ((f_X7_cond4 (f_X9_advance (upI H 14 3 (iAdd (H.1 14 3) 1)))).1) = 0
            · rw [if_pos q6]
              exact (rp_X7_cond4 (f_X9_advance (upI H 14 3 (iAdd (H.1 14 3) 1))) (rp_X9_advance (upI H 14 3 (iAdd (H.1 14 3) 1)) hr))
            · rw [if_neg q6]
              by_cases q7 : ((f_X9_passSign 41 (f_X7_cond4 (f_X9_advance (upI H 14 3 (iAdd (H.1 14 3) 1)))).2).1) = 0
              · rw [if_pos q7]
                exact (rp_X9_passSign 41 (f_X7_cond4 (f_X9_advance (upI H 14 3 (iAdd (H.1 14 3) 1)))).2 (rp_X7_cond4 (f_X9_advance (upI H 14 3 (iAdd (H.1 14 3) 1))) (rp_X9_advance (upI H 14 3 (iAdd (H.1 14 3) 1)) hr)))
              · rw [if_neg q7]
                exact (rp_X9_passSign 41 (f_X7_cond4 (f_X9_advance (upI H 14 3 (iAdd (H.1 14 3) 1)))).2 (rp_X7_cond4 (f_X9_advance (upI H 14 3 (iAdd (H.1 14 3) 1))) (rp_X9_advance (upI H 14 3 (iAdd (H.1 14 3) 1)) hr)))
        · rw [if_neg q4]
          exact (rp_X9_fail 4 H hr)
    · rw [if_neg q2]
      exact (rp_X9_fail 1 H hr)
  · rw [if_neg q1]
    by_cases q2 : H.1 14 3 < 20
    · rw [if_pos q2]
      by_cases q3 : f_X9_isAtSign 40 H = 0
      · rw [if_pos q3]
        by_cases q4 : H.1 4 11 = 18
        · rw [if_pos q4]
          exact (rp_X6_addStep 18 0 0 (f_X7_one4 (f_X9_advance (upI H 14 3 (iAdd (H.1 14 3) 1)))).2 (rp_X7_one4 (f_X9_advance (upI H 14 3 (iAdd (H.1 14 3) 1))) (rp_X9_advance (upI H 14 3 (iAdd (H.1 14 3) 1)) hr)))
        · rw [if_neg q4]
          by_cases q5 : H.1 4 11 = 5
          · rw [if_pos q5]
            exact (rp_X7_readNamed (H.1 4 11) 3 (f_X9_advance (upI H 14 3 (iAdd (H.1 14 3) 1))) (rp_X9_advance (upI H 14 3 (iAdd (H.1 14 3) 1)) hr))
          · rw [if_neg q5]
            by_cases q6 : H.1 4 11 = 19
            · rw [if_pos q6]
              exact (rp_X7_readNamed (H.1 4 11) 0 (f_X9_advance (upI H 14 3 (iAdd (H.1 14 3) 1))) (rp_X9_advance (upI H 14 3 (iAdd (H.1 14 3) 1)) hr))
            · rw [if_neg q6]
              by_cases q7 : H.1 4 11 = 4
              · rw [if_pos q7]
                exact (rp_X7_readNamed (H.1 4 11) 1 (f_X9_advance (upI H 14 3 (iAdd (H.1 14 3) 1))) (rp_X9_advance (upI H 14 3 (iAdd (H.1 14 3) 1)) hr))
              · rw [if_neg q7]
                by_cases q8 : H.1 4 11 = 20 ∨ H.1 4 11 = 21 ∨ H.1 4 11 = 22
                · rw [if_pos q8]
                  exact (rp_X7_readComparison (H.1 4 11) (f_X9_advance (upI H 14 3 (iAdd (H.1 14 3) 1))) (rp_X9_advance (upI H 14 3 (iAdd (H.1 14 3) 1)) hr))
                · rw [if_neg q8]
                  exact (rp_X6_addStep (H.1 4 11) 0 0 (f_X9_advance (upI H 14 3 (iAdd (H.1 14 3) 1))) (rp_X9_advance (upI H 14 3 (iAdd (H.1 14 3) 1)) hr))
      · rw [if_neg q3]
        by_cases q4 : ((f_X7_cond4 (f_X9_advance (upI H 14 3 (iAdd (H.1 14 3) 1)))).1) = 0
        · rw [if_pos q4]
          exact (rp_X7_cond4 (f_X9_advance (upI H 14 3 (iAdd (H.1 14 3) 1))) (rp_X9_advance (upI H 14 3 (iAdd (H.1 14 3) 1)) hr))
        · rw [if_neg q4]
          by_cases q5 : ((f_X9_passSign 41 (f_X7_cond4 (f_X9_advance (upI H 14 3 (iAdd (H.1 14 3) 1)))).2).1) = 0
          · rw [if_pos q5]
            exact (rp_X9_passSign 41 (f_X7_cond4 (f_X9_advance (upI H 14 3 (iAdd (H.1 14 3) 1)))).2 (rp_X7_cond4 (f_X9_advance (upI H 14 3 (iAdd (H.1 14 3) 1))) (rp_X9_advance (upI H 14 3 (iAdd (H.1 14 3) 1)) hr)))
          · rw [if_neg q5]
            exact (rp_X9_passSign 41 (f_X7_cond4 (f_X9_advance (upI H 14 3 (iAdd (H.1 14 3) 1)))).2 (rp_X7_cond4 (f_X9_advance (upI H 14 3 (iAdd (H.1 14 3) 1))) (rp_X9_advance (upI H 14 3 (iAdd (H.1 14 3) 1)) hr)))
    · rw [if_neg q2]
      exact (rp_X9_fail 4 H hr)
def f_X7_al5 : Nat → hH → Int × hH
  | 0, H => (1, H)
  | k + 1, H =>
    if f_X9_isAtWord 17 H = 0 then
      (1, H)
    else
      if ((f_X7_one5 (f_X9_advance H)).1) = 0 then
        (0, (f_X7_one5 (f_X9_advance H)).2)
      else
        f_X7_al5 k (f_X6_addStep 17 0 0 (f_X7_one5 (f_X9_advance H)).2)
set_option maxHeartbeats 16000000 in
set_option maxRecDepth 100000 in
theorem lp_X7_al5 {g : Nat → Nat} : ∀ (k i : Nat) (H : hH), i + k = 200 → RS H.2.2.1 → J g rvTab rvInf rvRet 316 rvMth 107 (fun res => res.1 = some (pt (f_X7_al5 k H).1) ∧ RH g res.2 (f_X7_al5 k H).2) 12 [rf (g 14), pt 4, pt (i : Int)] [] H := by
  intro k
  induction k with
  | zero =>
    intro i H hk hr
    have hj : 107 < 316 := by decide
    refine J_ld 13 jw hj rfl rfl rfl rfl ?_
    refine J_cst 16 jw hj rfl rfl rfl ?_
    refine J_icmp (t := 65) jw hj rfl (evn rfl) rfl (fun (h0 : ¬ (i : Int) < 200) => ?_) (fun (h0 : (i : Int) < 200) => ?_)
    · refine J_cst 66 jw hj rfl rfl rfl ?_
      exact J_ret rfl (Or.inl rfl) (fun aw hR => ⟨rfl, hR⟩)
    · exact absurd h0 (by omega)
  | succ k ih =>
    intro i H hk hr
    have hj : 107 < 316 := by decide
    refine J_ld 13 jw hj rfl rfl rfl rfl ?_
    refine J_cst 16 jw hj rfl rfl rfl ?_
    refine J_icmp (t := 65) jw hj rfl (evn rfl) rfl (fun (h0 : ¬ (i : Int) < 200) => ?_) (fun (h0 : (i : Int) < 200) => ?_)
    · refine J_cst 66 jw hj rfl rfl rfl ?_
      exact absurd (show (i : Int) < 200 by omega) h0
    · refine J_ld 20 jw hj rfl rfl rfl rfl ?_
      refine J_gfR (k := 4) jw hj rfl (evn rfl) (by decide) (by decide) (RSa hr rfl) ?_
      refine J_cst 25 jw hj rfl rfl rfl ?_
      refine J_callV1 jw rfl (Or.inl ⟨_, rfl⟩) rfl rfl (sp_X9_isAtWord (g := g) 17 H) ?_
      refine J_ifc (t := 65) jw hj rfl (evn rfl) rfl (fun (h1 : f_X9_isAtWord 17 H = 0) => ?_) (fun (h1 : ¬ f_X9_isAtWord 17 H = 0) => ?_)
      · refine J_cst 66 jw hj rfl rfl rfl ?_
        exact J_ret rfl (Or.inl rfl) (fun aw hR => by show _ ∧ _; rw [f_X7_al5]; rw [if_pos h1]; exact ⟨rfl, hR⟩)
      · refine J_ld 32 jw hj rfl rfl rfl rfl ?_
        refine J_gfR (k := 4) jw hj rfl (evn rfl) (by decide) (by decide) (RSa hr rfl) ?_
        refine J_callV0 jw rfl (Or.inl ⟨_, rfl⟩) rfl rfl (st_X9_advance (g := g) H (RSt hr)) ?_
        refine J_ld 39 jw hj rfl rfl rfl rfl ?_
        refine J_ld 40 jw hj rfl rfl rfl rfl ?_
        refine J_callV1 jw rfl (Or.inl ⟨_, rfl⟩) rfl rfl (sp_X7_one5 (g := g) (f_X9_advance H) (rp_X9_advance H hr)) ?_
        refine J_ifc (t := 48) jw hj rfl (evn rfl) rfl (fun (h2 : ¬ ((f_X7_one5 (f_X9_advance H)).1) = 0) => ?_) (fun (h2 : ((f_X7_one5 (f_X9_advance H)).1) = 0) => ?_)
        · refine J_ld 49 jw hj rfl rfl rfl rfl ?_
          refine J_gfR (k := 60) jw hj rfl (evn rfl) (by decide) (by decide) (RSa (rp_X7_one5 (f_X9_advance H) (rp_X9_advance H hr)) rfl) ?_
          refine J_cst 54 jw hj rfl rfl rfl ?_
          refine J_cst 55 jw hj rfl rfl rfl ?_
          refine J_cst 56 jw hj rfl rfl rfl ?_
          refine J_callV0 jw rfl (Or.inl ⟨_, rfl⟩) rfl rfl (sp_X6_addStep (g := g) 17 0 0 (f_X7_one5 (f_X9_advance H)).2 (rp_X7_one5 (f_X9_advance H) (rp_X9_advance H hr))) ?_
          refine J_iinc (al' := [rf (g 14), pt 4, pt (iAdd (i : Int) 1)]) jw hj rfl (evn rfl) rfl rfl ?_
          refine J_goto 12 jw hj rfl rfl ?_
          rw [show iAdd (i : Int) 1 = ((i + 1 : Nat) : Int) from iAdd_1 (by omega)]
          have e2 : f_X7_al5 (k + 1) H = f_X7_al5 k (f_X6_addStep 17 0 0 (f_X7_one5 (f_X9_advance H)).2) := by
            rw [f_X7_al5]
            rw [if_neg h1, if_neg h2]
          rw [e2]
          exact ih (i + 1) (f_X6_addStep 17 0 0 (f_X7_one5 (f_X9_advance H)).2) (by omega) (rp_X6_addStep 17 0 0 (f_X7_one5 (f_X9_advance H)).2 (rp_X7_one5 (f_X9_advance H) (rp_X9_advance H hr)))
        · refine J_cst 47 jw hj rfl rfl rfl ?_
          exact J_ret rfl (Or.inl rfl) (fun aw hR => by show _ ∧ _; rw [f_X7_al5]; rw [if_neg h1, if_pos h2]; exact ⟨rfl, hR⟩)
theorem rp_X7_al5 {P : (Nat → Nat → Option Nat) → Prop} : ∀ (k : Nat) (H : hH), P H.2.2.1 → P (f_X7_al5 k H).2.2.2.1 := by
  intro k
  induction k with
  | zero => intro H hr; exact hr
  | succ k ih =>
    intro H hr
    rw [f_X7_al5]
    by_cases q2 : f_X9_isAtWord 17 H = 0
    · rw [if_pos q2]
      exact hr
    · rw [if_neg q2]
      by_cases q3 : ((f_X7_one5 (f_X9_advance H)).1) = 0
      · rw [if_pos q3]
        exact (rp_X7_one5 (f_X9_advance H) (rp_X9_advance H hr))
      · rw [if_neg q3]
        exact ih (f_X6_addStep 17 0 0 (f_X7_one5 (f_X9_advance H)).2) (rp_X6_addStep 17 0 0 (f_X7_one5 (f_X9_advance H)).2 (rp_X7_one5 (f_X9_advance H) (rp_X9_advance H hr)))
def f_X7_all5  (H : hH) : Int × hH :=
  if ((f_X7_one5 H).1) = 0 then
    (0, (f_X7_one5 H).2)
  else
    ((f_X7_al5 200 (f_X7_one5 H).2).1, (f_X7_al5 200 (f_X7_one5 H).2).2)
set_option maxHeartbeats 16000000 in
set_option maxRecDepth 100000 in
theorem sp_X7_all5 {g : Nat → Nat}  (H : hH) (hr : RS H.2.2.1) : SP g rvTab rvInf rvRet 316 rvMth 107 [rf (g 14), pt 4] H (some (pt (f_X7_all5 H).1)) (f_X7_all5 H).2 := by
  have hj : 107 < 316 := by decide
  refine J_SP hj (Nat.le_of_ble_eq_true rfl) ?_
  show J g rvTab rvInf rvRet 316 rvMth 107 _ 0 [rf (g 14), pt 4, rvU] [] H
  refine J_ld 1 jw hj rfl rfl rfl rfl ?_
  refine J_ld 2 jw hj rfl rfl rfl rfl ?_
  refine J_callV1 jw rfl (Or.inl ⟨_, rfl⟩) rfl rfl (sp_X7_one5 (g := g) H hr) ?_
  refine J_ifc (t := 10) jw hj rfl (evn rfl) rfl (fun (h0 : ¬ ((f_X7_one5 H).1) = 0) => ?_) (fun (h0 : ((f_X7_one5 H).1) = 0) => ?_)
  · refine J_cst 11 jw hj rfl rfl rfl ?_
    refine J_st 12 [rf (g 14), pt 4, pt 0] (k := 2) jw hj rfl (Or.inr (Or.inr (Or.inl ⟨_, rfl, rfl, rfl⟩))) rfl ?_
    have e : f_X7_all5 H = (f_X7_al5 200 (f_X7_one5 H).2) := by
      unfold f_X7_all5
      rw [if_neg h0]
    rw [e]
    exact lp_X7_al5 200 0 (f_X7_one5 H).2 rfl (rp_X7_one5 H hr)
  · refine J_cst 9 jw hj rfl rfl rfl ?_
    exact J_ret rfl (Or.inl rfl) (fun aw hR => by show _ ∧ _; unfold f_X7_all5; rw [if_pos h0]; exact ⟨rfl, hR⟩)
theorem rp_X7_all5 {P : (Nat → Nat → Option Nat) → Prop}  (H : hH) (hr : P H.2.2.1) : P (f_X7_all5 H).2.2.2.1 := by
  unfold f_X7_all5
  by_cases q1 : ((f_X7_one5 H).1) = 0
  · rw [if_pos q1]
    exact (rp_X7_one5 H hr)
  · rw [if_neg q1]
    exact (rp_X7_al5 200 (f_X7_one5 H).2 (rp_X7_one5 H hr))
def f_X7_cl5 : Nat → hH → Int × hH
  | 0, H => (1, H)
  | k + 1, H =>
    if f_X9_isAtWord 16 H = 0 then
      (1, H)
    else
      if ((f_X7_all5 (f_X9_advance H)).1) = 0 then
        (0, (f_X7_all5 (f_X9_advance H)).2)
      else
        f_X7_cl5 k (f_X6_addStep 16 0 0 (f_X7_all5 (f_X9_advance H)).2)
set_option maxHeartbeats 16000000 in
set_option maxRecDepth 100000 in
theorem lp_X7_cl5 {g : Nat → Nat} : ∀ (k i : Nat) (H : hH), i + k = 200 → RS H.2.2.1 → J g rvTab rvInf rvRet 316 rvMth 108 (fun res => res.1 = some (pt (f_X7_cl5 k H).1) ∧ RH g res.2 (f_X7_cl5 k H).2) 12 [rf (g 14), pt 4, pt (i : Int)] [] H := by
  intro k
  induction k with
  | zero =>
    intro i H hk hr
    have hj : 108 < 316 := by decide
    refine J_ld 13 jw hj rfl rfl rfl rfl ?_
    refine J_cst 16 jw hj rfl rfl rfl ?_
    refine J_icmp (t := 65) jw hj rfl (evn rfl) rfl (fun (h0 : ¬ (i : Int) < 200) => ?_) (fun (h0 : (i : Int) < 200) => ?_)
    · refine J_cst 66 jw hj rfl rfl rfl ?_
      exact J_ret rfl (Or.inl rfl) (fun aw hR => ⟨rfl, hR⟩)
    · exact absurd h0 (by omega)
  | succ k ih =>
    intro i H hk hr
    have hj : 108 < 316 := by decide
    refine J_ld 13 jw hj rfl rfl rfl rfl ?_
    refine J_cst 16 jw hj rfl rfl rfl ?_
    refine J_icmp (t := 65) jw hj rfl (evn rfl) rfl (fun (h0 : ¬ (i : Int) < 200) => ?_) (fun (h0 : (i : Int) < 200) => ?_)
    · refine J_cst 66 jw hj rfl rfl rfl ?_
      exact absurd (show (i : Int) < 200 by omega) h0
    · refine J_ld 20 jw hj rfl rfl rfl rfl ?_
      refine J_gfR (k := 4) jw hj rfl (evn rfl) (by decide) (by decide) (RSa hr rfl) ?_
      refine J_cst 25 jw hj rfl rfl rfl ?_
      refine J_callV1 jw rfl (Or.inl ⟨_, rfl⟩) rfl rfl (sp_X9_isAtWord (g := g) 16 H) ?_
      refine J_ifc (t := 65) jw hj rfl (evn rfl) rfl (fun (h1 : f_X9_isAtWord 16 H = 0) => ?_) (fun (h1 : ¬ f_X9_isAtWord 16 H = 0) => ?_)
      · refine J_cst 66 jw hj rfl rfl rfl ?_
        exact J_ret rfl (Or.inl rfl) (fun aw hR => by show _ ∧ _; rw [f_X7_cl5]; rw [if_pos h1]; exact ⟨rfl, hR⟩)
      · refine J_ld 32 jw hj rfl rfl rfl rfl ?_
        refine J_gfR (k := 4) jw hj rfl (evn rfl) (by decide) (by decide) (RSa hr rfl) ?_
        refine J_callV0 jw rfl (Or.inl ⟨_, rfl⟩) rfl rfl (st_X9_advance (g := g) H (RSt hr)) ?_
        refine J_ld 39 jw hj rfl rfl rfl rfl ?_
        refine J_ld 40 jw hj rfl rfl rfl rfl ?_
        refine J_callV1 jw rfl (Or.inl ⟨_, rfl⟩) rfl rfl (sp_X7_all5 (g := g) (f_X9_advance H) (rp_X9_advance H hr)) ?_
        refine J_ifc (t := 48) jw hj rfl (evn rfl) rfl (fun (h2 : ¬ ((f_X7_all5 (f_X9_advance H)).1) = 0) => ?_) (fun (h2 : ((f_X7_all5 (f_X9_advance H)).1) = 0) => ?_)
        · refine J_ld 49 jw hj rfl rfl rfl rfl ?_
          refine J_gfR (k := 60) jw hj rfl (evn rfl) (by decide) (by decide) (RSa (rp_X7_all5 (f_X9_advance H) (rp_X9_advance H hr)) rfl) ?_
          refine J_cst 54 jw hj rfl rfl rfl ?_
          refine J_cst 55 jw hj rfl rfl rfl ?_
          refine J_cst 56 jw hj rfl rfl rfl ?_
          refine J_callV0 jw rfl (Or.inl ⟨_, rfl⟩) rfl rfl (sp_X6_addStep (g := g) 16 0 0 (f_X7_all5 (f_X9_advance H)).2 (rp_X7_all5 (f_X9_advance H) (rp_X9_advance H hr))) ?_
          refine J_iinc (al' := [rf (g 14), pt 4, pt (iAdd (i : Int) 1)]) jw hj rfl (evn rfl) rfl rfl ?_
          refine J_goto 12 jw hj rfl rfl ?_
          rw [show iAdd (i : Int) 1 = ((i + 1 : Nat) : Int) from iAdd_1 (by omega)]
          have e2 : f_X7_cl5 (k + 1) H = f_X7_cl5 k (f_X6_addStep 16 0 0 (f_X7_all5 (f_X9_advance H)).2) := by
            rw [f_X7_cl5]
            rw [if_neg h1, if_neg h2]
          rw [e2]
          exact ih (i + 1) (f_X6_addStep 16 0 0 (f_X7_all5 (f_X9_advance H)).2) (by omega) (rp_X6_addStep 16 0 0 (f_X7_all5 (f_X9_advance H)).2 (rp_X7_all5 (f_X9_advance H) (rp_X9_advance H hr)))
        · refine J_cst 47 jw hj rfl rfl rfl ?_
          exact J_ret rfl (Or.inl rfl) (fun aw hR => by show _ ∧ _; rw [f_X7_cl5]; rw [if_neg h1, if_pos h2]; exact ⟨rfl, hR⟩)
theorem rp_X7_cl5 {P : (Nat → Nat → Option Nat) → Prop} : ∀ (k : Nat) (H : hH), P H.2.2.1 → P (f_X7_cl5 k H).2.2.2.1 := by
  intro k
  induction k with
  | zero => intro H hr; exact hr
  | succ k ih =>
    intro H hr
    rw [f_X7_cl5]
    by_cases q2 : f_X9_isAtWord 16 H = 0
    · rw [if_pos q2]
      exact hr
    · rw [if_neg q2]
      by_cases q3 : ((f_X7_all5 (f_X9_advance H)).1) = 0
      · rw [if_pos q3]
        exact (rp_X7_all5 (f_X9_advance H) (rp_X9_advance H hr))
      · rw [if_neg q3]
        exact ih (f_X6_addStep 16 0 0 (f_X7_all5 (f_X9_advance H)).2) (rp_X6_addStep 16 0 0 (f_X7_all5 (f_X9_advance H)).2 (rp_X7_all5 (f_X9_advance H) (rp_X9_advance H hr)))
def f_X7_cond5  (H : hH) : Int × hH :=
  if ((f_X7_all5 H).1) = 0 then
    (0, (f_X7_all5 H).2)
  else
    ((f_X7_cl5 200 (f_X7_all5 H).2).1, (f_X7_cl5 200 (f_X7_all5 H).2).2)
set_option maxHeartbeats 16000000 in
set_option maxRecDepth 100000 in
theorem sp_X7_cond5 {g : Nat → Nat}  (H : hH) (hr : RS H.2.2.1) : SP g rvTab rvInf rvRet 316 rvMth 108 [rf (g 14), pt 4] H (some (pt (f_X7_cond5 H).1)) (f_X7_cond5 H).2 := by
  have hj : 108 < 316 := by decide
  refine J_SP hj (Nat.le_of_ble_eq_true rfl) ?_
  show J g rvTab rvInf rvRet 316 rvMth 108 _ 0 [rf (g 14), pt 4, rvU] [] H
  refine J_ld 1 jw hj rfl rfl rfl rfl ?_
  refine J_ld 2 jw hj rfl rfl rfl rfl ?_
  refine J_callV1 jw rfl (Or.inl ⟨_, rfl⟩) rfl rfl (sp_X7_all5 (g := g) H hr) ?_
  refine J_ifc (t := 10) jw hj rfl (evn rfl) rfl (fun (h0 : ¬ ((f_X7_all5 H).1) = 0) => ?_) (fun (h0 : ((f_X7_all5 H).1) = 0) => ?_)
  · refine J_cst 11 jw hj rfl rfl rfl ?_
    refine J_st 12 [rf (g 14), pt 4, pt 0] (k := 2) jw hj rfl (Or.inr (Or.inr (Or.inl ⟨_, rfl, rfl, rfl⟩))) rfl ?_
    have e : f_X7_cond5 H = (f_X7_cl5 200 (f_X7_all5 H).2) := by
      unfold f_X7_cond5
      rw [if_neg h0]
    rw [e]
    exact lp_X7_cl5 200 0 (f_X7_all5 H).2 rfl (rp_X7_all5 H hr)
  · refine J_cst 9 jw hj rfl rfl rfl ?_
    exact J_ret rfl (Or.inl rfl) (fun aw hR => by show _ ∧ _; unfold f_X7_cond5; rw [if_pos h0]; exact ⟨rfl, hR⟩)
theorem rp_X7_cond5 {P : (Nat → Nat → Option Nat) → Prop}  (H : hH) (hr : P H.2.2.1) : P (f_X7_cond5 H).2.2.2.1 := by
  unfold f_X7_cond5
  by_cases q1 : ((f_X7_all5 H).1) = 0
  · rw [if_pos q1]
    exact (rp_X7_all5 H hr)
  · rw [if_neg q1]
    exact (rp_X7_cl5 200 (f_X7_all5 H).2 (rp_X7_all5 H hr))
def f_X7_one6  (H : hH) : Int × hH :=
  if f_X9_isAtSign 40 H = 0 then
    if H.1 4 10 = 4 then
      if f_X7_beginsOne (H.1 4 11) = 0 then
        ((f_X9_fail 1 H).1, (f_X9_fail 1 H).2)
      else
        if H.1 14 3 < 20 then
          if f_X9_isAtSign 40 H = 0 then
            if H.1 4 11 = 18 then
              ((f_X7_one5 (f_X9_advance (upI H 14 3 (iAdd (H.1 14 3) 1)))).1, (f_X6_addStep 18 0 0 (f_X7_one5 (f_X9_advance (upI H 14 3 (iAdd (H.1 14 3) 1)))).2))
            else
              if H.1 4 11 = 5 then
                ((f_X7_readNamed (H.1 4 11) 3 (f_X9_advance (upI H 14 3 (iAdd (H.1 14 3) 1)))).1, (f_X7_readNamed (H.1 4 11) 3 (f_X9_advance (upI H 14 3 (iAdd (H.1 14 3) 1)))).2)
              else
                if H.1 4 11 = 19 then
                  ((f_X7_readNamed (H.1 4 11) 0 (f_X9_advance (upI H 14 3 (iAdd (H.1 14 3) 1)))).1, (f_X7_readNamed (H.1 4 11) 0 (f_X9_advance (upI H 14 3 (iAdd (H.1 14 3) 1)))).2)
                else
                  if H.1 4 11 = 4 then
                    ((f_X7_readNamed (H.1 4 11) 1 (f_X9_advance (upI H 14 3 (iAdd (H.1 14 3) 1)))).1, (f_X7_readNamed (H.1 4 11) 1 (f_X9_advance (upI H 14 3 (iAdd (H.1 14 3) 1)))).2)
                  else
                    if H.1 4 11 = 20 ∨ H.1 4 11 = 21 ∨ H.1 4 11 = 22 then
                      ((f_X7_readComparison (H.1 4 11) (f_X9_advance (upI H 14 3 (iAdd (H.1 14 3) 1)))).1, (f_X7_readComparison (H.1 4 11) (f_X9_advance (upI H 14 3 (iAdd (H.1 14 3) 1)))).2)
                    else
                      (1, (f_X6_addStep (H.1 4 11) 0 0 (f_X9_advance (upI H 14 3 (iAdd (H.1 14 3) 1)))))
          else
            if ((f_X7_cond5 (f_X9_advance (upI H 14 3 (iAdd (H.1 14 3) 1)))).1) = 0 then
              (0, (f_X7_cond5 (f_X9_advance (upI H 14 3 (iAdd (H.1 14 3) 1)))).2)
            else
              if ((f_X9_passSign 41 (f_X7_cond5 (f_X9_advance (upI H 14 3 (iAdd (H.1 14 3) 1)))).2).1) = 0 then
                (0, (f_X9_passSign 41 (f_X7_cond5 (f_X9_advance (upI H 14 3 (iAdd (H.1 14 3) 1)))).2).2)
              else
                (1, (f_X9_passSign 41 (f_X7_cond5 (f_X9_advance (upI H 14 3 (iAdd (H.1 14 3) 1)))).2).2)
        else
          ((f_X9_fail 4 H).1, (f_X9_fail 4 H).2)
    else
      ((f_X9_fail 1 H).1, (f_X9_fail 1 H).2)
  else
    if H.1 14 3 < 20 then
      if f_X9_isAtSign 40 H = 0 then
        if H.1 4 11 = 18 then
          ((f_X7_one5 (f_X9_advance (upI H 14 3 (iAdd (H.1 14 3) 1)))).1, (f_X6_addStep 18 0 0 (f_X7_one5 (f_X9_advance (upI H 14 3 (iAdd (H.1 14 3) 1)))).2))
        else
          if H.1 4 11 = 5 then
            ((f_X7_readNamed (H.1 4 11) 3 (f_X9_advance (upI H 14 3 (iAdd (H.1 14 3) 1)))).1, (f_X7_readNamed (H.1 4 11) 3 (f_X9_advance (upI H 14 3 (iAdd (H.1 14 3) 1)))).2)
          else
            if H.1 4 11 = 19 then
              ((f_X7_readNamed (H.1 4 11) 0 (f_X9_advance (upI H 14 3 (iAdd (H.1 14 3) 1)))).1, (f_X7_readNamed (H.1 4 11) 0 (f_X9_advance (upI H 14 3 (iAdd (H.1 14 3) 1)))).2)
            else
              if H.1 4 11 = 4 then
                ((f_X7_readNamed (H.1 4 11) 1 (f_X9_advance (upI H 14 3 (iAdd (H.1 14 3) 1)))).1, (f_X7_readNamed (H.1 4 11) 1 (f_X9_advance (upI H 14 3 (iAdd (H.1 14 3) 1)))).2)
              else
                if H.1 4 11 = 20 ∨ H.1 4 11 = 21 ∨ H.1 4 11 = 22 then
                  ((f_X7_readComparison (H.1 4 11) (f_X9_advance (upI H 14 3 (iAdd (H.1 14 3) 1)))).1, (f_X7_readComparison (H.1 4 11) (f_X9_advance (upI H 14 3 (iAdd (H.1 14 3) 1)))).2)
                else
                  (1, (f_X6_addStep (H.1 4 11) 0 0 (f_X9_advance (upI H 14 3 (iAdd (H.1 14 3) 1)))))
      else
        if ((f_X7_cond5 (f_X9_advance (upI H 14 3 (iAdd (H.1 14 3) 1)))).1) = 0 then
          (0, (f_X7_cond5 (f_X9_advance (upI H 14 3 (iAdd (H.1 14 3) 1)))).2)
        else
          if ((f_X9_passSign 41 (f_X7_cond5 (f_X9_advance (upI H 14 3 (iAdd (H.1 14 3) 1)))).2).1) = 0 then
            (0, (f_X9_passSign 41 (f_X7_cond5 (f_X9_advance (upI H 14 3 (iAdd (H.1 14 3) 1)))).2).2)
          else
            (1, (f_X9_passSign 41 (f_X7_cond5 (f_X9_advance (upI H 14 3 (iAdd (H.1 14 3) 1)))).2).2)
    else
      ((f_X9_fail 4 H).1, (f_X9_fail 4 H).2)
set_option maxHeartbeats 16000000 in
set_option maxRecDepth 100000 in
theorem sp_X7_one6 {g : Nat → Nat}  (H : hH) (hr : RS H.2.2.1) : SP g rvTab rvInf rvRet 316 rvMth 109 [rf (g 14), pt 3] H (some (pt (f_X7_one6 H).1)) (f_X7_one6 H).2 := by
  have hj : 109 < 316 := by decide
  refine J_SP hj (Nat.le_of_ble_eq_true rfl) ?_
  show J g rvTab rvInf rvRet 316 rvMth 109 _ 0 [rf (g 14), pt 3, rvU, rvU, rvU] [] H
  refine J_ld 1 jw hj rfl rfl rfl rfl ?_
  refine J_gfR (k := 4) jw hj rfl (evn rfl) (by decide) (by decide) (RSa hr rfl) ?_
  refine J_cst 6 jw hj rfl rfl rfl ?_
  refine J_callV1 jw rfl (Or.inl ⟨_, rfl⟩) rfl rfl (sp_X9_isAtSign (g := g) 40 H) ?_
  refine J_st 10 [rf (g 14), pt 3, pt (f_X9_isAtSign 40 H), rvU, rvU] (k := 2) jw hj rfl (Or.inr (Or.inr (Or.inl ⟨_, rfl, rfl, rfl⟩))) rfl ?_
  refine J_ld 11 jw hj rfl rfl rfl rfl ?_
  refine J_gfR (k := 4) jw hj rfl (evn rfl) (by decide) (by decide) (RSa hr rfl) ?_
  refine J_gfI jw hj rfl (evn rfl) (by decide) rfl (fun r0 => ?_)
  refine J_st 18 [rf (g 14), pt 3, pt (f_X9_isAtSign 40 H), pt (H.1 4 11), rvU] (k := 3) jw hj rfl (Or.inr (Or.inr (Or.inl ⟨_, rfl, rfl, rfl⟩))) rfl ?_
  refine J_ld 19 jw hj rfl rfl rfl rfl ?_
  refine J_ifc (t := 49) jw hj rfl (evn rfl) rfl (fun (h0 : ¬ f_X9_isAtSign 40 H = 0) => ?_) (fun (h0 : f_X9_isAtSign 40 H = 0) => ?_)
  · refine J_ld 50 jw hj rfl rfl rfl rfl ?_
    refine J_gfI jw hj rfl (evn rfl) (by decide) rfl (fun r1 => ?_)
    refine J_cst 55 jw hj rfl rfl rfl ?_
    refine J_icmp (t := 64) jw hj rfl (evn rfl) rfl (fun (h1 : ¬ H.1 14 3 < 20) => ?_) (fun (h1 : H.1 14 3 < 20) => ?_)
    · refine J_ld 65 jw hj rfl rfl rfl rfl ?_
      refine J_gfR (k := 4) jw hj rfl (evn rfl) (by decide) (by decide) (RSa hr rfl) ?_
      refine J_cst 69 jw hj rfl rfl rfl ?_
      refine J_callV1 jw rfl (Or.inl ⟨_, rfl⟩) rfl rfl (st_X9_fail (g := g) 4 H (RSt hr)) ?_
      exact J_ret rfl (Or.inl rfl) (fun aw hR => by show _ ∧ _; unfold f_X7_one6; rw [if_neg h0, if_neg h1]; exact ⟨rfl, hR⟩)
    · refine J_ld 59 jw hj rfl rfl rfl rfl ?_
      refine J_cst 61 jw hj rfl rfl rfl ?_
      refine J_icmp (t := 73) jw hj rfl (evn rfl) rfl (fun (h2 : ¬ (8 : Int) < (3 : Int)) => ?_) (fun (h2 : (8 : Int) < (3 : Int)) => absurd h2 (by decide))
      refine J_ld 74 jw hj rfl rfl rfl rfl ?_
      refine J_dup 75 jw hj rfl rfl ?_
      refine J_gfI jw hj rfl (evn rfl) (by decide) rfl (fun r2 => ?_)
      refine J_cst 79 jw hj rfl rfl rfl ?_
      refine J_bin jw hj rfl rfl ?_
      refine J_pfI jw hj rfl (evn rfl) rfl ?_
      refine J_ld 84 jw hj rfl rfl rfl rfl ?_
      refine J_gfR (k := 4) jw hj rfl (evn rfl) (by decide) (by decide) (RSa hr rfl) ?_
      refine J_callV0 jw rfl (Or.inl ⟨_, rfl⟩) rfl rfl (st_X9_advance (g := g) (upI H 14 3 (iAdd (H.1 14 3) 1)) (RSt hr)) ?_
      refine J_ld 91 jw hj rfl rfl rfl rfl ?_
      refine J_ifc (t := 122) jw hj rfl (evn rfl) rfl (fun (h3 : f_X9_isAtSign 40 H = 0) => ?_) (fun (h3 : ¬ f_X9_isAtSign 40 H = 0) => ?_)
      · refine J_ld 123 jw hj rfl rfl rfl rfl ?_
        refine J_cst 125 jw hj rfl rfl rfl ?_
        refine J_icmp (t := 151) jw hj rfl (evn rfl) rfl (fun (h4 : ¬ H.1 4 11 = 18) => ?_) (fun (h4 : H.1 4 11 = 18) => ?_)
        · refine J_ld 152 jw hj rfl rfl rfl rfl ?_
          refine J_swR jw hj rfl (fun (h5 : H.1 4 11 = 5) => ?_) (fun (h5 : H.1 4 11 = 19) => ?_) (fun (h5 : H.1 4 11 = 4) => ?_) (fun (h5 : H.1 4 11 = 20 ∨ H.1 4 11 = 21 ∨ H.1 4 11 = 22) => ?_) (fun h5 h5_b h5_c h5_d => ?_)
          · refine J_ld 245 jw hj rfl rfl rfl rfl ?_
            refine J_ld 246 jw hj rfl rfl rfl rfl ?_
            refine J_cst 247 jw hj rfl rfl rfl ?_
            refine J_callV1 jw rfl (Or.inl ⟨_, rfl⟩) rfl rfl (sp_X7_readNamed (g := g) (H.1 4 11) 3 (f_X9_advance (upI H 14 3 (iAdd (H.1 14 3) 1))) (rp_X9_advance (upI H 14 3 (iAdd (H.1 14 3) 1)) hr)) ?_
            exact J_ret rfl (Or.inl rfl) (fun aw hR => by show _ ∧ _; unfold f_X7_one6; rw [if_neg h0, if_pos h1, if_pos h3, if_neg h4, if_pos h5]; exact ⟨rfl, hR⟩)
          · refine J_ld 252 jw hj rfl rfl rfl rfl ?_
            refine J_ld 253 jw hj rfl rfl rfl rfl ?_
            refine J_cst 254 jw hj rfl rfl rfl ?_
            refine J_callV1 jw rfl (Or.inl ⟨_, rfl⟩) rfl rfl (sp_X7_readNamed (g := g) (H.1 4 11) 0 (f_X9_advance (upI H 14 3 (iAdd (H.1 14 3) 1))) (rp_X9_advance (upI H 14 3 (iAdd (H.1 14 3) 1)) hr)) ?_
            exact J_ret rfl (Or.inl rfl) (fun aw hR => by show _ ∧ _; unfold f_X7_one6; rw [if_neg h0, if_pos h1, if_pos h3, if_neg h4, if_neg (show ¬ (H.1 4 11 = 5) by omega), if_pos h5]; exact ⟨rfl, hR⟩)
          · refine J_ld 259 jw hj rfl rfl rfl rfl ?_
            refine J_ld 260 jw hj rfl rfl rfl rfl ?_
            refine J_cst 261 jw hj rfl rfl rfl ?_
            refine J_callV1 jw rfl (Or.inl ⟨_, rfl⟩) rfl rfl (sp_X7_readNamed (g := g) (H.1 4 11) 1 (f_X9_advance (upI H 14 3 (iAdd (H.1 14 3) 1))) (rp_X9_advance (upI H 14 3 (iAdd (H.1 14 3) 1)) hr)) ?_
            exact J_ret rfl (Or.inl rfl) (fun aw hR => by show _ ∧ _; unfold f_X7_one6; rw [if_neg h0, if_pos h1, if_pos h3, if_neg h4, if_neg (show ¬ (H.1 4 11 = 5) by omega), if_neg (show ¬ (H.1 4 11 = 19) by omega), if_pos h5]; exact ⟨rfl, hR⟩)
          · refine J_ld 266 jw hj rfl rfl rfl rfl ?_
            refine J_ld 267 jw hj rfl rfl rfl rfl ?_
            refine J_callV1 jw rfl (Or.inl ⟨_, rfl⟩) rfl rfl (sp_X7_readComparison (g := g) (H.1 4 11) (f_X9_advance (upI H 14 3 (iAdd (H.1 14 3) 1))) (rp_X9_advance (upI H 14 3 (iAdd (H.1 14 3) 1)) hr)) ?_
            exact J_ret rfl (Or.inl rfl) (fun aw hR => by show _ ∧ _; unfold f_X7_one6; rw [if_neg h0, if_pos h1, if_pos h3, if_neg h4, if_neg (show ¬ (H.1 4 11 = 5) by omega), if_neg (show ¬ (H.1 4 11 = 19) by omega), if_neg (show ¬ (H.1 4 11 = 4) by omega), if_pos h5]; exact ⟨rfl, hR⟩)
          · refine J_ld 272 jw hj rfl rfl rfl rfl ?_
            refine J_gfR (k := 60) jw hj rfl (evn rfl) (by decide) (by decide) (RSa (rp_X9_advance (upI H 14 3 (iAdd (H.1 14 3) 1)) hr) rfl) ?_
            refine J_ld 276 jw hj rfl rfl rfl rfl ?_
            refine J_cst 277 jw hj rfl rfl rfl ?_
            refine J_cst 278 jw hj rfl rfl rfl ?_
            refine J_callV0 jw rfl (Or.inl ⟨_, rfl⟩) rfl rfl (sp_X6_addStep (g := g) (H.1 4 11) 0 0 (f_X9_advance (upI H 14 3 (iAdd (H.1 14 3) 1))) (rp_X9_advance (upI H 14 3 (iAdd (H.1 14 3) 1)) hr)) ?_
            refine J_cst 282 jw hj rfl rfl rfl ?_
            exact J_ret rfl (Or.inl rfl) (fun aw hR => by show _ ∧ _; unfold f_X7_one6; rw [if_neg h0, if_pos h1, if_pos h3, if_neg h4, if_neg h5, if_neg h5_b, if_neg h5_c, if_neg h5_d]; exact ⟨rfl, hR⟩)
        · refine J_ld 129 jw hj rfl rfl rfl rfl ?_
          refine J_ld 130 jw hj rfl rfl rfl rfl ?_
          refine J_cst 131 jw hj rfl rfl rfl ?_
          refine J_bin jw hj rfl rfl ?_
          rw [show iop (· + ·) (3 : Int) 1 = 4 from by decide]
          refine J_callV1 jw rfl (Or.inl ⟨_, rfl⟩) rfl rfl (sp_X7_one5 (g := g) (f_X9_advance (upI H 14 3 (iAdd (H.1 14 3) 1))) (rp_X9_advance (upI H 14 3 (iAdd (H.1 14 3) 1)) hr)) ?_
          refine J_st 137 [rf (g 14), pt 3, pt (f_X9_isAtSign 40 H), pt (H.1 4 11), pt ((f_X7_one5 (f_X9_advance (upI H 14 3 (iAdd (H.1 14 3) 1)))).1)] (k := 4) jw hj rfl (Or.inl ⟨rfl, rfl⟩) rfl ?_
          refine J_ld 138 jw hj rfl rfl rfl rfl ?_
          refine J_gfR (k := 60) jw hj rfl (evn rfl) (by decide) (by decide) (RSa (rp_X7_one5 (f_X9_advance (upI H 14 3 (iAdd (H.1 14 3) 1))) (rp_X9_advance (upI H 14 3 (iAdd (H.1 14 3) 1)) hr)) rfl) ?_
          refine J_cst 143 jw hj rfl rfl rfl ?_
          refine J_cst 144 jw hj rfl rfl rfl ?_
          refine J_cst 145 jw hj rfl rfl rfl ?_
          refine J_callV0 jw rfl (Or.inl ⟨_, rfl⟩) rfl rfl (sp_X6_addStep (g := g) 18 0 0 (f_X7_one5 (f_X9_advance (upI H 14 3 (iAdd (H.1 14 3) 1)))).2 (rp_X7_one5 (f_X9_advance (upI H 14 3 (iAdd (H.1 14 3) 1))) (rp_X9_advance (upI H 14 3 (iAdd (H.1 14 3) 1)) hr))) ?_
          refine J_ld 150 jw hj rfl rfl rfl rfl ?_
          exact J_ret rfl (Or.inl rfl) (fun aw hR => by show _ ∧ _; unfold f_X7_one6; rw [if_neg h0, if_pos h1, if_pos h3, if_pos h4]; exact ⟨rfl, hR⟩)
      · refine J_ld 95 jw hj rfl rfl rfl rfl ?_
        refine J_ld 96 jw hj rfl rfl rfl rfl ?_
        refine J_cst 97 jw hj rfl rfl rfl ?_
        refine J_bin jw hj rfl rfl ?_
        rw [show iop (· + ·) (3 : Int) 1 = 4 from by decide]
        refine J_callV1 jw rfl (Or.inl ⟨_, rfl⟩) rfl rfl (sp_X7_cond5 (g := g) (f_X9_advance (upI H 14 3 (iAdd (H.1 14 3) 1))) (rp_X9_advance (upI H 14 3 (iAdd (H.1 14 3) 1)) hr)) ?_
        refine J_ifc (t := 120) jw hj rfl (evn rfl) rfl (fun (h6 : ((f_X7_cond5 (f_X9_advance (upI H 14 3 (iAdd (H.1 14 3) 1)))).1) = 0) => ?_) (fun (h6 : ¬ ((f_X7_cond5 (f_X9_advance (upI H 14 3 (iAdd (H.1 14 3) 1)))).1) = 0) => ?_)
        · refine J_cst 121 jw hj rfl rfl rfl ?_
          exact J_ret rfl (Or.inl rfl) (fun aw hR => by show _ ∧ _; unfold f_X7_one6; rw [if_neg h0, if_pos h1, if_neg h3, if_pos h6]; exact ⟨rfl, hR⟩)
        · refine J_ld 105 jw hj rfl rfl rfl rfl ?_
          refine J_gfR (k := 4) jw hj rfl (evn rfl) (by decide) (by decide) (RSa (rp_X7_cond5 (f_X9_advance (upI H 14 3 (iAdd (H.1 14 3) 1))) (rp_X9_advance (upI H 14 3 (iAdd (H.1 14 3) 1)) hr)) rfl) ?_
          refine J_cst 110 jw hj rfl rfl rfl ?_
          refine J_callV1 jw rfl (Or.inl ⟨_, rfl⟩) rfl rfl (st_X9_passSign (g := g) 41 (f_X7_cond5 (f_X9_advance (upI H 14 3 (iAdd (H.1 14 3) 1)))).2 (RSt (rp_X7_cond5 (f_X9_advance (upI H 14 3 (iAdd (H.1 14 3) 1))) (rp_X9_advance (upI H 14 3 (iAdd (H.1 14 3) 1)) hr)))) ?_
          refine J_ifc (t := 120) jw hj rfl (evn rfl) rfl (fun (h7 : ((f_X9_passSign 41 (f_X7_cond5 (f_X9_advance (upI H 14 3 (iAdd (H.1 14 3) 1)))).2).1) = 0) => ?_) (fun (h7 : ¬ ((f_X9_passSign 41 (f_X7_cond5 (f_X9_advance (upI H 14 3 (iAdd (H.1 14 3) 1)))).2).1) = 0) => ?_)
          · refine J_cst 121 jw hj rfl rfl rfl ?_
            exact J_ret rfl (Or.inl rfl) (fun aw hR => by show _ ∧ _; unfold f_X7_one6; rw [if_neg h0, if_pos h1, if_neg h3, if_neg h6, if_pos h7]; exact ⟨rfl, hR⟩)
          · refine J_cst 117 jw hj rfl rfl rfl ?_
            refine J_goto 121 jw hj rfl rfl ?_
            exact J_ret rfl (Or.inl rfl) (fun aw hR => by show _ ∧ _; unfold f_X7_one6; rw [if_neg h0, if_pos h1, if_neg h3, if_neg h6, if_neg h7]; exact ⟨rfl, hR⟩)
  · refine J_ld 23 jw hj rfl rfl rfl rfl ?_
    refine J_gfR (k := 4) jw hj rfl (evn rfl) (by decide) (by decide) (RSa hr rfl) ?_
    refine J_gfI jw hj rfl (evn rfl) (by decide) rfl (fun r3 => ?_)
    refine J_cst 30 jw hj rfl rfl rfl ?_
    refine J_icmp (t := 40) jw hj rfl (evn rfl) rfl (fun (h8 : ¬ H.1 4 10 = 4) => ?_) (fun (h8 : H.1 4 10 = 4) => ?_)
    · refine J_ld 41 jw hj rfl rfl rfl rfl ?_
      refine J_gfR (k := 4) jw hj rfl (evn rfl) (by decide) (by decide) (RSa hr rfl) ?_
      refine J_cst 45 jw hj rfl rfl rfl ?_
      refine J_callV1 jw rfl (Or.inl ⟨_, rfl⟩) rfl rfl (st_X9_fail (g := g) 1 H (RSt hr)) ?_
      exact J_ret rfl (Or.inl rfl) (fun aw hR => by show _ ∧ _; unfold f_X7_one6; rw [if_pos h0, if_neg h8]; exact ⟨rfl, hR⟩)
    · refine J_ld 34 jw hj rfl rfl rfl rfl ?_
      refine J_callS1 jw rfl rfl rfl rfl (sp_X7_beginsOne (g := g) (H.1 4 11) H) ?_
      refine J_ifc (t := 49) jw hj rfl (evn rfl) rfl (fun (h9 : ¬ f_X7_beginsOne (H.1 4 11) = 0) => ?_) (fun (h9 : f_X7_beginsOne (H.1 4 11) = 0) => ?_)
      · refine J_ld 50 jw hj rfl rfl rfl rfl ?_
        refine J_gfI jw hj rfl (evn rfl) (by decide) rfl (fun r4 => ?_)
        refine J_cst 55 jw hj rfl rfl rfl ?_
        refine J_icmp (t := 64) jw hj rfl (evn rfl) rfl (fun (h10 : ¬ H.1 14 3 < 20) => ?_) (fun (h10 : H.1 14 3 < 20) => ?_)
        · refine J_ld 65 jw hj rfl rfl rfl rfl ?_
          refine J_gfR (k := 4) jw hj rfl (evn rfl) (by decide) (by decide) (RSa hr rfl) ?_
          refine J_cst 69 jw hj rfl rfl rfl ?_
          refine J_callV1 jw rfl (Or.inl ⟨_, rfl⟩) rfl rfl (st_X9_fail (g := g) 4 H (RSt hr)) ?_
          exact J_ret rfl (Or.inl rfl) (fun aw hR => by show _ ∧ _; unfold f_X7_one6; rw [if_pos h0, if_pos h8, if_neg h9, if_neg h10]; exact ⟨rfl, hR⟩)
        · refine J_ld 59 jw hj rfl rfl rfl rfl ?_
          refine J_cst 61 jw hj rfl rfl rfl ?_
          refine J_icmp (t := 73) jw hj rfl (evn rfl) rfl (fun (h11 : ¬ (8 : Int) < (3 : Int)) => ?_) (fun (h11 : (8 : Int) < (3 : Int)) => absurd h11 (by decide))
          refine J_ld 74 jw hj rfl rfl rfl rfl ?_
          refine J_dup 75 jw hj rfl rfl ?_
          refine J_gfI jw hj rfl (evn rfl) (by decide) rfl (fun r5 => ?_)
          refine J_cst 79 jw hj rfl rfl rfl ?_
          refine J_bin jw hj rfl rfl ?_
          refine J_pfI jw hj rfl (evn rfl) rfl ?_
          refine J_ld 84 jw hj rfl rfl rfl rfl ?_
          refine J_gfR (k := 4) jw hj rfl (evn rfl) (by decide) (by decide) (RSa hr rfl) ?_
          refine J_callV0 jw rfl (Or.inl ⟨_, rfl⟩) rfl rfl (st_X9_advance (g := g) (upI H 14 3 (iAdd (H.1 14 3) 1)) (RSt hr)) ?_
          refine J_ld 91 jw hj rfl rfl rfl rfl ?_
          refine J_ifc (t := 122) jw hj rfl (evn rfl) rfl (fun (h12 : f_X9_isAtSign 40 H = 0) => ?_) (fun (h12 : ¬ f_X9_isAtSign 40 H = 0) => ?_)
          · refine J_ld 123 jw hj rfl rfl rfl rfl ?_
            refine J_cst 125 jw hj rfl rfl rfl ?_
            refine J_icmp (t := 151) jw hj rfl (evn rfl) rfl (fun (h13 : ¬ H.1 4 11 = 18) => ?_) (fun (h13 : H.1 4 11 = 18) => ?_)
            · refine J_ld 152 jw hj rfl rfl rfl rfl ?_
              refine J_swR jw hj rfl (fun (h14 : H.1 4 11 = 5) => ?_) (fun (h14 : H.1 4 11 = 19) => ?_) (fun (h14 : H.1 4 11 = 4) => ?_) (fun (h14 : H.1 4 11 = 20 ∨ H.1 4 11 = 21 ∨ H.1 4 11 = 22) => ?_) (fun h14 h14_b h14_c h14_d => ?_)
              · refine J_ld 245 jw hj rfl rfl rfl rfl ?_
                refine J_ld 246 jw hj rfl rfl rfl rfl ?_
                refine J_cst 247 jw hj rfl rfl rfl ?_
                refine J_callV1 jw rfl (Or.inl ⟨_, rfl⟩) rfl rfl (sp_X7_readNamed (g := g) (H.1 4 11) 3 (f_X9_advance (upI H 14 3 (iAdd (H.1 14 3) 1))) (rp_X9_advance (upI H 14 3 (iAdd (H.1 14 3) 1)) hr)) ?_
                exact J_ret rfl (Or.inl rfl) (fun aw hR => by show _ ∧ _; unfold f_X7_one6; rw [if_pos h0, if_pos h8, if_neg h9, if_pos h10, if_pos h12, if_neg h13, if_pos h14]; exact ⟨rfl, hR⟩)
              · refine J_ld 252 jw hj rfl rfl rfl rfl ?_
                refine J_ld 253 jw hj rfl rfl rfl rfl ?_
                refine J_cst 254 jw hj rfl rfl rfl ?_
                refine J_callV1 jw rfl (Or.inl ⟨_, rfl⟩) rfl rfl (sp_X7_readNamed (g := g) (H.1 4 11) 0 (f_X9_advance (upI H 14 3 (iAdd (H.1 14 3) 1))) (rp_X9_advance (upI H 14 3 (iAdd (H.1 14 3) 1)) hr)) ?_
                exact J_ret rfl (Or.inl rfl) (fun aw hR => by show _ ∧ _; unfold f_X7_one6; rw [if_pos h0, if_pos h8, if_neg h9, if_pos h10, if_pos h12, if_neg h13, if_neg (show ¬ (H.1 4 11 = 5) by omega), if_pos h14]; exact ⟨rfl, hR⟩)
              · refine J_ld 259 jw hj rfl rfl rfl rfl ?_
                refine J_ld 260 jw hj rfl rfl rfl rfl ?_
                refine J_cst 261 jw hj rfl rfl rfl ?_
                refine J_callV1 jw rfl (Or.inl ⟨_, rfl⟩) rfl rfl (sp_X7_readNamed (g := g) (H.1 4 11) 1 (f_X9_advance (upI H 14 3 (iAdd (H.1 14 3) 1))) (rp_X9_advance (upI H 14 3 (iAdd (H.1 14 3) 1)) hr)) ?_
                exact J_ret rfl (Or.inl rfl) (fun aw hR => by show _ ∧ _; unfold f_X7_one6; rw [if_pos h0, if_pos h8, if_neg h9, if_pos h10, if_pos h12, if_neg h13, if_neg (show ¬ (H.1 4 11 = 5) by omega), if_neg (show ¬ (H.1 4 11 = 19) by omega), if_pos h14]; exact ⟨rfl, hR⟩)
              · refine J_ld 266 jw hj rfl rfl rfl rfl ?_
                refine J_ld 267 jw hj rfl rfl rfl rfl ?_
                refine J_callV1 jw rfl (Or.inl ⟨_, rfl⟩) rfl rfl (sp_X7_readComparison (g := g) (H.1 4 11) (f_X9_advance (upI H 14 3 (iAdd (H.1 14 3) 1))) (rp_X9_advance (upI H 14 3 (iAdd (H.1 14 3) 1)) hr)) ?_
                exact J_ret rfl (Or.inl rfl) (fun aw hR => by show _ ∧ _; unfold f_X7_one6; rw [if_pos h0, if_pos h8, if_neg h9, if_pos h10, if_pos h12, if_neg h13, if_neg (show ¬ (H.1 4 11 = 5) by omega), if_neg (show ¬ (H.1 4 11 = 19) by omega), if_neg (show ¬ (H.1 4 11 = 4) by omega), if_pos h14]; exact ⟨rfl, hR⟩)
              · refine J_ld 272 jw hj rfl rfl rfl rfl ?_
                refine J_gfR (k := 60) jw hj rfl (evn rfl) (by decide) (by decide) (RSa (rp_X9_advance (upI H 14 3 (iAdd (H.1 14 3) 1)) hr) rfl) ?_
                refine J_ld 276 jw hj rfl rfl rfl rfl ?_
                refine J_cst 277 jw hj rfl rfl rfl ?_
                refine J_cst 278 jw hj rfl rfl rfl ?_
                refine J_callV0 jw rfl (Or.inl ⟨_, rfl⟩) rfl rfl (sp_X6_addStep (g := g) (H.1 4 11) 0 0 (f_X9_advance (upI H 14 3 (iAdd (H.1 14 3) 1))) (rp_X9_advance (upI H 14 3 (iAdd (H.1 14 3) 1)) hr)) ?_
                refine J_cst 282 jw hj rfl rfl rfl ?_
                exact J_ret rfl (Or.inl rfl) (fun aw hR => by show _ ∧ _; unfold f_X7_one6; rw [if_pos h0, if_pos h8, if_neg h9, if_pos h10, if_pos h12, if_neg h13, if_neg h14, if_neg h14_b, if_neg h14_c, if_neg h14_d]; exact ⟨rfl, hR⟩)
            · refine J_ld 129 jw hj rfl rfl rfl rfl ?_
              refine J_ld 130 jw hj rfl rfl rfl rfl ?_
              refine J_cst 131 jw hj rfl rfl rfl ?_
              refine J_bin jw hj rfl rfl ?_
              rw [show iop (· + ·) (3 : Int) 1 = 4 from by decide]
              refine J_callV1 jw rfl (Or.inl ⟨_, rfl⟩) rfl rfl (sp_X7_one5 (g := g) (f_X9_advance (upI H 14 3 (iAdd (H.1 14 3) 1))) (rp_X9_advance (upI H 14 3 (iAdd (H.1 14 3) 1)) hr)) ?_
              refine J_st 137 [rf (g 14), pt 3, pt (f_X9_isAtSign 40 H), pt (H.1 4 11), pt ((f_X7_one5 (f_X9_advance (upI H 14 3 (iAdd (H.1 14 3) 1)))).1)] (k := 4) jw hj rfl (Or.inl ⟨rfl, rfl⟩) rfl ?_
              refine J_ld 138 jw hj rfl rfl rfl rfl ?_
              refine J_gfR (k := 60) jw hj rfl (evn rfl) (by decide) (by decide) (RSa (rp_X7_one5 (f_X9_advance (upI H 14 3 (iAdd (H.1 14 3) 1))) (rp_X9_advance (upI H 14 3 (iAdd (H.1 14 3) 1)) hr)) rfl) ?_
              refine J_cst 143 jw hj rfl rfl rfl ?_
              refine J_cst 144 jw hj rfl rfl rfl ?_
              refine J_cst 145 jw hj rfl rfl rfl ?_
              refine J_callV0 jw rfl (Or.inl ⟨_, rfl⟩) rfl rfl (sp_X6_addStep (g := g) 18 0 0 (f_X7_one5 (f_X9_advance (upI H 14 3 (iAdd (H.1 14 3) 1)))).2 (rp_X7_one5 (f_X9_advance (upI H 14 3 (iAdd (H.1 14 3) 1))) (rp_X9_advance (upI H 14 3 (iAdd (H.1 14 3) 1)) hr))) ?_
              refine J_ld 150 jw hj rfl rfl rfl rfl ?_
              exact J_ret rfl (Or.inl rfl) (fun aw hR => by show _ ∧ _; unfold f_X7_one6; rw [if_pos h0, if_pos h8, if_neg h9, if_pos h10, if_pos h12, if_pos h13]; exact ⟨rfl, hR⟩)
          · refine J_ld 95 jw hj rfl rfl rfl rfl ?_
            refine J_ld 96 jw hj rfl rfl rfl rfl ?_
            refine J_cst 97 jw hj rfl rfl rfl ?_
            refine J_bin jw hj rfl rfl ?_
            rw [show iop (· + ·) (3 : Int) 1 = 4 from by decide]
            refine J_callV1 jw rfl (Or.inl ⟨_, rfl⟩) rfl rfl (sp_X7_cond5 (g := g) (f_X9_advance (upI H 14 3 (iAdd (H.1 14 3) 1))) (rp_X9_advance (upI H 14 3 (iAdd (H.1 14 3) 1)) hr)) ?_
            refine J_ifc (t := 120) jw hj rfl (evn rfl) rfl (fun (h15 : ((f_X7_cond5 (f_X9_advance (upI H 14 3 (iAdd (H.1 14 3) 1)))).1) = 0) => ?_) (fun (h15 : ¬ ((f_X7_cond5 (f_X9_advance (upI H 14 3 (iAdd (H.1 14 3) 1)))).1) = 0) => ?_)
            · refine J_cst 121 jw hj rfl rfl rfl ?_
              exact J_ret rfl (Or.inl rfl) (fun aw hR => by show _ ∧ _; unfold f_X7_one6; rw [if_pos h0, if_pos h8, if_neg h9, if_pos h10, if_neg h12, if_pos h15]; exact ⟨rfl, hR⟩)
            · refine J_ld 105 jw hj rfl rfl rfl rfl ?_
              refine J_gfR (k := 4) jw hj rfl (evn rfl) (by decide) (by decide) (RSa (rp_X7_cond5 (f_X9_advance (upI H 14 3 (iAdd (H.1 14 3) 1))) (rp_X9_advance (upI H 14 3 (iAdd (H.1 14 3) 1)) hr)) rfl) ?_
              refine J_cst 110 jw hj rfl rfl rfl ?_
              refine J_callV1 jw rfl (Or.inl ⟨_, rfl⟩) rfl rfl (st_X9_passSign (g := g) 41 (f_X7_cond5 (f_X9_advance (upI H 14 3 (iAdd (H.1 14 3) 1)))).2 (RSt (rp_X7_cond5 (f_X9_advance (upI H 14 3 (iAdd (H.1 14 3) 1))) (rp_X9_advance (upI H 14 3 (iAdd (H.1 14 3) 1)) hr)))) ?_
              refine J_ifc (t := 120) jw hj rfl (evn rfl) rfl (fun (h16 : ((f_X9_passSign 41 (f_X7_cond5 (f_X9_advance (upI H 14 3 (iAdd (H.1 14 3) 1)))).2).1) = 0) => ?_) (fun (h16 : ¬ ((f_X9_passSign 41 (f_X7_cond5 (f_X9_advance (upI H 14 3 (iAdd (H.1 14 3) 1)))).2).1) = 0) => ?_)
              · refine J_cst 121 jw hj rfl rfl rfl ?_
                exact J_ret rfl (Or.inl rfl) (fun aw hR => by show _ ∧ _; unfold f_X7_one6; rw [if_pos h0, if_pos h8, if_neg h9, if_pos h10, if_neg h12, if_neg h15, if_pos h16]; exact ⟨rfl, hR⟩)
              · refine J_cst 117 jw hj rfl rfl rfl ?_
                refine J_goto 121 jw hj rfl rfl ?_
                exact J_ret rfl (Or.inl rfl) (fun aw hR => by show _ ∧ _; unfold f_X7_one6; rw [if_pos h0, if_pos h8, if_neg h9, if_pos h10, if_neg h12, if_neg h15, if_neg h16]; exact ⟨rfl, hR⟩)
      · refine J_ld 41 jw hj rfl rfl rfl rfl ?_
        refine J_gfR (k := 4) jw hj rfl (evn rfl) (by decide) (by decide) (RSa hr rfl) ?_
        refine J_cst 45 jw hj rfl rfl rfl ?_
        refine J_callV1 jw rfl (Or.inl ⟨_, rfl⟩) rfl rfl (st_X9_fail (g := g) 1 H (RSt hr)) ?_
        exact J_ret rfl (Or.inl rfl) (fun aw hR => by show _ ∧ _; unfold f_X7_one6; rw [if_pos h0, if_pos h8, if_pos h9]; exact ⟨rfl, hR⟩)
theorem rp_X7_one6 {P : (Nat → Nat → Option Nat) → Prop}  (H : hH) (hr : P H.2.2.1) : P (f_X7_one6 H).2.2.2.1 := by
  unfold f_X7_one6
  by_cases q1 : f_X9_isAtSign 40 H = 0
  · rw [if_pos q1]
    by_cases q2 : H.1 4 10 = 4
    · rw [if_pos q2]
      by_cases q3 : f_X7_beginsOne (H.1 4 11) = 0
      · rw [if_pos q3]
        exact (rp_X9_fail 1 H hr)
      · rw [if_neg q3]
        by_cases q4 : H.1 14 3 < 20
        · rw [if_pos q4]
          by_cases q5 : f_X9_isAtSign 40 H = 0
          · rw [if_pos q5]
            by_cases q6 : H.1 4 11 = 18
            · rw [if_pos q6]
              exact (rp_X6_addStep 18 0 0 (f_X7_one5 (f_X9_advance (upI H 14 3 (iAdd (H.1 14 3) 1)))).2 (rp_X7_one5 (f_X9_advance (upI H 14 3 (iAdd (H.1 14 3) 1))) (rp_X9_advance (upI H 14 3 (iAdd (H.1 14 3) 1)) hr)))
            · rw [if_neg q6]
              by_cases q7 : H.1 4 11 = 5
              · rw [if_pos q7]
                exact (rp_X7_readNamed (H.1 4 11) 3 (f_X9_advance (upI H 14 3 (iAdd (H.1 14 3) 1))) (rp_X9_advance (upI H 14 3 (iAdd (H.1 14 3) 1)) hr))
              · rw [if_neg q7]
                by_cases q8 : H.1 4 11 = 19
                · rw [if_pos q8]
                  exact (rp_X7_readNamed (H.1 4 11) 0 (f_X9_advance (upI H 14 3 (iAdd (H.1 14 3) 1))) (rp_X9_advance (upI H 14 3 (iAdd (H.1 14 3) 1)) hr))
                · rw [if_neg q8]
                  by_cases q9 : H.1 4 11 = 4
                  · rw [if_pos q9]
                    exact (rp_X7_readNamed (H.1 4 11) 1 (f_X9_advance (upI H 14 3 (iAdd (H.1 14 3) 1))) (rp_X9_advance (upI H 14 3 (iAdd (H.1 14 3) 1)) hr))
                  · rw [if_neg q9]
                    by_cases q10 : H.1 4 11 = 20 ∨ H.1 4 11 = 21 ∨ H.1 4 11 = 22
                    · rw [if_pos q10]
                      exact (rp_X7_readComparison (H.1 4 11) (f_X9_advance (upI H 14 3 (iAdd (H.1 14 3) 1))) (rp_X9_advance (upI H 14 3 (iAdd (H.1 14 3) 1)) hr))
                    · rw [if_neg q10]
                      exact (rp_X6_addStep (H.1 4 11) 0 0 (f_X9_advance (upI H 14 3 (iAdd (H.1 14 3) 1))) (rp_X9_advance (upI H 14 3 (iAdd (H.1 14 3) 1)) hr))
          · rw [if_neg q5]
            by_cases q6 : ((f_X7_cond5 (f_X9_advance (upI H 14 3 (iAdd (H.1 14 3) 1)))).1) = 0
            · rw [if_pos q6]
              exact (rp_X7_cond5 (f_X9_advance (upI H 14 3 (iAdd (H.1 14 3) 1))) (rp_X9_advance (upI H 14 3 (iAdd (H.1 14 3) 1)) hr))
            · rw [if_neg q6]
              by_cases q7 : ((f_X9_passSign 41 (f_X7_cond5 (f_X9_advance (upI H 14 3 (iAdd (H.1 14 3) 1)))).2).1) = 0
              · rw [if_pos q7]
                exact (rp_X9_passSign 41 (f_X7_cond5 (f_X9_advance (upI H 14 3 (iAdd (H.1 14 3) 1)))).2 (rp_X7_cond5 (f_X9_advance (upI H 14 3 (iAdd (H.1 14 3) 1))) (rp_X9_advance (upI H 14 3 (iAdd (H.1 14 3) 1)) hr)))
              · rw [if_neg q7]
                exact (rp_X9_passSign 41 (f_X7_cond5 (f_X9_advance (upI H 14 3 (iAdd (H.1 14 3) 1)))).2 (rp_X7_cond5 (f_X9_advance (upI H 14 3 (iAdd (H.1 14 3) 1))) (rp_X9_advance (upI H 14 3 (iAdd (H.1 14 3) 1)) hr)))
        · rw [if_neg q4]
          exact (rp_X9_fail 4 H hr)
    · rw [if_neg q2]
      exact (rp_X9_fail 1 H hr)
  · rw [if_neg q1]
    by_cases q2 : H.1 14 3 < 20
    · rw [if_pos q2]
      by_cases q3 : f_X9_isAtSign 40 H = 0
      · rw [if_pos q3]
        by_cases q4 : H.1 4 11 = 18
        · rw [if_pos q4]
          exact (rp_X6_addStep 18 0 0 (f_X7_one5 (f_X9_advance (upI H 14 3 (iAdd (H.1 14 3) 1)))).2 (rp_X7_one5 (f_X9_advance (upI H 14 3 (iAdd (H.1 14 3) 1))) (rp_X9_advance (upI H 14 3 (iAdd (H.1 14 3) 1)) hr)))
        · rw [if_neg q4]
          by_cases q5 : H.1 4 11 = 5
          · rw [if_pos q5]
            exact (rp_X7_readNamed (H.1 4 11) 3 (f_X9_advance (upI H 14 3 (iAdd (H.1 14 3) 1))) (rp_X9_advance (upI H 14 3 (iAdd (H.1 14 3) 1)) hr))
          · rw [if_neg q5]
            by_cases q6 : H.1 4 11 = 19
            · rw [if_pos q6]
              exact (rp_X7_readNamed (H.1 4 11) 0 (f_X9_advance (upI H 14 3 (iAdd (H.1 14 3) 1))) (rp_X9_advance (upI H 14 3 (iAdd (H.1 14 3) 1)) hr))
            · rw [if_neg q6]
              by_cases q7 : H.1 4 11 = 4
              · rw [if_pos q7]
                exact (rp_X7_readNamed (H.1 4 11) 1 (f_X9_advance (upI H 14 3 (iAdd (H.1 14 3) 1))) (rp_X9_advance (upI H 14 3 (iAdd (H.1 14 3) 1)) hr))
              · rw [if_neg q7]
                by_cases q8 : H.1 4 11 = 20 ∨ H.1 4 11 = 21 ∨ H.1 4 11 = 22
                · rw [if_pos q8]
                  exact (rp_X7_readComparison (H.1 4 11) (f_X9_advance (upI H 14 3 (iAdd (H.1 14 3) 1))) (rp_X9_advance (upI H 14 3 (iAdd (H.1 14 3) 1)) hr))
                · rw [if_neg q8]
                  exact (rp_X6_addStep (H.1 4 11) 0 0 (f_X9_advance (upI H 14 3 (iAdd (H.1 14 3) 1))) (rp_X9_advance (upI H 14 3 (iAdd (H.1 14 3) 1)) hr))
      · rw [if_neg q3]
        by_cases q4 : ((f_X7_cond5 (f_X9_advance (upI H 14 3 (iAdd (H.1 14 3) 1)))).1) = 0
        · rw [if_pos q4]
          exact (rp_X7_cond5 (f_X9_advance (upI H 14 3 (iAdd (H.1 14 3) 1))) (rp_X9_advance (upI H 14 3 (iAdd (H.1 14 3) 1)) hr))
        · rw [if_neg q4]
          by_cases q5 : ((f_X9_passSign 41 (f_X7_cond5 (f_X9_advance (upI H 14 3 (iAdd (H.1 14 3) 1)))).2).1) = 0
          · rw [if_pos q5]
            exact (rp_X9_passSign 41 (f_X7_cond5 (f_X9_advance (upI H 14 3 (iAdd (H.1 14 3) 1)))).2 (rp_X7_cond5 (f_X9_advance (upI H 14 3 (iAdd (H.1 14 3) 1))) (rp_X9_advance (upI H 14 3 (iAdd (H.1 14 3) 1)) hr)))
          · rw [if_neg q5]
            exact (rp_X9_passSign 41 (f_X7_cond5 (f_X9_advance (upI H 14 3 (iAdd (H.1 14 3) 1)))).2 (rp_X7_cond5 (f_X9_advance (upI H 14 3 (iAdd (H.1 14 3) 1))) (rp_X9_advance (upI H 14 3 (iAdd (H.1 14 3) 1)) hr)))
    · rw [if_neg q2]
      exact (rp_X9_fail 4 H hr)
def f_X7_al6 : Nat → hH → Int × hH
  | 0, H => (1, H)
  | k + 1, H =>
    if f_X9_isAtWord 17 H = 0 then
      (1, H)
    else
      if ((f_X7_one6 (f_X9_advance H)).1) = 0 then
        (0, (f_X7_one6 (f_X9_advance H)).2)
      else
        f_X7_al6 k (f_X6_addStep 17 0 0 (f_X7_one6 (f_X9_advance H)).2)
set_option maxHeartbeats 16000000 in
set_option maxRecDepth 100000 in
theorem lp_X7_al6 {g : Nat → Nat} : ∀ (k i : Nat) (H : hH), i + k = 200 → RS H.2.2.1 → J g rvTab rvInf rvRet 316 rvMth 110 (fun res => res.1 = some (pt (f_X7_al6 k H).1) ∧ RH g res.2 (f_X7_al6 k H).2) 12 [rf (g 14), pt 3, pt (i : Int)] [] H := by
  intro k
  induction k with
  | zero =>
    intro i H hk hr
    have hj : 110 < 316 := by decide
    refine J_ld 13 jw hj rfl rfl rfl rfl ?_
    refine J_cst 16 jw hj rfl rfl rfl ?_
    refine J_icmp (t := 65) jw hj rfl (evn rfl) rfl (fun (h0 : ¬ (i : Int) < 200) => ?_) (fun (h0 : (i : Int) < 200) => ?_)
    · refine J_cst 66 jw hj rfl rfl rfl ?_
      exact J_ret rfl (Or.inl rfl) (fun aw hR => ⟨rfl, hR⟩)
    · exact absurd h0 (by omega)
  | succ k ih =>
    intro i H hk hr
    have hj : 110 < 316 := by decide
    refine J_ld 13 jw hj rfl rfl rfl rfl ?_
    refine J_cst 16 jw hj rfl rfl rfl ?_
    refine J_icmp (t := 65) jw hj rfl (evn rfl) rfl (fun (h0 : ¬ (i : Int) < 200) => ?_) (fun (h0 : (i : Int) < 200) => ?_)
    · refine J_cst 66 jw hj rfl rfl rfl ?_
      exact absurd (show (i : Int) < 200 by omega) h0
    · refine J_ld 20 jw hj rfl rfl rfl rfl ?_
      refine J_gfR (k := 4) jw hj rfl (evn rfl) (by decide) (by decide) (RSa hr rfl) ?_
      refine J_cst 25 jw hj rfl rfl rfl ?_
      refine J_callV1 jw rfl (Or.inl ⟨_, rfl⟩) rfl rfl (sp_X9_isAtWord (g := g) 17 H) ?_
      refine J_ifc (t := 65) jw hj rfl (evn rfl) rfl (fun (h1 : f_X9_isAtWord 17 H = 0) => ?_) (fun (h1 : ¬ f_X9_isAtWord 17 H = 0) => ?_)
      · refine J_cst 66 jw hj rfl rfl rfl ?_
        exact J_ret rfl (Or.inl rfl) (fun aw hR => by show _ ∧ _; rw [f_X7_al6]; rw [if_pos h1]; exact ⟨rfl, hR⟩)
      · refine J_ld 32 jw hj rfl rfl rfl rfl ?_
        refine J_gfR (k := 4) jw hj rfl (evn rfl) (by decide) (by decide) (RSa hr rfl) ?_
        refine J_callV0 jw rfl (Or.inl ⟨_, rfl⟩) rfl rfl (st_X9_advance (g := g) H (RSt hr)) ?_
        refine J_ld 39 jw hj rfl rfl rfl rfl ?_
        refine J_ld 40 jw hj rfl rfl rfl rfl ?_
        refine J_callV1 jw rfl (Or.inl ⟨_, rfl⟩) rfl rfl (sp_X7_one6 (g := g) (f_X9_advance H) (rp_X9_advance H hr)) ?_
        refine J_ifc (t := 48) jw hj rfl (evn rfl) rfl (fun (h2 : ¬ ((f_X7_one6 (f_X9_advance H)).1) = 0) => ?_) (fun (h2 : ((f_X7_one6 (f_X9_advance H)).1) = 0) => ?_)
        · refine J_ld 49 jw hj rfl rfl rfl rfl ?_
          refine J_gfR (k := 60) jw hj rfl (evn rfl) (by decide) (by decide) (RSa (rp_X7_one6 (f_X9_advance H) (rp_X9_advance H hr)) rfl) ?_
          refine J_cst 54 jw hj rfl rfl rfl ?_
          refine J_cst 55 jw hj rfl rfl rfl ?_
          refine J_cst 56 jw hj rfl rfl rfl ?_
          refine J_callV0 jw rfl (Or.inl ⟨_, rfl⟩) rfl rfl (sp_X6_addStep (g := g) 17 0 0 (f_X7_one6 (f_X9_advance H)).2 (rp_X7_one6 (f_X9_advance H) (rp_X9_advance H hr))) ?_
          refine J_iinc (al' := [rf (g 14), pt 3, pt (iAdd (i : Int) 1)]) jw hj rfl (evn rfl) rfl rfl ?_
          refine J_goto 12 jw hj rfl rfl ?_
          rw [show iAdd (i : Int) 1 = ((i + 1 : Nat) : Int) from iAdd_1 (by omega)]
          have e2 : f_X7_al6 (k + 1) H = f_X7_al6 k (f_X6_addStep 17 0 0 (f_X7_one6 (f_X9_advance H)).2) := by
            rw [f_X7_al6]
            rw [if_neg h1, if_neg h2]
          rw [e2]
          exact ih (i + 1) (f_X6_addStep 17 0 0 (f_X7_one6 (f_X9_advance H)).2) (by omega) (rp_X6_addStep 17 0 0 (f_X7_one6 (f_X9_advance H)).2 (rp_X7_one6 (f_X9_advance H) (rp_X9_advance H hr)))
        · refine J_cst 47 jw hj rfl rfl rfl ?_
          exact J_ret rfl (Or.inl rfl) (fun aw hR => by show _ ∧ _; rw [f_X7_al6]; rw [if_neg h1, if_pos h2]; exact ⟨rfl, hR⟩)
theorem rp_X7_al6 {P : (Nat → Nat → Option Nat) → Prop} : ∀ (k : Nat) (H : hH), P H.2.2.1 → P (f_X7_al6 k H).2.2.2.1 := by
  intro k
  induction k with
  | zero => intro H hr; exact hr
  | succ k ih =>
    intro H hr
    rw [f_X7_al6]
    by_cases q2 : f_X9_isAtWord 17 H = 0
    · rw [if_pos q2]
      exact hr
    · rw [if_neg q2]
      by_cases q3 : ((f_X7_one6 (f_X9_advance H)).1) = 0
      · rw [if_pos q3]
        exact (rp_X7_one6 (f_X9_advance H) (rp_X9_advance H hr))
      · rw [if_neg q3]
        exact ih (f_X6_addStep 17 0 0 (f_X7_one6 (f_X9_advance H)).2) (rp_X6_addStep 17 0 0 (f_X7_one6 (f_X9_advance H)).2 (rp_X7_one6 (f_X9_advance H) (rp_X9_advance H hr)))
def f_X7_all6  (H : hH) : Int × hH :=
  if ((f_X7_one6 H).1) = 0 then
    (0, (f_X7_one6 H).2)
  else
    ((f_X7_al6 200 (f_X7_one6 H).2).1, (f_X7_al6 200 (f_X7_one6 H).2).2)
set_option maxHeartbeats 16000000 in
set_option maxRecDepth 100000 in
theorem sp_X7_all6 {g : Nat → Nat}  (H : hH) (hr : RS H.2.2.1) : SP g rvTab rvInf rvRet 316 rvMth 110 [rf (g 14), pt 3] H (some (pt (f_X7_all6 H).1)) (f_X7_all6 H).2 := by
  have hj : 110 < 316 := by decide
  refine J_SP hj (Nat.le_of_ble_eq_true rfl) ?_
  show J g rvTab rvInf rvRet 316 rvMth 110 _ 0 [rf (g 14), pt 3, rvU] [] H
  refine J_ld 1 jw hj rfl rfl rfl rfl ?_
  refine J_ld 2 jw hj rfl rfl rfl rfl ?_
  refine J_callV1 jw rfl (Or.inl ⟨_, rfl⟩) rfl rfl (sp_X7_one6 (g := g) H hr) ?_
  refine J_ifc (t := 10) jw hj rfl (evn rfl) rfl (fun (h0 : ¬ ((f_X7_one6 H).1) = 0) => ?_) (fun (h0 : ((f_X7_one6 H).1) = 0) => ?_)
  · refine J_cst 11 jw hj rfl rfl rfl ?_
    refine J_st 12 [rf (g 14), pt 3, pt 0] (k := 2) jw hj rfl (Or.inr (Or.inr (Or.inl ⟨_, rfl, rfl, rfl⟩))) rfl ?_
    have e : f_X7_all6 H = (f_X7_al6 200 (f_X7_one6 H).2) := by
      unfold f_X7_all6
      rw [if_neg h0]
    rw [e]
    exact lp_X7_al6 200 0 (f_X7_one6 H).2 rfl (rp_X7_one6 H hr)
  · refine J_cst 9 jw hj rfl rfl rfl ?_
    exact J_ret rfl (Or.inl rfl) (fun aw hR => by show _ ∧ _; unfold f_X7_all6; rw [if_pos h0]; exact ⟨rfl, hR⟩)
theorem rp_X7_all6 {P : (Nat → Nat → Option Nat) → Prop}  (H : hH) (hr : P H.2.2.1) : P (f_X7_all6 H).2.2.2.1 := by
  unfold f_X7_all6
  by_cases q1 : ((f_X7_one6 H).1) = 0
  · rw [if_pos q1]
    exact (rp_X7_one6 H hr)
  · rw [if_neg q1]
    exact (rp_X7_al6 200 (f_X7_one6 H).2 (rp_X7_one6 H hr))
def f_X7_cl6 : Nat → hH → Int × hH
  | 0, H => (1, H)
  | k + 1, H =>
    if f_X9_isAtWord 16 H = 0 then
      (1, H)
    else
      if ((f_X7_all6 (f_X9_advance H)).1) = 0 then
        (0, (f_X7_all6 (f_X9_advance H)).2)
      else
        f_X7_cl6 k (f_X6_addStep 16 0 0 (f_X7_all6 (f_X9_advance H)).2)
set_option maxHeartbeats 16000000 in
set_option maxRecDepth 100000 in
theorem lp_X7_cl6 {g : Nat → Nat} : ∀ (k i : Nat) (H : hH), i + k = 200 → RS H.2.2.1 → J g rvTab rvInf rvRet 316 rvMth 111 (fun res => res.1 = some (pt (f_X7_cl6 k H).1) ∧ RH g res.2 (f_X7_cl6 k H).2) 12 [rf (g 14), pt 3, pt (i : Int)] [] H := by
  intro k
  induction k with
  | zero =>
    intro i H hk hr
    have hj : 111 < 316 := by decide
    refine J_ld 13 jw hj rfl rfl rfl rfl ?_
    refine J_cst 16 jw hj rfl rfl rfl ?_
    refine J_icmp (t := 65) jw hj rfl (evn rfl) rfl (fun (h0 : ¬ (i : Int) < 200) => ?_) (fun (h0 : (i : Int) < 200) => ?_)
    · refine J_cst 66 jw hj rfl rfl rfl ?_
      exact J_ret rfl (Or.inl rfl) (fun aw hR => ⟨rfl, hR⟩)
    · exact absurd h0 (by omega)
  | succ k ih =>
    intro i H hk hr
    have hj : 111 < 316 := by decide
    refine J_ld 13 jw hj rfl rfl rfl rfl ?_
    refine J_cst 16 jw hj rfl rfl rfl ?_
    refine J_icmp (t := 65) jw hj rfl (evn rfl) rfl (fun (h0 : ¬ (i : Int) < 200) => ?_) (fun (h0 : (i : Int) < 200) => ?_)
    · refine J_cst 66 jw hj rfl rfl rfl ?_
      exact absurd (show (i : Int) < 200 by omega) h0
    · refine J_ld 20 jw hj rfl rfl rfl rfl ?_
      refine J_gfR (k := 4) jw hj rfl (evn rfl) (by decide) (by decide) (RSa hr rfl) ?_
      refine J_cst 25 jw hj rfl rfl rfl ?_
      refine J_callV1 jw rfl (Or.inl ⟨_, rfl⟩) rfl rfl (sp_X9_isAtWord (g := g) 16 H) ?_
      refine J_ifc (t := 65) jw hj rfl (evn rfl) rfl (fun (h1 : f_X9_isAtWord 16 H = 0) => ?_) (fun (h1 : ¬ f_X9_isAtWord 16 H = 0) => ?_)
      · refine J_cst 66 jw hj rfl rfl rfl ?_
        exact J_ret rfl (Or.inl rfl) (fun aw hR => by show _ ∧ _; rw [f_X7_cl6]; rw [if_pos h1]; exact ⟨rfl, hR⟩)
      · refine J_ld 32 jw hj rfl rfl rfl rfl ?_
        refine J_gfR (k := 4) jw hj rfl (evn rfl) (by decide) (by decide) (RSa hr rfl) ?_
        refine J_callV0 jw rfl (Or.inl ⟨_, rfl⟩) rfl rfl (st_X9_advance (g := g) H (RSt hr)) ?_
        refine J_ld 39 jw hj rfl rfl rfl rfl ?_
        refine J_ld 40 jw hj rfl rfl rfl rfl ?_
        refine J_callV1 jw rfl (Or.inl ⟨_, rfl⟩) rfl rfl (sp_X7_all6 (g := g) (f_X9_advance H) (rp_X9_advance H hr)) ?_
        refine J_ifc (t := 48) jw hj rfl (evn rfl) rfl (fun (h2 : ¬ ((f_X7_all6 (f_X9_advance H)).1) = 0) => ?_) (fun (h2 : ((f_X7_all6 (f_X9_advance H)).1) = 0) => ?_)
        · refine J_ld 49 jw hj rfl rfl rfl rfl ?_
          refine J_gfR (k := 60) jw hj rfl (evn rfl) (by decide) (by decide) (RSa (rp_X7_all6 (f_X9_advance H) (rp_X9_advance H hr)) rfl) ?_
          refine J_cst 54 jw hj rfl rfl rfl ?_
          refine J_cst 55 jw hj rfl rfl rfl ?_
          refine J_cst 56 jw hj rfl rfl rfl ?_
          refine J_callV0 jw rfl (Or.inl ⟨_, rfl⟩) rfl rfl (sp_X6_addStep (g := g) 16 0 0 (f_X7_all6 (f_X9_advance H)).2 (rp_X7_all6 (f_X9_advance H) (rp_X9_advance H hr))) ?_
          refine J_iinc (al' := [rf (g 14), pt 3, pt (iAdd (i : Int) 1)]) jw hj rfl (evn rfl) rfl rfl ?_
          refine J_goto 12 jw hj rfl rfl ?_
          rw [show iAdd (i : Int) 1 = ((i + 1 : Nat) : Int) from iAdd_1 (by omega)]
          have e2 : f_X7_cl6 (k + 1) H = f_X7_cl6 k (f_X6_addStep 16 0 0 (f_X7_all6 (f_X9_advance H)).2) := by
            rw [f_X7_cl6]
            rw [if_neg h1, if_neg h2]
          rw [e2]
          exact ih (i + 1) (f_X6_addStep 16 0 0 (f_X7_all6 (f_X9_advance H)).2) (by omega) (rp_X6_addStep 16 0 0 (f_X7_all6 (f_X9_advance H)).2 (rp_X7_all6 (f_X9_advance H) (rp_X9_advance H hr)))
        · refine J_cst 47 jw hj rfl rfl rfl ?_
          exact J_ret rfl (Or.inl rfl) (fun aw hR => by show _ ∧ _; rw [f_X7_cl6]; rw [if_neg h1, if_pos h2]; exact ⟨rfl, hR⟩)
theorem rp_X7_cl6 {P : (Nat → Nat → Option Nat) → Prop} : ∀ (k : Nat) (H : hH), P H.2.2.1 → P (f_X7_cl6 k H).2.2.2.1 := by
  intro k
  induction k with
  | zero => intro H hr; exact hr
  | succ k ih =>
    intro H hr
    rw [f_X7_cl6]
    by_cases q2 : f_X9_isAtWord 16 H = 0
    · rw [if_pos q2]
      exact hr
    · rw [if_neg q2]
      by_cases q3 : ((f_X7_all6 (f_X9_advance H)).1) = 0
      · rw [if_pos q3]
        exact (rp_X7_all6 (f_X9_advance H) (rp_X9_advance H hr))
      · rw [if_neg q3]
        exact ih (f_X6_addStep 16 0 0 (f_X7_all6 (f_X9_advance H)).2) (rp_X6_addStep 16 0 0 (f_X7_all6 (f_X9_advance H)).2 (rp_X7_all6 (f_X9_advance H) (rp_X9_advance H hr)))
def f_X7_cond6  (H : hH) : Int × hH :=
  if ((f_X7_all6 H).1) = 0 then
    (0, (f_X7_all6 H).2)
  else
    ((f_X7_cl6 200 (f_X7_all6 H).2).1, (f_X7_cl6 200 (f_X7_all6 H).2).2)
set_option maxHeartbeats 16000000 in
set_option maxRecDepth 100000 in
theorem sp_X7_cond6 {g : Nat → Nat}  (H : hH) (hr : RS H.2.2.1) : SP g rvTab rvInf rvRet 316 rvMth 111 [rf (g 14), pt 3] H (some (pt (f_X7_cond6 H).1)) (f_X7_cond6 H).2 := by
  have hj : 111 < 316 := by decide
  refine J_SP hj (Nat.le_of_ble_eq_true rfl) ?_
  show J g rvTab rvInf rvRet 316 rvMth 111 _ 0 [rf (g 14), pt 3, rvU] [] H
  refine J_ld 1 jw hj rfl rfl rfl rfl ?_
  refine J_ld 2 jw hj rfl rfl rfl rfl ?_
  refine J_callV1 jw rfl (Or.inl ⟨_, rfl⟩) rfl rfl (sp_X7_all6 (g := g) H hr) ?_
  refine J_ifc (t := 10) jw hj rfl (evn rfl) rfl (fun (h0 : ¬ ((f_X7_all6 H).1) = 0) => ?_) (fun (h0 : ((f_X7_all6 H).1) = 0) => ?_)
  · refine J_cst 11 jw hj rfl rfl rfl ?_
    refine J_st 12 [rf (g 14), pt 3, pt 0] (k := 2) jw hj rfl (Or.inr (Or.inr (Or.inl ⟨_, rfl, rfl, rfl⟩))) rfl ?_
    have e : f_X7_cond6 H = (f_X7_cl6 200 (f_X7_all6 H).2) := by
      unfold f_X7_cond6
      rw [if_neg h0]
    rw [e]
    exact lp_X7_cl6 200 0 (f_X7_all6 H).2 rfl (rp_X7_all6 H hr)
  · refine J_cst 9 jw hj rfl rfl rfl ?_
    exact J_ret rfl (Or.inl rfl) (fun aw hR => by show _ ∧ _; unfold f_X7_cond6; rw [if_pos h0]; exact ⟨rfl, hR⟩)
theorem rp_X7_cond6 {P : (Nat → Nat → Option Nat) → Prop}  (H : hH) (hr : P H.2.2.1) : P (f_X7_cond6 H).2.2.2.1 := by
  unfold f_X7_cond6
  by_cases q1 : ((f_X7_all6 H).1) = 0
  · rw [if_pos q1]
    exact (rp_X7_all6 H hr)
  · rw [if_neg q1]
    exact (rp_X7_cl6 200 (f_X7_all6 H).2 (rp_X7_all6 H hr))
def f_X7_one7  (H : hH) : Int × hH :=
  if f_X9_isAtSign 40 H = 0 then
    if H.1 4 10 = 4 then
      if f_X7_beginsOne (H.1 4 11) = 0 then
        ((f_X9_fail 1 H).1, (f_X9_fail 1 H).2)
      else
        if H.1 14 3 < 20 then
          if f_X9_isAtSign 40 H = 0 then
            if H.1 4 11 = 18 then
              ((f_X7_one6 (f_X9_advance (upI H 14 3 (iAdd (H.1 14 3) 1)))).1, (f_X6_addStep 18 0 0 (f_X7_one6 (f_X9_advance (upI H 14 3 (iAdd (H.1 14 3) 1)))).2))
            else
              if H.1 4 11 = 5 then
                ((f_X7_readNamed (H.1 4 11) 3 (f_X9_advance (upI H 14 3 (iAdd (H.1 14 3) 1)))).1, (f_X7_readNamed (H.1 4 11) 3 (f_X9_advance (upI H 14 3 (iAdd (H.1 14 3) 1)))).2)
              else
                if H.1 4 11 = 19 then
                  ((f_X7_readNamed (H.1 4 11) 0 (f_X9_advance (upI H 14 3 (iAdd (H.1 14 3) 1)))).1, (f_X7_readNamed (H.1 4 11) 0 (f_X9_advance (upI H 14 3 (iAdd (H.1 14 3) 1)))).2)
                else
                  if H.1 4 11 = 4 then
                    ((f_X7_readNamed (H.1 4 11) 1 (f_X9_advance (upI H 14 3 (iAdd (H.1 14 3) 1)))).1, (f_X7_readNamed (H.1 4 11) 1 (f_X9_advance (upI H 14 3 (iAdd (H.1 14 3) 1)))).2)
                  else
                    if H.1 4 11 = 20 ∨ H.1 4 11 = 21 ∨ H.1 4 11 = 22 then
                      ((f_X7_readComparison (H.1 4 11) (f_X9_advance (upI H 14 3 (iAdd (H.1 14 3) 1)))).1, (f_X7_readComparison (H.1 4 11) (f_X9_advance (upI H 14 3 (iAdd (H.1 14 3) 1)))).2)
                    else
                      (1, (f_X6_addStep (H.1 4 11) 0 0 (f_X9_advance (upI H 14 3 (iAdd (H.1 14 3) 1)))))
          else
            if ((f_X7_cond6 (f_X9_advance (upI H 14 3 (iAdd (H.1 14 3) 1)))).1) = 0 then
              (0, (f_X7_cond6 (f_X9_advance (upI H 14 3 (iAdd (H.1 14 3) 1)))).2)
            else
              if ((f_X9_passSign 41 (f_X7_cond6 (f_X9_advance (upI H 14 3 (iAdd (H.1 14 3) 1)))).2).1) = 0 then
                (0, (f_X9_passSign 41 (f_X7_cond6 (f_X9_advance (upI H 14 3 (iAdd (H.1 14 3) 1)))).2).2)
              else
                (1, (f_X9_passSign 41 (f_X7_cond6 (f_X9_advance (upI H 14 3 (iAdd (H.1 14 3) 1)))).2).2)
        else
          ((f_X9_fail 4 H).1, (f_X9_fail 4 H).2)
    else
      ((f_X9_fail 1 H).1, (f_X9_fail 1 H).2)
  else
    if H.1 14 3 < 20 then
      if f_X9_isAtSign 40 H = 0 then
        if H.1 4 11 = 18 then
          ((f_X7_one6 (f_X9_advance (upI H 14 3 (iAdd (H.1 14 3) 1)))).1, (f_X6_addStep 18 0 0 (f_X7_one6 (f_X9_advance (upI H 14 3 (iAdd (H.1 14 3) 1)))).2))
        else
          if H.1 4 11 = 5 then
            ((f_X7_readNamed (H.1 4 11) 3 (f_X9_advance (upI H 14 3 (iAdd (H.1 14 3) 1)))).1, (f_X7_readNamed (H.1 4 11) 3 (f_X9_advance (upI H 14 3 (iAdd (H.1 14 3) 1)))).2)
          else
            if H.1 4 11 = 19 then
              ((f_X7_readNamed (H.1 4 11) 0 (f_X9_advance (upI H 14 3 (iAdd (H.1 14 3) 1)))).1, (f_X7_readNamed (H.1 4 11) 0 (f_X9_advance (upI H 14 3 (iAdd (H.1 14 3) 1)))).2)
            else
              if H.1 4 11 = 4 then
                ((f_X7_readNamed (H.1 4 11) 1 (f_X9_advance (upI H 14 3 (iAdd (H.1 14 3) 1)))).1, (f_X7_readNamed (H.1 4 11) 1 (f_X9_advance (upI H 14 3 (iAdd (H.1 14 3) 1)))).2)
              else
                if H.1 4 11 = 20 ∨ H.1 4 11 = 21 ∨ H.1 4 11 = 22 then
                  ((f_X7_readComparison (H.1 4 11) (f_X9_advance (upI H 14 3 (iAdd (H.1 14 3) 1)))).1, (f_X7_readComparison (H.1 4 11) (f_X9_advance (upI H 14 3 (iAdd (H.1 14 3) 1)))).2)
                else
                  (1, (f_X6_addStep (H.1 4 11) 0 0 (f_X9_advance (upI H 14 3 (iAdd (H.1 14 3) 1)))))
      else
        if ((f_X7_cond6 (f_X9_advance (upI H 14 3 (iAdd (H.1 14 3) 1)))).1) = 0 then
          (0, (f_X7_cond6 (f_X9_advance (upI H 14 3 (iAdd (H.1 14 3) 1)))).2)
        else
          if ((f_X9_passSign 41 (f_X7_cond6 (f_X9_advance (upI H 14 3 (iAdd (H.1 14 3) 1)))).2).1) = 0 then
            (0, (f_X9_passSign 41 (f_X7_cond6 (f_X9_advance (upI H 14 3 (iAdd (H.1 14 3) 1)))).2).2)
          else
            (1, (f_X9_passSign 41 (f_X7_cond6 (f_X9_advance (upI H 14 3 (iAdd (H.1 14 3) 1)))).2).2)
    else
      ((f_X9_fail 4 H).1, (f_X9_fail 4 H).2)
set_option maxHeartbeats 16000000 in
set_option maxRecDepth 100000 in
theorem sp_X7_one7 {g : Nat → Nat}  (H : hH) (hr : RS H.2.2.1) : SP g rvTab rvInf rvRet 316 rvMth 112 [rf (g 14), pt 2] H (some (pt (f_X7_one7 H).1)) (f_X7_one7 H).2 := by
  have hj : 112 < 316 := by decide
  refine J_SP hj (Nat.le_of_ble_eq_true rfl) ?_
  show J g rvTab rvInf rvRet 316 rvMth 112 _ 0 [rf (g 14), pt 2, rvU, rvU, rvU] [] H
  refine J_ld 1 jw hj rfl rfl rfl rfl ?_
  refine J_gfR (k := 4) jw hj rfl (evn rfl) (by decide) (by decide) (RSa hr rfl) ?_
  refine J_cst 6 jw hj rfl rfl rfl ?_
  refine J_callV1 jw rfl (Or.inl ⟨_, rfl⟩) rfl rfl (sp_X9_isAtSign (g := g) 40 H) ?_
  refine J_st 10 [rf (g 14), pt 2, pt (f_X9_isAtSign 40 H), rvU, rvU] (k := 2) jw hj rfl (Or.inr (Or.inr (Or.inl ⟨_, rfl, rfl, rfl⟩))) rfl ?_
  refine J_ld 11 jw hj rfl rfl rfl rfl ?_
  refine J_gfR (k := 4) jw hj rfl (evn rfl) (by decide) (by decide) (RSa hr rfl) ?_
  refine J_gfI jw hj rfl (evn rfl) (by decide) rfl (fun r0 => ?_)
  refine J_st 18 [rf (g 14), pt 2, pt (f_X9_isAtSign 40 H), pt (H.1 4 11), rvU] (k := 3) jw hj rfl (Or.inr (Or.inr (Or.inl ⟨_, rfl, rfl, rfl⟩))) rfl ?_
  refine J_ld 19 jw hj rfl rfl rfl rfl ?_
  refine J_ifc (t := 49) jw hj rfl (evn rfl) rfl (fun (h0 : ¬ f_X9_isAtSign 40 H = 0) => ?_) (fun (h0 : f_X9_isAtSign 40 H = 0) => ?_)
  · refine J_ld 50 jw hj rfl rfl rfl rfl ?_
    refine J_gfI jw hj rfl (evn rfl) (by decide) rfl (fun r1 => ?_)
    refine J_cst 55 jw hj rfl rfl rfl ?_
    refine J_icmp (t := 64) jw hj rfl (evn rfl) rfl (fun (h1 : ¬ H.1 14 3 < 20) => ?_) (fun (h1 : H.1 14 3 < 20) => ?_)
    · refine J_ld 65 jw hj rfl rfl rfl rfl ?_
      refine J_gfR (k := 4) jw hj rfl (evn rfl) (by decide) (by decide) (RSa hr rfl) ?_
      refine J_cst 69 jw hj rfl rfl rfl ?_
      refine J_callV1 jw rfl (Or.inl ⟨_, rfl⟩) rfl rfl (st_X9_fail (g := g) 4 H (RSt hr)) ?_
      exact J_ret rfl (Or.inl rfl) (fun aw hR => by show _ ∧ _; unfold f_X7_one7; rw [if_neg h0, if_neg h1]; exact ⟨rfl, hR⟩)
    · refine J_ld 59 jw hj rfl rfl rfl rfl ?_
      refine J_cst 61 jw hj rfl rfl rfl ?_
      refine J_icmp (t := 73) jw hj rfl (evn rfl) rfl (fun (h2 : ¬ (8 : Int) < (2 : Int)) => ?_) (fun (h2 : (8 : Int) < (2 : Int)) => absurd h2 (by decide))
      refine J_ld 74 jw hj rfl rfl rfl rfl ?_
      refine J_dup 75 jw hj rfl rfl ?_
      refine J_gfI jw hj rfl (evn rfl) (by decide) rfl (fun r2 => ?_)
      refine J_cst 79 jw hj rfl rfl rfl ?_
      refine J_bin jw hj rfl rfl ?_
      refine J_pfI jw hj rfl (evn rfl) rfl ?_
      refine J_ld 84 jw hj rfl rfl rfl rfl ?_
      refine J_gfR (k := 4) jw hj rfl (evn rfl) (by decide) (by decide) (RSa hr rfl) ?_
      refine J_callV0 jw rfl (Or.inl ⟨_, rfl⟩) rfl rfl (st_X9_advance (g := g) (upI H 14 3 (iAdd (H.1 14 3) 1)) (RSt hr)) ?_
      refine J_ld 91 jw hj rfl rfl rfl rfl ?_
      refine J_ifc (t := 122) jw hj rfl (evn rfl) rfl (fun (h3 : f_X9_isAtSign 40 H = 0) => ?_) (fun (h3 : ¬ f_X9_isAtSign 40 H = 0) => ?_)
      · refine J_ld 123 jw hj rfl rfl rfl rfl ?_
        refine J_cst 125 jw hj rfl rfl rfl ?_
        refine J_icmp (t := 151) jw hj rfl (evn rfl) rfl (fun (h4 : ¬ H.1 4 11 = 18) => ?_) (fun (h4 : H.1 4 11 = 18) => ?_)
        · refine J_ld 152 jw hj rfl rfl rfl rfl ?_
          refine J_swR jw hj rfl (fun (h5 : H.1 4 11 = 5) => ?_) (fun (h5 : H.1 4 11 = 19) => ?_) (fun (h5 : H.1 4 11 = 4) => ?_) (fun (h5 : H.1 4 11 = 20 ∨ H.1 4 11 = 21 ∨ H.1 4 11 = 22) => ?_) (fun h5 h5_b h5_c h5_d => ?_)
          · refine J_ld 245 jw hj rfl rfl rfl rfl ?_
            refine J_ld 246 jw hj rfl rfl rfl rfl ?_
            refine J_cst 247 jw hj rfl rfl rfl ?_
            refine J_callV1 jw rfl (Or.inl ⟨_, rfl⟩) rfl rfl (sp_X7_readNamed (g := g) (H.1 4 11) 3 (f_X9_advance (upI H 14 3 (iAdd (H.1 14 3) 1))) (rp_X9_advance (upI H 14 3 (iAdd (H.1 14 3) 1)) hr)) ?_
            exact J_ret rfl (Or.inl rfl) (fun aw hR => by show _ ∧ _; unfold f_X7_one7; rw [if_neg h0, if_pos h1, if_pos h3, if_neg h4, if_pos h5]; exact ⟨rfl, hR⟩)
          · refine J_ld 252 jw hj rfl rfl rfl rfl ?_
            refine J_ld 253 jw hj rfl rfl rfl rfl ?_
            refine J_cst 254 jw hj rfl rfl rfl ?_
            refine J_callV1 jw rfl (Or.inl ⟨_, rfl⟩) rfl rfl (sp_X7_readNamed (g := g) (H.1 4 11) 0 (f_X9_advance (upI H 14 3 (iAdd (H.1 14 3) 1))) (rp_X9_advance (upI H 14 3 (iAdd (H.1 14 3) 1)) hr)) ?_
            exact J_ret rfl (Or.inl rfl) (fun aw hR => by show _ ∧ _; unfold f_X7_one7; rw [if_neg h0, if_pos h1, if_pos h3, if_neg h4, if_neg (show ¬ (H.1 4 11 = 5) by omega), if_pos h5]; exact ⟨rfl, hR⟩)
          · refine J_ld 259 jw hj rfl rfl rfl rfl ?_
            refine J_ld 260 jw hj rfl rfl rfl rfl ?_
            refine J_cst 261 jw hj rfl rfl rfl ?_
            refine J_callV1 jw rfl (Or.inl ⟨_, rfl⟩) rfl rfl (sp_X7_readNamed (g := g) (H.1 4 11) 1 (f_X9_advance (upI H 14 3 (iAdd (H.1 14 3) 1))) (rp_X9_advance (upI H 14 3 (iAdd (H.1 14 3) 1)) hr)) ?_
            exact J_ret rfl (Or.inl rfl) (fun aw hR => by show _ ∧ _; unfold f_X7_one7; rw [if_neg h0, if_pos h1, if_pos h3, if_neg h4, if_neg (show ¬ (H.1 4 11 = 5) by omega), if_neg (show ¬ (H.1 4 11 = 19) by omega), if_pos h5]; exact ⟨rfl, hR⟩)
          · refine J_ld 266 jw hj rfl rfl rfl rfl ?_
            refine J_ld 267 jw hj rfl rfl rfl rfl ?_
            refine J_callV1 jw rfl (Or.inl ⟨_, rfl⟩) rfl rfl (sp_X7_readComparison (g := g) (H.1 4 11) (f_X9_advance (upI H 14 3 (iAdd (H.1 14 3) 1))) (rp_X9_advance (upI H 14 3 (iAdd (H.1 14 3) 1)) hr)) ?_
            exact J_ret rfl (Or.inl rfl) (fun aw hR => by show _ ∧ _; unfold f_X7_one7; rw [if_neg h0, if_pos h1, if_pos h3, if_neg h4, if_neg (show ¬ (H.1 4 11 = 5) by omega), if_neg (show ¬ (H.1 4 11 = 19) by omega), if_neg (show ¬ (H.1 4 11 = 4) by omega), if_pos h5]; exact ⟨rfl, hR⟩)
          · refine J_ld 272 jw hj rfl rfl rfl rfl ?_
            refine J_gfR (k := 60) jw hj rfl (evn rfl) (by decide) (by decide) (RSa (rp_X9_advance (upI H 14 3 (iAdd (H.1 14 3) 1)) hr) rfl) ?_
            refine J_ld 276 jw hj rfl rfl rfl rfl ?_
            refine J_cst 277 jw hj rfl rfl rfl ?_
            refine J_cst 278 jw hj rfl rfl rfl ?_
            refine J_callV0 jw rfl (Or.inl ⟨_, rfl⟩) rfl rfl (sp_X6_addStep (g := g) (H.1 4 11) 0 0 (f_X9_advance (upI H 14 3 (iAdd (H.1 14 3) 1))) (rp_X9_advance (upI H 14 3 (iAdd (H.1 14 3) 1)) hr)) ?_
            refine J_cst 282 jw hj rfl rfl rfl ?_
            exact J_ret rfl (Or.inl rfl) (fun aw hR => by show _ ∧ _; unfold f_X7_one7; rw [if_neg h0, if_pos h1, if_pos h3, if_neg h4, if_neg h5, if_neg h5_b, if_neg h5_c, if_neg h5_d]; exact ⟨rfl, hR⟩)
        · refine J_ld 129 jw hj rfl rfl rfl rfl ?_
          refine J_ld 130 jw hj rfl rfl rfl rfl ?_
          refine J_cst 131 jw hj rfl rfl rfl ?_
          refine J_bin jw hj rfl rfl ?_
          rw [show iop (· + ·) (2 : Int) 1 = 3 from by decide]
          refine J_callV1 jw rfl (Or.inl ⟨_, rfl⟩) rfl rfl (sp_X7_one6 (g := g) (f_X9_advance (upI H 14 3 (iAdd (H.1 14 3) 1))) (rp_X9_advance (upI H 14 3 (iAdd (H.1 14 3) 1)) hr)) ?_
          refine J_st 137 [rf (g 14), pt 2, pt (f_X9_isAtSign 40 H), pt (H.1 4 11), pt ((f_X7_one6 (f_X9_advance (upI H 14 3 (iAdd (H.1 14 3) 1)))).1)] (k := 4) jw hj rfl (Or.inl ⟨rfl, rfl⟩) rfl ?_
          refine J_ld 138 jw hj rfl rfl rfl rfl ?_
          refine J_gfR (k := 60) jw hj rfl (evn rfl) (by decide) (by decide) (RSa (rp_X7_one6 (f_X9_advance (upI H 14 3 (iAdd (H.1 14 3) 1))) (rp_X9_advance (upI H 14 3 (iAdd (H.1 14 3) 1)) hr)) rfl) ?_
          refine J_cst 143 jw hj rfl rfl rfl ?_
          refine J_cst 144 jw hj rfl rfl rfl ?_
          refine J_cst 145 jw hj rfl rfl rfl ?_
          refine J_callV0 jw rfl (Or.inl ⟨_, rfl⟩) rfl rfl (sp_X6_addStep (g := g) 18 0 0 (f_X7_one6 (f_X9_advance (upI H 14 3 (iAdd (H.1 14 3) 1)))).2 (rp_X7_one6 (f_X9_advance (upI H 14 3 (iAdd (H.1 14 3) 1))) (rp_X9_advance (upI H 14 3 (iAdd (H.1 14 3) 1)) hr))) ?_
          refine J_ld 150 jw hj rfl rfl rfl rfl ?_
          exact J_ret rfl (Or.inl rfl) (fun aw hR => by show _ ∧ _; unfold f_X7_one7; rw [if_neg h0, if_pos h1, if_pos h3, if_pos h4]; exact ⟨rfl, hR⟩)
      · refine J_ld 95 jw hj rfl rfl rfl rfl ?_
        refine J_ld 96 jw hj rfl rfl rfl rfl ?_
        refine J_cst 97 jw hj rfl rfl rfl ?_
        refine J_bin jw hj rfl rfl ?_
        rw [show iop (· + ·) (2 : Int) 1 = 3 from by decide]
        refine J_callV1 jw rfl (Or.inl ⟨_, rfl⟩) rfl rfl (sp_X7_cond6 (g := g) (f_X9_advance (upI H 14 3 (iAdd (H.1 14 3) 1))) (rp_X9_advance (upI H 14 3 (iAdd (H.1 14 3) 1)) hr)) ?_
        refine J_ifc (t := 120) jw hj rfl (evn rfl) rfl (fun (h6 : ((f_X7_cond6 (f_X9_advance (upI H 14 3 (iAdd (H.1 14 3) 1)))).1) = 0) => ?_) (fun (h6 : ¬ ((f_X7_cond6 (f_X9_advance (upI H 14 3 (iAdd (H.1 14 3) 1)))).1) = 0) => ?_)
        · refine J_cst 121 jw hj rfl rfl rfl ?_
          exact J_ret rfl (Or.inl rfl) (fun aw hR => by show _ ∧ _; unfold f_X7_one7; rw [if_neg h0, if_pos h1, if_neg h3, if_pos h6]; exact ⟨rfl, hR⟩)
        · refine J_ld 105 jw hj rfl rfl rfl rfl ?_
          refine J_gfR (k := 4) jw hj rfl (evn rfl) (by decide) (by decide) (RSa (rp_X7_cond6 (f_X9_advance (upI H 14 3 (iAdd (H.1 14 3) 1))) (rp_X9_advance (upI H 14 3 (iAdd (H.1 14 3) 1)) hr)) rfl) ?_
          refine J_cst 110 jw hj rfl rfl rfl ?_
          refine J_callV1 jw rfl (Or.inl ⟨_, rfl⟩) rfl rfl (st_X9_passSign (g := g) 41 (f_X7_cond6 (f_X9_advance (upI H 14 3 (iAdd (H.1 14 3) 1)))).2 (RSt (rp_X7_cond6 (f_X9_advance (upI H 14 3 (iAdd (H.1 14 3) 1))) (rp_X9_advance (upI H 14 3 (iAdd (H.1 14 3) 1)) hr)))) ?_
          refine J_ifc (t := 120) jw hj rfl (evn rfl) rfl (fun (h7 : ((f_X9_passSign 41 (f_X7_cond6 (f_X9_advance (upI H 14 3 (iAdd (H.1 14 3) 1)))).2).1) = 0) => ?_) (fun (h7 : ¬ ((f_X9_passSign 41 (f_X7_cond6 (f_X9_advance (upI H 14 3 (iAdd (H.1 14 3) 1)))).2).1) = 0) => ?_)
          · refine J_cst 121 jw hj rfl rfl rfl ?_
            exact J_ret rfl (Or.inl rfl) (fun aw hR => by show _ ∧ _; unfold f_X7_one7; rw [if_neg h0, if_pos h1, if_neg h3, if_neg h6, if_pos h7]; exact ⟨rfl, hR⟩)
          · refine J_cst 117 jw hj rfl rfl rfl ?_
            refine J_goto 121 jw hj rfl rfl ?_
            exact J_ret rfl (Or.inl rfl) (fun aw hR => by show _ ∧ _; unfold f_X7_one7; rw [if_neg h0, if_pos h1, if_neg h3, if_neg h6, if_neg h7]; exact ⟨rfl, hR⟩)
  · refine J_ld 23 jw hj rfl rfl rfl rfl ?_
    refine J_gfR (k := 4) jw hj rfl (evn rfl) (by decide) (by decide) (RSa hr rfl) ?_
    refine J_gfI jw hj rfl (evn rfl) (by decide) rfl (fun r3 => ?_)
    refine J_cst 30 jw hj rfl rfl rfl ?_
    refine J_icmp (t := 40) jw hj rfl (evn rfl) rfl (fun (h8 : ¬ H.1 4 10 = 4) => ?_) (fun (h8 : H.1 4 10 = 4) => ?_)
    · refine J_ld 41 jw hj rfl rfl rfl rfl ?_
      refine J_gfR (k := 4) jw hj rfl (evn rfl) (by decide) (by decide) (RSa hr rfl) ?_
      refine J_cst 45 jw hj rfl rfl rfl ?_
      refine J_callV1 jw rfl (Or.inl ⟨_, rfl⟩) rfl rfl (st_X9_fail (g := g) 1 H (RSt hr)) ?_
      exact J_ret rfl (Or.inl rfl) (fun aw hR => by show _ ∧ _; unfold f_X7_one7; rw [if_pos h0, if_neg h8]; exact ⟨rfl, hR⟩)
    · refine J_ld 34 jw hj rfl rfl rfl rfl ?_
      refine J_callS1 jw rfl rfl rfl rfl (sp_X7_beginsOne (g := g) (H.1 4 11) H) ?_
      refine J_ifc (t := 49) jw hj rfl (evn rfl) rfl (fun (h9 : ¬ f_X7_beginsOne (H.1 4 11) = 0) => ?_) (fun (h9 : f_X7_beginsOne (H.1 4 11) = 0) => ?_)
      · refine J_ld 50 jw hj rfl rfl rfl rfl ?_
        refine J_gfI jw hj rfl (evn rfl) (by decide) rfl (fun r4 => ?_)
        refine J_cst 55 jw hj rfl rfl rfl ?_
        refine J_icmp (t := 64) jw hj rfl (evn rfl) rfl (fun (h10 : ¬ H.1 14 3 < 20) => ?_) (fun (h10 : H.1 14 3 < 20) => ?_)
        · refine J_ld 65 jw hj rfl rfl rfl rfl ?_
          refine J_gfR (k := 4) jw hj rfl (evn rfl) (by decide) (by decide) (RSa hr rfl) ?_
          refine J_cst 69 jw hj rfl rfl rfl ?_
          refine J_callV1 jw rfl (Or.inl ⟨_, rfl⟩) rfl rfl (st_X9_fail (g := g) 4 H (RSt hr)) ?_
          exact J_ret rfl (Or.inl rfl) (fun aw hR => by show _ ∧ _; unfold f_X7_one7; rw [if_pos h0, if_pos h8, if_neg h9, if_neg h10]; exact ⟨rfl, hR⟩)
        · refine J_ld 59 jw hj rfl rfl rfl rfl ?_
          refine J_cst 61 jw hj rfl rfl rfl ?_
          refine J_icmp (t := 73) jw hj rfl (evn rfl) rfl (fun (h11 : ¬ (8 : Int) < (2 : Int)) => ?_) (fun (h11 : (8 : Int) < (2 : Int)) => absurd h11 (by decide))
          refine J_ld 74 jw hj rfl rfl rfl rfl ?_
          refine J_dup 75 jw hj rfl rfl ?_
          refine J_gfI jw hj rfl (evn rfl) (by decide) rfl (fun r5 => ?_)
          refine J_cst 79 jw hj rfl rfl rfl ?_
          refine J_bin jw hj rfl rfl ?_
          refine J_pfI jw hj rfl (evn rfl) rfl ?_
          refine J_ld 84 jw hj rfl rfl rfl rfl ?_
          refine J_gfR (k := 4) jw hj rfl (evn rfl) (by decide) (by decide) (RSa hr rfl) ?_
          refine J_callV0 jw rfl (Or.inl ⟨_, rfl⟩) rfl rfl (st_X9_advance (g := g) (upI H 14 3 (iAdd (H.1 14 3) 1)) (RSt hr)) ?_
          refine J_ld 91 jw hj rfl rfl rfl rfl ?_
          refine J_ifc (t := 122) jw hj rfl (evn rfl) rfl (fun (h12 : f_X9_isAtSign 40 H = 0) => ?_) (fun (h12 : ¬ f_X9_isAtSign 40 H = 0) => ?_)
          · refine J_ld 123 jw hj rfl rfl rfl rfl ?_
            refine J_cst 125 jw hj rfl rfl rfl ?_
            refine J_icmp (t := 151) jw hj rfl (evn rfl) rfl (fun (h13 : ¬ H.1 4 11 = 18) => ?_) (fun (h13 : H.1 4 11 = 18) => ?_)
            · refine J_ld 152 jw hj rfl rfl rfl rfl ?_
              refine J_swR jw hj rfl (fun (h14 : H.1 4 11 = 5) => ?_) (fun (h14 : H.1 4 11 = 19) => ?_) (fun (h14 : H.1 4 11 = 4) => ?_) (fun (h14 : H.1 4 11 = 20 ∨ H.1 4 11 = 21 ∨ H.1 4 11 = 22) => ?_) (fun h14 h14_b h14_c h14_d => ?_)
              · refine J_ld 245 jw hj rfl rfl rfl rfl ?_
                refine J_ld 246 jw hj rfl rfl rfl rfl ?_
                refine J_cst 247 jw hj rfl rfl rfl ?_
                refine J_callV1 jw rfl (Or.inl ⟨_, rfl⟩) rfl rfl (sp_X7_readNamed (g := g) (H.1 4 11) 3 (f_X9_advance (upI H 14 3 (iAdd (H.1 14 3) 1))) (rp_X9_advance (upI H 14 3 (iAdd (H.1 14 3) 1)) hr)) ?_
                exact J_ret rfl (Or.inl rfl) (fun aw hR => by show _ ∧ _; unfold f_X7_one7; rw [if_pos h0, if_pos h8, if_neg h9, if_pos h10, if_pos h12, if_neg h13, if_pos h14]; exact ⟨rfl, hR⟩)
              · refine J_ld 252 jw hj rfl rfl rfl rfl ?_
                refine J_ld 253 jw hj rfl rfl rfl rfl ?_
                refine J_cst 254 jw hj rfl rfl rfl ?_
                refine J_callV1 jw rfl (Or.inl ⟨_, rfl⟩) rfl rfl (sp_X7_readNamed (g := g) (H.1 4 11) 0 (f_X9_advance (upI H 14 3 (iAdd (H.1 14 3) 1))) (rp_X9_advance (upI H 14 3 (iAdd (H.1 14 3) 1)) hr)) ?_
                exact J_ret rfl (Or.inl rfl) (fun aw hR => by show _ ∧ _; unfold f_X7_one7; rw [if_pos h0, if_pos h8, if_neg h9, if_pos h10, if_pos h12, if_neg h13, if_neg (show ¬ (H.1 4 11 = 5) by omega), if_pos h14]; exact ⟨rfl, hR⟩)
              · refine J_ld 259 jw hj rfl rfl rfl rfl ?_
                refine J_ld 260 jw hj rfl rfl rfl rfl ?_
                refine J_cst 261 jw hj rfl rfl rfl ?_
                refine J_callV1 jw rfl (Or.inl ⟨_, rfl⟩) rfl rfl (sp_X7_readNamed (g := g) (H.1 4 11) 1 (f_X9_advance (upI H 14 3 (iAdd (H.1 14 3) 1))) (rp_X9_advance (upI H 14 3 (iAdd (H.1 14 3) 1)) hr)) ?_
                exact J_ret rfl (Or.inl rfl) (fun aw hR => by show _ ∧ _; unfold f_X7_one7; rw [if_pos h0, if_pos h8, if_neg h9, if_pos h10, if_pos h12, if_neg h13, if_neg (show ¬ (H.1 4 11 = 5) by omega), if_neg (show ¬ (H.1 4 11 = 19) by omega), if_pos h14]; exact ⟨rfl, hR⟩)
              · refine J_ld 266 jw hj rfl rfl rfl rfl ?_
                refine J_ld 267 jw hj rfl rfl rfl rfl ?_
                refine J_callV1 jw rfl (Or.inl ⟨_, rfl⟩) rfl rfl (sp_X7_readComparison (g := g) (H.1 4 11) (f_X9_advance (upI H 14 3 (iAdd (H.1 14 3) 1))) (rp_X9_advance (upI H 14 3 (iAdd (H.1 14 3) 1)) hr)) ?_
                exact J_ret rfl (Or.inl rfl) (fun aw hR => by show _ ∧ _; unfold f_X7_one7; rw [if_pos h0, if_pos h8, if_neg h9, if_pos h10, if_pos h12, if_neg h13, if_neg (show ¬ (H.1 4 11 = 5) by omega), if_neg (show ¬ (H.1 4 11 = 19) by omega), if_neg (show ¬ (H.1 4 11 = 4) by omega), if_pos h14]; exact ⟨rfl, hR⟩)
              · refine J_ld 272 jw hj rfl rfl rfl rfl ?_
                refine J_gfR (k := 60) jw hj rfl (evn rfl) (by decide) (by decide) (RSa (rp_X9_advance (upI H 14 3 (iAdd (H.1 14 3) 1)) hr) rfl) ?_
                refine J_ld 276 jw hj rfl rfl rfl rfl ?_
                refine J_cst 277 jw hj rfl rfl rfl ?_
                refine J_cst 278 jw hj rfl rfl rfl ?_
                refine J_callV0 jw rfl (Or.inl ⟨_, rfl⟩) rfl rfl (sp_X6_addStep (g := g) (H.1 4 11) 0 0 (f_X9_advance (upI H 14 3 (iAdd (H.1 14 3) 1))) (rp_X9_advance (upI H 14 3 (iAdd (H.1 14 3) 1)) hr)) ?_
                refine J_cst 282 jw hj rfl rfl rfl ?_
                exact J_ret rfl (Or.inl rfl) (fun aw hR => by show _ ∧ _; unfold f_X7_one7; rw [if_pos h0, if_pos h8, if_neg h9, if_pos h10, if_pos h12, if_neg h13, if_neg h14, if_neg h14_b, if_neg h14_c, if_neg h14_d]; exact ⟨rfl, hR⟩)
            · refine J_ld 129 jw hj rfl rfl rfl rfl ?_
              refine J_ld 130 jw hj rfl rfl rfl rfl ?_
              refine J_cst 131 jw hj rfl rfl rfl ?_
              refine J_bin jw hj rfl rfl ?_
              rw [show iop (· + ·) (2 : Int) 1 = 3 from by decide]
              refine J_callV1 jw rfl (Or.inl ⟨_, rfl⟩) rfl rfl (sp_X7_one6 (g := g) (f_X9_advance (upI H 14 3 (iAdd (H.1 14 3) 1))) (rp_X9_advance (upI H 14 3 (iAdd (H.1 14 3) 1)) hr)) ?_
              refine J_st 137 [rf (g 14), pt 2, pt (f_X9_isAtSign 40 H), pt (H.1 4 11), pt ((f_X7_one6 (f_X9_advance (upI H 14 3 (iAdd (H.1 14 3) 1)))).1)] (k := 4) jw hj rfl (Or.inl ⟨rfl, rfl⟩) rfl ?_
              refine J_ld 138 jw hj rfl rfl rfl rfl ?_
              refine J_gfR (k := 60) jw hj rfl (evn rfl) (by decide) (by decide) (RSa (rp_X7_one6 (f_X9_advance (upI H 14 3 (iAdd (H.1 14 3) 1))) (rp_X9_advance (upI H 14 3 (iAdd (H.1 14 3) 1)) hr)) rfl) ?_
              refine J_cst 143 jw hj rfl rfl rfl ?_
              refine J_cst 144 jw hj rfl rfl rfl ?_
              refine J_cst 145 jw hj rfl rfl rfl ?_
              refine J_callV0 jw rfl (Or.inl ⟨_, rfl⟩) rfl rfl (sp_X6_addStep (g := g) 18 0 0 (f_X7_one6 (f_X9_advance (upI H 14 3 (iAdd (H.1 14 3) 1)))).2 (rp_X7_one6 (f_X9_advance (upI H 14 3 (iAdd (H.1 14 3) 1))) (rp_X9_advance (upI H 14 3 (iAdd (H.1 14 3) 1)) hr))) ?_
              refine J_ld 150 jw hj rfl rfl rfl rfl ?_
              exact J_ret rfl (Or.inl rfl) (fun aw hR => by show _ ∧ _; unfold f_X7_one7; rw [if_pos h0, if_pos h8, if_neg h9, if_pos h10, if_pos h12, if_pos h13]; exact ⟨rfl, hR⟩)
          · refine J_ld 95 jw hj rfl rfl rfl rfl ?_
            refine J_ld 96 jw hj rfl rfl rfl rfl ?_
            refine J_cst 97 jw hj rfl rfl rfl ?_
            refine J_bin jw hj rfl rfl ?_
            rw [show iop (· + ·) (2 : Int) 1 = 3 from by decide]
            refine J_callV1 jw rfl (Or.inl ⟨_, rfl⟩) rfl rfl (sp_X7_cond6 (g := g) (f_X9_advance (upI H 14 3 (iAdd (H.1 14 3) 1))) (rp_X9_advance (upI H 14 3 (iAdd (H.1 14 3) 1)) hr)) ?_
            refine J_ifc (t := 120) jw hj rfl (evn rfl) rfl (fun (h15 : ((f_X7_cond6 (f_X9_advance (upI H 14 3 (iAdd (H.1 14 3) 1)))).1) = 0) => ?_) (fun (h15 : ¬ ((f_X7_cond6 (f_X9_advance (upI H 14 3 (iAdd (H.1 14 3) 1)))).1) = 0) => ?_)
            · refine J_cst 121 jw hj rfl rfl rfl ?_
              exact J_ret rfl (Or.inl rfl) (fun aw hR => by show _ ∧ _; unfold f_X7_one7; rw [if_pos h0, if_pos h8, if_neg h9, if_pos h10, if_neg h12, if_pos h15]; exact ⟨rfl, hR⟩)
            · refine J_ld 105 jw hj rfl rfl rfl rfl ?_
              refine J_gfR (k := 4) jw hj rfl (evn rfl) (by decide) (by decide) (RSa (rp_X7_cond6 (f_X9_advance (upI H 14 3 (iAdd (H.1 14 3) 1))) (rp_X9_advance (upI H 14 3 (iAdd (H.1 14 3) 1)) hr)) rfl) ?_
              refine J_cst 110 jw hj rfl rfl rfl ?_
              refine J_callV1 jw rfl (Or.inl ⟨_, rfl⟩) rfl rfl (st_X9_passSign (g := g) 41 (f_X7_cond6 (f_X9_advance (upI H 14 3 (iAdd (H.1 14 3) 1)))).2 (RSt (rp_X7_cond6 (f_X9_advance (upI H 14 3 (iAdd (H.1 14 3) 1))) (rp_X9_advance (upI H 14 3 (iAdd (H.1 14 3) 1)) hr)))) ?_
              refine J_ifc (t := 120) jw hj rfl (evn rfl) rfl (fun (h16 : ((f_X9_passSign 41 (f_X7_cond6 (f_X9_advance (upI H 14 3 (iAdd (H.1 14 3) 1)))).2).1) = 0) => ?_) (fun (h16 : ¬ ((f_X9_passSign 41 (f_X7_cond6 (f_X9_advance (upI H 14 3 (iAdd (H.1 14 3) 1)))).2).1) = 0) => ?_)
              · refine J_cst 121 jw hj rfl rfl rfl ?_
                exact J_ret rfl (Or.inl rfl) (fun aw hR => by show _ ∧ _; unfold f_X7_one7; rw [if_pos h0, if_pos h8, if_neg h9, if_pos h10, if_neg h12, if_neg h15, if_pos h16]; exact ⟨rfl, hR⟩)
              · refine J_cst 117 jw hj rfl rfl rfl ?_
                refine J_goto 121 jw hj rfl rfl ?_
                exact J_ret rfl (Or.inl rfl) (fun aw hR => by show _ ∧ _; unfold f_X7_one7; rw [if_pos h0, if_pos h8, if_neg h9, if_pos h10, if_neg h12, if_neg h15, if_neg h16]; exact ⟨rfl, hR⟩)
      · refine J_ld 41 jw hj rfl rfl rfl rfl ?_
        refine J_gfR (k := 4) jw hj rfl (evn rfl) (by decide) (by decide) (RSa hr rfl) ?_
        refine J_cst 45 jw hj rfl rfl rfl ?_
        refine J_callV1 jw rfl (Or.inl ⟨_, rfl⟩) rfl rfl (st_X9_fail (g := g) 1 H (RSt hr)) ?_
        exact J_ret rfl (Or.inl rfl) (fun aw hR => by show _ ∧ _; unfold f_X7_one7; rw [if_pos h0, if_pos h8, if_pos h9]; exact ⟨rfl, hR⟩)
theorem rp_X7_one7 {P : (Nat → Nat → Option Nat) → Prop}  (H : hH) (hr : P H.2.2.1) : P (f_X7_one7 H).2.2.2.1 := by
  unfold f_X7_one7
  by_cases q1 : f_X9_isAtSign 40 H = 0
  · rw [if_pos q1]
    by_cases q2 : H.1 4 10 = 4
    · rw [if_pos q2]
      by_cases q3 : f_X7_beginsOne (H.1 4 11) = 0
      · rw [if_pos q3]
        exact (rp_X9_fail 1 H hr)
      · rw [if_neg q3]
        by_cases q4 : H.1 14 3 < 20
        · rw [if_pos q4]
          by_cases q5 : f_X9_isAtSign 40 H = 0
          · rw [if_pos q5]
            by_cases q6 : H.1 4 11 = 18
            · rw [if_pos q6]
              exact (rp_X6_addStep 18 0 0 (f_X7_one6 (f_X9_advance (upI H 14 3 (iAdd (H.1 14 3) 1)))).2 (rp_X7_one6 (f_X9_advance (upI H 14 3 (iAdd (H.1 14 3) 1))) (rp_X9_advance (upI H 14 3 (iAdd (H.1 14 3) 1)) hr)))
            · rw [if_neg q6]
              by_cases q7 : H.1 4 11 = 5
              · rw [if_pos q7]
                exact (rp_X7_readNamed (H.1 4 11) 3 (f_X9_advance (upI H 14 3 (iAdd (H.1 14 3) 1))) (rp_X9_advance (upI H 14 3 (iAdd (H.1 14 3) 1)) hr))
              · rw [if_neg q7]
                by_cases q8 : H.1 4 11 = 19
                · rw [if_pos q8]
                  exact (rp_X7_readNamed (H.1 4 11) 0 (f_X9_advance (upI H 14 3 (iAdd (H.1 14 3) 1))) (rp_X9_advance (upI H 14 3 (iAdd (H.1 14 3) 1)) hr))
                · rw [if_neg q8]
                  by_cases q9 : H.1 4 11 = 4
                  · rw [if_pos q9]
                    exact (rp_X7_readNamed (H.1 4 11) 1 (f_X9_advance (upI H 14 3 (iAdd (H.1 14 3) 1))) (rp_X9_advance (upI H 14 3 (iAdd (H.1 14 3) 1)) hr))
                  · rw [if_neg q9]
                    by_cases q10 : H.1 4 11 = 20 ∨ H.1 4 11 = 21 ∨ H.1 4 11 = 22
                    · rw [if_pos q10]
                      exact (rp_X7_readComparison (H.1 4 11) (f_X9_advance (upI H 14 3 (iAdd (H.1 14 3) 1))) (rp_X9_advance (upI H 14 3 (iAdd (H.1 14 3) 1)) hr))
                    · rw [if_neg q10]
                      exact (rp_X6_addStep (H.1 4 11) 0 0 (f_X9_advance (upI H 14 3 (iAdd (H.1 14 3) 1))) (rp_X9_advance (upI H 14 3 (iAdd (H.1 14 3) 1)) hr))
          · rw [if_neg q5]
            by_cases q6 : ((f_X7_cond6 (f_X9_advance (upI H 14 3 (iAdd (H.1 14 3) 1)))).1) = 0
            · rw [if_pos q6]
              exact (rp_X7_cond6 (f_X9_advance (upI H 14 3 (iAdd (H.1 14 3) 1))) (rp_X9_advance (upI H 14 3 (iAdd (H.1 14 3) 1)) hr))
            · rw [if_neg q6]
              by_cases q7 : ((f_X9_passSign 41 (f_X7_cond6 (f_X9_advance (upI H 14 3 (iAdd (H.1 14 3) 1)))).2).1) = 0
              · rw [if_pos q7]
                exact (rp_X9_passSign 41 (f_X7_cond6 (f_X9_advance (upI H 14 3 (iAdd (H.1 14 3) 1)))).2 (rp_X7_cond6 (f_X9_advance (upI H 14 3 (iAdd (H.1 14 3) 1))) (rp_X9_advance (upI H 14 3 (iAdd (H.1 14 3) 1)) hr)))
              · rw [if_neg q7]
                exact (rp_X9_passSign 41 (f_X7_cond6 (f_X9_advance (upI H 14 3 (iAdd (H.1 14 3) 1)))).2 (rp_X7_cond6 (f_X9_advance (upI H 14 3 (iAdd (H.1 14 3) 1))) (rp_X9_advance (upI H 14 3 (iAdd (H.1 14 3) 1)) hr)))
        · rw [if_neg q4]
          exact (rp_X9_fail 4 H hr)
    · rw [if_neg q2]
      exact (rp_X9_fail 1 H hr)
  · rw [if_neg q1]
    by_cases q2 : H.1 14 3 < 20
    · rw [if_pos q2]
      by_cases q3 : f_X9_isAtSign 40 H = 0
      · rw [if_pos q3]
        by_cases q4 : H.1 4 11 = 18
        · rw [if_pos q4]
          exact (rp_X6_addStep 18 0 0 (f_X7_one6 (f_X9_advance (upI H 14 3 (iAdd (H.1 14 3) 1)))).2 (rp_X7_one6 (f_X9_advance (upI H 14 3 (iAdd (H.1 14 3) 1))) (rp_X9_advance (upI H 14 3 (iAdd (H.1 14 3) 1)) hr)))
        · rw [if_neg q4]
          by_cases q5 : H.1 4 11 = 5
          · rw [if_pos q5]
            exact (rp_X7_readNamed (H.1 4 11) 3 (f_X9_advance (upI H 14 3 (iAdd (H.1 14 3) 1))) (rp_X9_advance (upI H 14 3 (iAdd (H.1 14 3) 1)) hr))
          · rw [if_neg q5]
            by_cases q6 : H.1 4 11 = 19
            · rw [if_pos q6]
              exact (rp_X7_readNamed (H.1 4 11) 0 (f_X9_advance (upI H 14 3 (iAdd (H.1 14 3) 1))) (rp_X9_advance (upI H 14 3 (iAdd (H.1 14 3) 1)) hr))
            · rw [if_neg q6]
              by_cases q7 : H.1 4 11 = 4
              · rw [if_pos q7]
                exact (rp_X7_readNamed (H.1 4 11) 1 (f_X9_advance (upI H 14 3 (iAdd (H.1 14 3) 1))) (rp_X9_advance (upI H 14 3 (iAdd (H.1 14 3) 1)) hr))
              · rw [if_neg q7]
                by_cases q8 : H.1 4 11 = 20 ∨ H.1 4 11 = 21 ∨ H.1 4 11 = 22
                · rw [if_pos q8]
                  exact (rp_X7_readComparison (H.1 4 11) (f_X9_advance (upI H 14 3 (iAdd (H.1 14 3) 1))) (rp_X9_advance (upI H 14 3 (iAdd (H.1 14 3) 1)) hr))
                · rw [if_neg q8]
                  exact (rp_X6_addStep (H.1 4 11) 0 0 (f_X9_advance (upI H 14 3 (iAdd (H.1 14 3) 1))) (rp_X9_advance (upI H 14 3 (iAdd (H.1 14 3) 1)) hr))
      · rw [if_neg q3]
        by_cases q4 : ((f_X7_cond6 (f_X9_advance (upI H 14 3 (iAdd (H.1 14 3) 1)))).1) = 0
        · rw [if_pos q4]
          exact (rp_X7_cond6 (f_X9_advance (upI H 14 3 (iAdd (H.1 14 3) 1))) (rp_X9_advance (upI H 14 3 (iAdd (H.1 14 3) 1)) hr))
        · rw [if_neg q4]
          by_cases q5 : ((f_X9_passSign 41 (f_X7_cond6 (f_X9_advance (upI H 14 3 (iAdd (H.1 14 3) 1)))).2).1) = 0
          · rw [if_pos q5]
            exact (rp_X9_passSign 41 (f_X7_cond6 (f_X9_advance (upI H 14 3 (iAdd (H.1 14 3) 1)))).2 (rp_X7_cond6 (f_X9_advance (upI H 14 3 (iAdd (H.1 14 3) 1))) (rp_X9_advance (upI H 14 3 (iAdd (H.1 14 3) 1)) hr)))
          · rw [if_neg q5]
            exact (rp_X9_passSign 41 (f_X7_cond6 (f_X9_advance (upI H 14 3 (iAdd (H.1 14 3) 1)))).2 (rp_X7_cond6 (f_X9_advance (upI H 14 3 (iAdd (H.1 14 3) 1))) (rp_X9_advance (upI H 14 3 (iAdd (H.1 14 3) 1)) hr)))
    · rw [if_neg q2]
      exact (rp_X9_fail 4 H hr)
def f_X7_al7 : Nat → hH → Int × hH
  | 0, H => (1, H)
  | k + 1, H =>
    if f_X9_isAtWord 17 H = 0 then
      (1, H)
    else
      if ((f_X7_one7 (f_X9_advance H)).1) = 0 then
        (0, (f_X7_one7 (f_X9_advance H)).2)
      else
        f_X7_al7 k (f_X6_addStep 17 0 0 (f_X7_one7 (f_X9_advance H)).2)
set_option maxHeartbeats 16000000 in
set_option maxRecDepth 100000 in
theorem lp_X7_al7 {g : Nat → Nat} : ∀ (k i : Nat) (H : hH), i + k = 200 → RS H.2.2.1 → J g rvTab rvInf rvRet 316 rvMth 113 (fun res => res.1 = some (pt (f_X7_al7 k H).1) ∧ RH g res.2 (f_X7_al7 k H).2) 12 [rf (g 14), pt 2, pt (i : Int)] [] H := by
  intro k
  induction k with
  | zero =>
    intro i H hk hr
    have hj : 113 < 316 := by decide
    refine J_ld 13 jw hj rfl rfl rfl rfl ?_
    refine J_cst 16 jw hj rfl rfl rfl ?_
    refine J_icmp (t := 65) jw hj rfl (evn rfl) rfl (fun (h0 : ¬ (i : Int) < 200) => ?_) (fun (h0 : (i : Int) < 200) => ?_)
    · refine J_cst 66 jw hj rfl rfl rfl ?_
      exact J_ret rfl (Or.inl rfl) (fun aw hR => ⟨rfl, hR⟩)
    · exact absurd h0 (by omega)
  | succ k ih =>
    intro i H hk hr
    have hj : 113 < 316 := by decide
    refine J_ld 13 jw hj rfl rfl rfl rfl ?_
    refine J_cst 16 jw hj rfl rfl rfl ?_
    refine J_icmp (t := 65) jw hj rfl (evn rfl) rfl (fun (h0 : ¬ (i : Int) < 200) => ?_) (fun (h0 : (i : Int) < 200) => ?_)
    · refine J_cst 66 jw hj rfl rfl rfl ?_
      exact absurd (show (i : Int) < 200 by omega) h0
    · refine J_ld 20 jw hj rfl rfl rfl rfl ?_
      refine J_gfR (k := 4) jw hj rfl (evn rfl) (by decide) (by decide) (RSa hr rfl) ?_
      refine J_cst 25 jw hj rfl rfl rfl ?_
      refine J_callV1 jw rfl (Or.inl ⟨_, rfl⟩) rfl rfl (sp_X9_isAtWord (g := g) 17 H) ?_
      refine J_ifc (t := 65) jw hj rfl (evn rfl) rfl (fun (h1 : f_X9_isAtWord 17 H = 0) => ?_) (fun (h1 : ¬ f_X9_isAtWord 17 H = 0) => ?_)
      · refine J_cst 66 jw hj rfl rfl rfl ?_
        exact J_ret rfl (Or.inl rfl) (fun aw hR => by show _ ∧ _; rw [f_X7_al7]; rw [if_pos h1]; exact ⟨rfl, hR⟩)
      · refine J_ld 32 jw hj rfl rfl rfl rfl ?_
        refine J_gfR (k := 4) jw hj rfl (evn rfl) (by decide) (by decide) (RSa hr rfl) ?_
        refine J_callV0 jw rfl (Or.inl ⟨_, rfl⟩) rfl rfl (st_X9_advance (g := g) H (RSt hr)) ?_
        refine J_ld 39 jw hj rfl rfl rfl rfl ?_
        refine J_ld 40 jw hj rfl rfl rfl rfl ?_
        refine J_callV1 jw rfl (Or.inl ⟨_, rfl⟩) rfl rfl (sp_X7_one7 (g := g) (f_X9_advance H) (rp_X9_advance H hr)) ?_
        refine J_ifc (t := 48) jw hj rfl (evn rfl) rfl (fun (h2 : ¬ ((f_X7_one7 (f_X9_advance H)).1) = 0) => ?_) (fun (h2 : ((f_X7_one7 (f_X9_advance H)).1) = 0) => ?_)
        · refine J_ld 49 jw hj rfl rfl rfl rfl ?_
          refine J_gfR (k := 60) jw hj rfl (evn rfl) (by decide) (by decide) (RSa (rp_X7_one7 (f_X9_advance H) (rp_X9_advance H hr)) rfl) ?_
          refine J_cst 54 jw hj rfl rfl rfl ?_
          refine J_cst 55 jw hj rfl rfl rfl ?_
          refine J_cst 56 jw hj rfl rfl rfl ?_
          refine J_callV0 jw rfl (Or.inl ⟨_, rfl⟩) rfl rfl (sp_X6_addStep (g := g) 17 0 0 (f_X7_one7 (f_X9_advance H)).2 (rp_X7_one7 (f_X9_advance H) (rp_X9_advance H hr))) ?_
          refine J_iinc (al' := [rf (g 14), pt 2, pt (iAdd (i : Int) 1)]) jw hj rfl (evn rfl) rfl rfl ?_
          refine J_goto 12 jw hj rfl rfl ?_
          rw [show iAdd (i : Int) 1 = ((i + 1 : Nat) : Int) from iAdd_1 (by omega)]
          have e2 : f_X7_al7 (k + 1) H = f_X7_al7 k (f_X6_addStep 17 0 0 (f_X7_one7 (f_X9_advance H)).2) := by
            rw [f_X7_al7]
            rw [if_neg h1, if_neg h2]
          rw [e2]
          exact ih (i + 1) (f_X6_addStep 17 0 0 (f_X7_one7 (f_X9_advance H)).2) (by omega) (rp_X6_addStep 17 0 0 (f_X7_one7 (f_X9_advance H)).2 (rp_X7_one7 (f_X9_advance H) (rp_X9_advance H hr)))
        · refine J_cst 47 jw hj rfl rfl rfl ?_
          exact J_ret rfl (Or.inl rfl) (fun aw hR => by show _ ∧ _; rw [f_X7_al7]; rw [if_neg h1, if_pos h2]; exact ⟨rfl, hR⟩)
theorem rp_X7_al7 {P : (Nat → Nat → Option Nat) → Prop} : ∀ (k : Nat) (H : hH), P H.2.2.1 → P (f_X7_al7 k H).2.2.2.1 := by
  intro k
  induction k with
  | zero => intro H hr; exact hr
  | succ k ih =>
    intro H hr
    rw [f_X7_al7]
    by_cases q2 : f_X9_isAtWord 17 H = 0
    · rw [if_pos q2]
      exact hr
    · rw [if_neg q2]
      by_cases q3 : ((f_X7_one7 (f_X9_advance H)).1) = 0
      · rw [if_pos q3]
        exact (rp_X7_one7 (f_X9_advance H) (rp_X9_advance H hr))
      · rw [if_neg q3]
        exact ih (f_X6_addStep 17 0 0 (f_X7_one7 (f_X9_advance H)).2) (rp_X6_addStep 17 0 0 (f_X7_one7 (f_X9_advance H)).2 (rp_X7_one7 (f_X9_advance H) (rp_X9_advance H hr)))
def f_X7_all7  (H : hH) : Int × hH :=
  if ((f_X7_one7 H).1) = 0 then
    (0, (f_X7_one7 H).2)
  else
    ((f_X7_al7 200 (f_X7_one7 H).2).1, (f_X7_al7 200 (f_X7_one7 H).2).2)
set_option maxHeartbeats 16000000 in
set_option maxRecDepth 100000 in
theorem sp_X7_all7 {g : Nat → Nat}  (H : hH) (hr : RS H.2.2.1) : SP g rvTab rvInf rvRet 316 rvMth 113 [rf (g 14), pt 2] H (some (pt (f_X7_all7 H).1)) (f_X7_all7 H).2 := by
  have hj : 113 < 316 := by decide
  refine J_SP hj (Nat.le_of_ble_eq_true rfl) ?_
  show J g rvTab rvInf rvRet 316 rvMth 113 _ 0 [rf (g 14), pt 2, rvU] [] H
  refine J_ld 1 jw hj rfl rfl rfl rfl ?_
  refine J_ld 2 jw hj rfl rfl rfl rfl ?_
  refine J_callV1 jw rfl (Or.inl ⟨_, rfl⟩) rfl rfl (sp_X7_one7 (g := g) H hr) ?_
  refine J_ifc (t := 10) jw hj rfl (evn rfl) rfl (fun (h0 : ¬ ((f_X7_one7 H).1) = 0) => ?_) (fun (h0 : ((f_X7_one7 H).1) = 0) => ?_)
  · refine J_cst 11 jw hj rfl rfl rfl ?_
    refine J_st 12 [rf (g 14), pt 2, pt 0] (k := 2) jw hj rfl (Or.inr (Or.inr (Or.inl ⟨_, rfl, rfl, rfl⟩))) rfl ?_
    have e : f_X7_all7 H = (f_X7_al7 200 (f_X7_one7 H).2) := by
      unfold f_X7_all7
      rw [if_neg h0]
    rw [e]
    exact lp_X7_al7 200 0 (f_X7_one7 H).2 rfl (rp_X7_one7 H hr)
  · refine J_cst 9 jw hj rfl rfl rfl ?_
    exact J_ret rfl (Or.inl rfl) (fun aw hR => by show _ ∧ _; unfold f_X7_all7; rw [if_pos h0]; exact ⟨rfl, hR⟩)
theorem rp_X7_all7 {P : (Nat → Nat → Option Nat) → Prop}  (H : hH) (hr : P H.2.2.1) : P (f_X7_all7 H).2.2.2.1 := by
  unfold f_X7_all7
  by_cases q1 : ((f_X7_one7 H).1) = 0
  · rw [if_pos q1]
    exact (rp_X7_one7 H hr)
  · rw [if_neg q1]
    exact (rp_X7_al7 200 (f_X7_one7 H).2 (rp_X7_one7 H hr))
def f_X7_cl7 : Nat → hH → Int × hH
  | 0, H => (1, H)
  | k + 1, H =>
    if f_X9_isAtWord 16 H = 0 then
      (1, H)
    else
      if ((f_X7_all7 (f_X9_advance H)).1) = 0 then
        (0, (f_X7_all7 (f_X9_advance H)).2)
      else
        f_X7_cl7 k (f_X6_addStep 16 0 0 (f_X7_all7 (f_X9_advance H)).2)
set_option maxHeartbeats 16000000 in
set_option maxRecDepth 100000 in
theorem lp_X7_cl7 {g : Nat → Nat} : ∀ (k i : Nat) (H : hH), i + k = 200 → RS H.2.2.1 → J g rvTab rvInf rvRet 316 rvMth 114 (fun res => res.1 = some (pt (f_X7_cl7 k H).1) ∧ RH g res.2 (f_X7_cl7 k H).2) 12 [rf (g 14), pt 2, pt (i : Int)] [] H := by
  intro k
  induction k with
  | zero =>
    intro i H hk hr
    have hj : 114 < 316 := by decide
    refine J_ld 13 jw hj rfl rfl rfl rfl ?_
    refine J_cst 16 jw hj rfl rfl rfl ?_
    refine J_icmp (t := 65) jw hj rfl (evn rfl) rfl (fun (h0 : ¬ (i : Int) < 200) => ?_) (fun (h0 : (i : Int) < 200) => ?_)
    · refine J_cst 66 jw hj rfl rfl rfl ?_
      exact J_ret rfl (Or.inl rfl) (fun aw hR => ⟨rfl, hR⟩)
    · exact absurd h0 (by omega)
  | succ k ih =>
    intro i H hk hr
    have hj : 114 < 316 := by decide
    refine J_ld 13 jw hj rfl rfl rfl rfl ?_
    refine J_cst 16 jw hj rfl rfl rfl ?_
    refine J_icmp (t := 65) jw hj rfl (evn rfl) rfl (fun (h0 : ¬ (i : Int) < 200) => ?_) (fun (h0 : (i : Int) < 200) => ?_)
    · refine J_cst 66 jw hj rfl rfl rfl ?_
      exact absurd (show (i : Int) < 200 by omega) h0
    · refine J_ld 20 jw hj rfl rfl rfl rfl ?_
      refine J_gfR (k := 4) jw hj rfl (evn rfl) (by decide) (by decide) (RSa hr rfl) ?_
      refine J_cst 25 jw hj rfl rfl rfl ?_
      refine J_callV1 jw rfl (Or.inl ⟨_, rfl⟩) rfl rfl (sp_X9_isAtWord (g := g) 16 H) ?_
      refine J_ifc (t := 65) jw hj rfl (evn rfl) rfl (fun (h1 : f_X9_isAtWord 16 H = 0) => ?_) (fun (h1 : ¬ f_X9_isAtWord 16 H = 0) => ?_)
      · refine J_cst 66 jw hj rfl rfl rfl ?_
        exact J_ret rfl (Or.inl rfl) (fun aw hR => by show _ ∧ _; rw [f_X7_cl7]; rw [if_pos h1]; exact ⟨rfl, hR⟩)
      · refine J_ld 32 jw hj rfl rfl rfl rfl ?_
        refine J_gfR (k := 4) jw hj rfl (evn rfl) (by decide) (by decide) (RSa hr rfl) ?_
        refine J_callV0 jw rfl (Or.inl ⟨_, rfl⟩) rfl rfl (st_X9_advance (g := g) H (RSt hr)) ?_
        refine J_ld 39 jw hj rfl rfl rfl rfl ?_
        refine J_ld 40 jw hj rfl rfl rfl rfl ?_
        refine J_callV1 jw rfl (Or.inl ⟨_, rfl⟩) rfl rfl (sp_X7_all7 (g := g) (f_X9_advance H) (rp_X9_advance H hr)) ?_
        refine J_ifc (t := 48) jw hj rfl (evn rfl) rfl (fun (h2 : ¬ ((f_X7_all7 (f_X9_advance H)).1) = 0) => ?_) (fun (h2 : ((f_X7_all7 (f_X9_advance H)).1) = 0) => ?_)
        · refine J_ld 49 jw hj rfl rfl rfl rfl ?_
          refine J_gfR (k := 60) jw hj rfl (evn rfl) (by decide) (by decide) (RSa (rp_X7_all7 (f_X9_advance H) (rp_X9_advance H hr)) rfl) ?_
          refine J_cst 54 jw hj rfl rfl rfl ?_
          refine J_cst 55 jw hj rfl rfl rfl ?_
          refine J_cst 56 jw hj rfl rfl rfl ?_
          refine J_callV0 jw rfl (Or.inl ⟨_, rfl⟩) rfl rfl (sp_X6_addStep (g := g) 16 0 0 (f_X7_all7 (f_X9_advance H)).2 (rp_X7_all7 (f_X9_advance H) (rp_X9_advance H hr))) ?_
          refine J_iinc (al' := [rf (g 14), pt 2, pt (iAdd (i : Int) 1)]) jw hj rfl (evn rfl) rfl rfl ?_
          refine J_goto 12 jw hj rfl rfl ?_
          rw [show iAdd (i : Int) 1 = ((i + 1 : Nat) : Int) from iAdd_1 (by omega)]
          have e2 : f_X7_cl7 (k + 1) H = f_X7_cl7 k (f_X6_addStep 16 0 0 (f_X7_all7 (f_X9_advance H)).2) := by
            rw [f_X7_cl7]
            rw [if_neg h1, if_neg h2]
          rw [e2]
          exact ih (i + 1) (f_X6_addStep 16 0 0 (f_X7_all7 (f_X9_advance H)).2) (by omega) (rp_X6_addStep 16 0 0 (f_X7_all7 (f_X9_advance H)).2 (rp_X7_all7 (f_X9_advance H) (rp_X9_advance H hr)))
        · refine J_cst 47 jw hj rfl rfl rfl ?_
          exact J_ret rfl (Or.inl rfl) (fun aw hR => by show _ ∧ _; rw [f_X7_cl7]; rw [if_neg h1, if_pos h2]; exact ⟨rfl, hR⟩)
theorem rp_X7_cl7 {P : (Nat → Nat → Option Nat) → Prop} : ∀ (k : Nat) (H : hH), P H.2.2.1 → P (f_X7_cl7 k H).2.2.2.1 := by
  intro k
  induction k with
  | zero => intro H hr; exact hr
  | succ k ih =>
    intro H hr
    rw [f_X7_cl7]
    by_cases q2 : f_X9_isAtWord 16 H = 0
    · rw [if_pos q2]
      exact hr
    · rw [if_neg q2]
      by_cases q3 : ((f_X7_all7 (f_X9_advance H)).1) = 0
      · rw [if_pos q3]
        exact (rp_X7_all7 (f_X9_advance H) (rp_X9_advance H hr))
      · rw [if_neg q3]
        exact ih (f_X6_addStep 16 0 0 (f_X7_all7 (f_X9_advance H)).2) (rp_X6_addStep 16 0 0 (f_X7_all7 (f_X9_advance H)).2 (rp_X7_all7 (f_X9_advance H) (rp_X9_advance H hr)))
def f_X7_cond7  (H : hH) : Int × hH :=
  if ((f_X7_all7 H).1) = 0 then
    (0, (f_X7_all7 H).2)
  else
    ((f_X7_cl7 200 (f_X7_all7 H).2).1, (f_X7_cl7 200 (f_X7_all7 H).2).2)
set_option maxHeartbeats 16000000 in
set_option maxRecDepth 100000 in
theorem sp_X7_cond7 {g : Nat → Nat}  (H : hH) (hr : RS H.2.2.1) : SP g rvTab rvInf rvRet 316 rvMth 114 [rf (g 14), pt 2] H (some (pt (f_X7_cond7 H).1)) (f_X7_cond7 H).2 := by
  have hj : 114 < 316 := by decide
  refine J_SP hj (Nat.le_of_ble_eq_true rfl) ?_
  show J g rvTab rvInf rvRet 316 rvMth 114 _ 0 [rf (g 14), pt 2, rvU] [] H
  refine J_ld 1 jw hj rfl rfl rfl rfl ?_
  refine J_ld 2 jw hj rfl rfl rfl rfl ?_
  refine J_callV1 jw rfl (Or.inl ⟨_, rfl⟩) rfl rfl (sp_X7_all7 (g := g) H hr) ?_
  refine J_ifc (t := 10) jw hj rfl (evn rfl) rfl (fun (h0 : ¬ ((f_X7_all7 H).1) = 0) => ?_) (fun (h0 : ((f_X7_all7 H).1) = 0) => ?_)
  · refine J_cst 11 jw hj rfl rfl rfl ?_
    refine J_st 12 [rf (g 14), pt 2, pt 0] (k := 2) jw hj rfl (Or.inr (Or.inr (Or.inl ⟨_, rfl, rfl, rfl⟩))) rfl ?_
    have e : f_X7_cond7 H = (f_X7_cl7 200 (f_X7_all7 H).2) := by
      unfold f_X7_cond7
      rw [if_neg h0]
    rw [e]
    exact lp_X7_cl7 200 0 (f_X7_all7 H).2 rfl (rp_X7_all7 H hr)
  · refine J_cst 9 jw hj rfl rfl rfl ?_
    exact J_ret rfl (Or.inl rfl) (fun aw hR => by show _ ∧ _; unfold f_X7_cond7; rw [if_pos h0]; exact ⟨rfl, hR⟩)
theorem rp_X7_cond7 {P : (Nat → Nat → Option Nat) → Prop}  (H : hH) (hr : P H.2.2.1) : P (f_X7_cond7 H).2.2.2.1 := by
  unfold f_X7_cond7
  by_cases q1 : ((f_X7_all7 H).1) = 0
  · rw [if_pos q1]
    exact (rp_X7_all7 H hr)
  · rw [if_neg q1]
    exact (rp_X7_cl7 200 (f_X7_all7 H).2 (rp_X7_all7 H hr))
def f_X7_one8  (H : hH) : Int × hH :=
  if f_X9_isAtSign 40 H = 0 then
    if H.1 4 10 = 4 then
      if f_X7_beginsOne (H.1 4 11) = 0 then
        ((f_X9_fail 1 H).1, (f_X9_fail 1 H).2)
      else
        if H.1 14 3 < 20 then
          if f_X9_isAtSign 40 H = 0 then
            if H.1 4 11 = 18 then
              ((f_X7_one7 (f_X9_advance (upI H 14 3 (iAdd (H.1 14 3) 1)))).1, (f_X6_addStep 18 0 0 (f_X7_one7 (f_X9_advance (upI H 14 3 (iAdd (H.1 14 3) 1)))).2))
            else
              if H.1 4 11 = 5 then
                ((f_X7_readNamed (H.1 4 11) 3 (f_X9_advance (upI H 14 3 (iAdd (H.1 14 3) 1)))).1, (f_X7_readNamed (H.1 4 11) 3 (f_X9_advance (upI H 14 3 (iAdd (H.1 14 3) 1)))).2)
              else
                if H.1 4 11 = 19 then
                  ((f_X7_readNamed (H.1 4 11) 0 (f_X9_advance (upI H 14 3 (iAdd (H.1 14 3) 1)))).1, (f_X7_readNamed (H.1 4 11) 0 (f_X9_advance (upI H 14 3 (iAdd (H.1 14 3) 1)))).2)
                else
                  if H.1 4 11 = 4 then
                    ((f_X7_readNamed (H.1 4 11) 1 (f_X9_advance (upI H 14 3 (iAdd (H.1 14 3) 1)))).1, (f_X7_readNamed (H.1 4 11) 1 (f_X9_advance (upI H 14 3 (iAdd (H.1 14 3) 1)))).2)
                  else
                    if H.1 4 11 = 20 ∨ H.1 4 11 = 21 ∨ H.1 4 11 = 22 then
                      ((f_X7_readComparison (H.1 4 11) (f_X9_advance (upI H 14 3 (iAdd (H.1 14 3) 1)))).1, (f_X7_readComparison (H.1 4 11) (f_X9_advance (upI H 14 3 (iAdd (H.1 14 3) 1)))).2)
                    else
                      (1, (f_X6_addStep (H.1 4 11) 0 0 (f_X9_advance (upI H 14 3 (iAdd (H.1 14 3) 1)))))
          else
            if ((f_X7_cond7 (f_X9_advance (upI H 14 3 (iAdd (H.1 14 3) 1)))).1) = 0 then
              (0, (f_X7_cond7 (f_X9_advance (upI H 14 3 (iAdd (H.1 14 3) 1)))).2)
            else
              if ((f_X9_passSign 41 (f_X7_cond7 (f_X9_advance (upI H 14 3 (iAdd (H.1 14 3) 1)))).2).1) = 0 then
                (0, (f_X9_passSign 41 (f_X7_cond7 (f_X9_advance (upI H 14 3 (iAdd (H.1 14 3) 1)))).2).2)
              else
                (1, (f_X9_passSign 41 (f_X7_cond7 (f_X9_advance (upI H 14 3 (iAdd (H.1 14 3) 1)))).2).2)
        else
          ((f_X9_fail 4 H).1, (f_X9_fail 4 H).2)
    else
      ((f_X9_fail 1 H).1, (f_X9_fail 1 H).2)
  else
    if H.1 14 3 < 20 then
      if f_X9_isAtSign 40 H = 0 then
        if H.1 4 11 = 18 then
          ((f_X7_one7 (f_X9_advance (upI H 14 3 (iAdd (H.1 14 3) 1)))).1, (f_X6_addStep 18 0 0 (f_X7_one7 (f_X9_advance (upI H 14 3 (iAdd (H.1 14 3) 1)))).2))
        else
          if H.1 4 11 = 5 then
            ((f_X7_readNamed (H.1 4 11) 3 (f_X9_advance (upI H 14 3 (iAdd (H.1 14 3) 1)))).1, (f_X7_readNamed (H.1 4 11) 3 (f_X9_advance (upI H 14 3 (iAdd (H.1 14 3) 1)))).2)
          else
            if H.1 4 11 = 19 then
              ((f_X7_readNamed (H.1 4 11) 0 (f_X9_advance (upI H 14 3 (iAdd (H.1 14 3) 1)))).1, (f_X7_readNamed (H.1 4 11) 0 (f_X9_advance (upI H 14 3 (iAdd (H.1 14 3) 1)))).2)
            else
              if H.1 4 11 = 4 then
                ((f_X7_readNamed (H.1 4 11) 1 (f_X9_advance (upI H 14 3 (iAdd (H.1 14 3) 1)))).1, (f_X7_readNamed (H.1 4 11) 1 (f_X9_advance (upI H 14 3 (iAdd (H.1 14 3) 1)))).2)
              else
                if H.1 4 11 = 20 ∨ H.1 4 11 = 21 ∨ H.1 4 11 = 22 then
                  ((f_X7_readComparison (H.1 4 11) (f_X9_advance (upI H 14 3 (iAdd (H.1 14 3) 1)))).1, (f_X7_readComparison (H.1 4 11) (f_X9_advance (upI H 14 3 (iAdd (H.1 14 3) 1)))).2)
                else
                  (1, (f_X6_addStep (H.1 4 11) 0 0 (f_X9_advance (upI H 14 3 (iAdd (H.1 14 3) 1)))))
      else
        if ((f_X7_cond7 (f_X9_advance (upI H 14 3 (iAdd (H.1 14 3) 1)))).1) = 0 then
          (0, (f_X7_cond7 (f_X9_advance (upI H 14 3 (iAdd (H.1 14 3) 1)))).2)
        else
          if ((f_X9_passSign 41 (f_X7_cond7 (f_X9_advance (upI H 14 3 (iAdd (H.1 14 3) 1)))).2).1) = 0 then
            (0, (f_X9_passSign 41 (f_X7_cond7 (f_X9_advance (upI H 14 3 (iAdd (H.1 14 3) 1)))).2).2)
          else
            (1, (f_X9_passSign 41 (f_X7_cond7 (f_X9_advance (upI H 14 3 (iAdd (H.1 14 3) 1)))).2).2)
    else
      ((f_X9_fail 4 H).1, (f_X9_fail 4 H).2)
set_option maxHeartbeats 16000000 in
set_option maxRecDepth 100000 in
theorem sp_X7_one8 {g : Nat → Nat}  (H : hH) (hr : RS H.2.2.1) : SP g rvTab rvInf rvRet 316 rvMth 115 [rf (g 14), pt 1] H (some (pt (f_X7_one8 H).1)) (f_X7_one8 H).2 := by
  have hj : 115 < 316 := by decide
  refine J_SP hj (Nat.le_of_ble_eq_true rfl) ?_
  show J g rvTab rvInf rvRet 316 rvMth 115 _ 0 [rf (g 14), pt 1, rvU, rvU, rvU] [] H
  refine J_ld 1 jw hj rfl rfl rfl rfl ?_
  refine J_gfR (k := 4) jw hj rfl (evn rfl) (by decide) (by decide) (RSa hr rfl) ?_
  refine J_cst 6 jw hj rfl rfl rfl ?_
  refine J_callV1 jw rfl (Or.inl ⟨_, rfl⟩) rfl rfl (sp_X9_isAtSign (g := g) 40 H) ?_
  refine J_st 10 [rf (g 14), pt 1, pt (f_X9_isAtSign 40 H), rvU, rvU] (k := 2) jw hj rfl (Or.inr (Or.inr (Or.inl ⟨_, rfl, rfl, rfl⟩))) rfl ?_
  refine J_ld 11 jw hj rfl rfl rfl rfl ?_
  refine J_gfR (k := 4) jw hj rfl (evn rfl) (by decide) (by decide) (RSa hr rfl) ?_
  refine J_gfI jw hj rfl (evn rfl) (by decide) rfl (fun r0 => ?_)
  refine J_st 18 [rf (g 14), pt 1, pt (f_X9_isAtSign 40 H), pt (H.1 4 11), rvU] (k := 3) jw hj rfl (Or.inr (Or.inr (Or.inl ⟨_, rfl, rfl, rfl⟩))) rfl ?_
  refine J_ld 19 jw hj rfl rfl rfl rfl ?_
  refine J_ifc (t := 49) jw hj rfl (evn rfl) rfl (fun (h0 : ¬ f_X9_isAtSign 40 H = 0) => ?_) (fun (h0 : f_X9_isAtSign 40 H = 0) => ?_)
  · refine J_ld 50 jw hj rfl rfl rfl rfl ?_
    refine J_gfI jw hj rfl (evn rfl) (by decide) rfl (fun r1 => ?_)
    refine J_cst 55 jw hj rfl rfl rfl ?_
    refine J_icmp (t := 64) jw hj rfl (evn rfl) rfl (fun (h1 : ¬ H.1 14 3 < 20) => ?_) (fun (h1 : H.1 14 3 < 20) => ?_)
    · refine J_ld 65 jw hj rfl rfl rfl rfl ?_
      refine J_gfR (k := 4) jw hj rfl (evn rfl) (by decide) (by decide) (RSa hr rfl) ?_
      refine J_cst 69 jw hj rfl rfl rfl ?_
      refine J_callV1 jw rfl (Or.inl ⟨_, rfl⟩) rfl rfl (st_X9_fail (g := g) 4 H (RSt hr)) ?_
      exact J_ret rfl (Or.inl rfl) (fun aw hR => by show _ ∧ _; unfold f_X7_one8; rw [if_neg h0, if_neg h1]; exact ⟨rfl, hR⟩)
    · refine J_ld 59 jw hj rfl rfl rfl rfl ?_
      refine J_cst 61 jw hj rfl rfl rfl ?_
      refine J_icmp (t := 73) jw hj rfl (evn rfl) rfl (fun (h2 : ¬ (8 : Int) < (1 : Int)) => ?_) (fun (h2 : (8 : Int) < (1 : Int)) => absurd h2 (by decide))
      refine J_ld 74 jw hj rfl rfl rfl rfl ?_
      refine J_dup 75 jw hj rfl rfl ?_
      refine J_gfI jw hj rfl (evn rfl) (by decide) rfl (fun r2 => ?_)
      refine J_cst 79 jw hj rfl rfl rfl ?_
      refine J_bin jw hj rfl rfl ?_
      refine J_pfI jw hj rfl (evn rfl) rfl ?_
      refine J_ld 84 jw hj rfl rfl rfl rfl ?_
      refine J_gfR (k := 4) jw hj rfl (evn rfl) (by decide) (by decide) (RSa hr rfl) ?_
      refine J_callV0 jw rfl (Or.inl ⟨_, rfl⟩) rfl rfl (st_X9_advance (g := g) (upI H 14 3 (iAdd (H.1 14 3) 1)) (RSt hr)) ?_
      refine J_ld 91 jw hj rfl rfl rfl rfl ?_
      refine J_ifc (t := 122) jw hj rfl (evn rfl) rfl (fun (h3 : f_X9_isAtSign 40 H = 0) => ?_) (fun (h3 : ¬ f_X9_isAtSign 40 H = 0) => ?_)
      · refine J_ld 123 jw hj rfl rfl rfl rfl ?_
        refine J_cst 125 jw hj rfl rfl rfl ?_
        refine J_icmp (t := 151) jw hj rfl (evn rfl) rfl (fun (h4 : ¬ H.1 4 11 = 18) => ?_) (fun (h4 : H.1 4 11 = 18) => ?_)
        · refine J_ld 152 jw hj rfl rfl rfl rfl ?_
          refine J_swR jw hj rfl (fun (h5 : H.1 4 11 = 5) => ?_) (fun (h5 : H.1 4 11 = 19) => ?_) (fun (h5 : H.1 4 11 = 4) => ?_) (fun (h5 : H.1 4 11 = 20 ∨ H.1 4 11 = 21 ∨ H.1 4 11 = 22) => ?_) (fun h5 h5_b h5_c h5_d => ?_)
          · refine J_ld 245 jw hj rfl rfl rfl rfl ?_
            refine J_ld 246 jw hj rfl rfl rfl rfl ?_
            refine J_cst 247 jw hj rfl rfl rfl ?_
            refine J_callV1 jw rfl (Or.inl ⟨_, rfl⟩) rfl rfl (sp_X7_readNamed (g := g) (H.1 4 11) 3 (f_X9_advance (upI H 14 3 (iAdd (H.1 14 3) 1))) (rp_X9_advance (upI H 14 3 (iAdd (H.1 14 3) 1)) hr)) ?_
            exact J_ret rfl (Or.inl rfl) (fun aw hR => by show _ ∧ _; unfold f_X7_one8; rw [if_neg h0, if_pos h1, if_pos h3, if_neg h4, if_pos h5]; exact ⟨rfl, hR⟩)
          · refine J_ld 252 jw hj rfl rfl rfl rfl ?_
            refine J_ld 253 jw hj rfl rfl rfl rfl ?_
            refine J_cst 254 jw hj rfl rfl rfl ?_
            refine J_callV1 jw rfl (Or.inl ⟨_, rfl⟩) rfl rfl (sp_X7_readNamed (g := g) (H.1 4 11) 0 (f_X9_advance (upI H 14 3 (iAdd (H.1 14 3) 1))) (rp_X9_advance (upI H 14 3 (iAdd (H.1 14 3) 1)) hr)) ?_
            exact J_ret rfl (Or.inl rfl) (fun aw hR => by show _ ∧ _; unfold f_X7_one8; rw [if_neg h0, if_pos h1, if_pos h3, if_neg h4, if_neg (show ¬ (H.1 4 11 = 5) by omega), if_pos h5]; exact ⟨rfl, hR⟩)
          · refine J_ld 259 jw hj rfl rfl rfl rfl ?_
            refine J_ld 260 jw hj rfl rfl rfl rfl ?_
            refine J_cst 261 jw hj rfl rfl rfl ?_
            refine J_callV1 jw rfl (Or.inl ⟨_, rfl⟩) rfl rfl (sp_X7_readNamed (g := g) (H.1 4 11) 1 (f_X9_advance (upI H 14 3 (iAdd (H.1 14 3) 1))) (rp_X9_advance (upI H 14 3 (iAdd (H.1 14 3) 1)) hr)) ?_
            exact J_ret rfl (Or.inl rfl) (fun aw hR => by show _ ∧ _; unfold f_X7_one8; rw [if_neg h0, if_pos h1, if_pos h3, if_neg h4, if_neg (show ¬ (H.1 4 11 = 5) by omega), if_neg (show ¬ (H.1 4 11 = 19) by omega), if_pos h5]; exact ⟨rfl, hR⟩)
          · refine J_ld 266 jw hj rfl rfl rfl rfl ?_
            refine J_ld 267 jw hj rfl rfl rfl rfl ?_
            refine J_callV1 jw rfl (Or.inl ⟨_, rfl⟩) rfl rfl (sp_X7_readComparison (g := g) (H.1 4 11) (f_X9_advance (upI H 14 3 (iAdd (H.1 14 3) 1))) (rp_X9_advance (upI H 14 3 (iAdd (H.1 14 3) 1)) hr)) ?_
            exact J_ret rfl (Or.inl rfl) (fun aw hR => by show _ ∧ _; unfold f_X7_one8; rw [if_neg h0, if_pos h1, if_pos h3, if_neg h4, if_neg (show ¬ (H.1 4 11 = 5) by omega), if_neg (show ¬ (H.1 4 11 = 19) by omega), if_neg (show ¬ (H.1 4 11 = 4) by omega), if_pos h5]; exact ⟨rfl, hR⟩)
          · refine J_ld 272 jw hj rfl rfl rfl rfl ?_
            refine J_gfR (k := 60) jw hj rfl (evn rfl) (by decide) (by decide) (RSa (rp_X9_advance (upI H 14 3 (iAdd (H.1 14 3) 1)) hr) rfl) ?_
            refine J_ld 276 jw hj rfl rfl rfl rfl ?_
            refine J_cst 277 jw hj rfl rfl rfl ?_
            refine J_cst 278 jw hj rfl rfl rfl ?_
            refine J_callV0 jw rfl (Or.inl ⟨_, rfl⟩) rfl rfl (sp_X6_addStep (g := g) (H.1 4 11) 0 0 (f_X9_advance (upI H 14 3 (iAdd (H.1 14 3) 1))) (rp_X9_advance (upI H 14 3 (iAdd (H.1 14 3) 1)) hr)) ?_
            refine J_cst 282 jw hj rfl rfl rfl ?_
            exact J_ret rfl (Or.inl rfl) (fun aw hR => by show _ ∧ _; unfold f_X7_one8; rw [if_neg h0, if_pos h1, if_pos h3, if_neg h4, if_neg h5, if_neg h5_b, if_neg h5_c, if_neg h5_d]; exact ⟨rfl, hR⟩)
        · refine J_ld 129 jw hj rfl rfl rfl rfl ?_
          refine J_ld 130 jw hj rfl rfl rfl rfl ?_
          refine J_cst 131 jw hj rfl rfl rfl ?_
          refine J_bin jw hj rfl rfl ?_
          rw [show iop (· + ·) (1 : Int) 1 = 2 from by decide]
          refine J_callV1 jw rfl (Or.inl ⟨_, rfl⟩) rfl rfl (sp_X7_one7 (g := g) (f_X9_advance (upI H 14 3 (iAdd (H.1 14 3) 1))) (rp_X9_advance (upI H 14 3 (iAdd (H.1 14 3) 1)) hr)) ?_
          refine J_st 137 [rf (g 14), pt 1, pt (f_X9_isAtSign 40 H), pt (H.1 4 11), pt ((f_X7_one7 (f_X9_advance (upI H 14 3 (iAdd (H.1 14 3) 1)))).1)] (k := 4) jw hj rfl (Or.inl ⟨rfl, rfl⟩) rfl ?_
          refine J_ld 138 jw hj rfl rfl rfl rfl ?_
          refine J_gfR (k := 60) jw hj rfl (evn rfl) (by decide) (by decide) (RSa (rp_X7_one7 (f_X9_advance (upI H 14 3 (iAdd (H.1 14 3) 1))) (rp_X9_advance (upI H 14 3 (iAdd (H.1 14 3) 1)) hr)) rfl) ?_
          refine J_cst 143 jw hj rfl rfl rfl ?_
          refine J_cst 144 jw hj rfl rfl rfl ?_
          refine J_cst 145 jw hj rfl rfl rfl ?_
          refine J_callV0 jw rfl (Or.inl ⟨_, rfl⟩) rfl rfl (sp_X6_addStep (g := g) 18 0 0 (f_X7_one7 (f_X9_advance (upI H 14 3 (iAdd (H.1 14 3) 1)))).2 (rp_X7_one7 (f_X9_advance (upI H 14 3 (iAdd (H.1 14 3) 1))) (rp_X9_advance (upI H 14 3 (iAdd (H.1 14 3) 1)) hr))) ?_
          refine J_ld 150 jw hj rfl rfl rfl rfl ?_
          exact J_ret rfl (Or.inl rfl) (fun aw hR => by show _ ∧ _; unfold f_X7_one8; rw [if_neg h0, if_pos h1, if_pos h3, if_pos h4]; exact ⟨rfl, hR⟩)
      · refine J_ld 95 jw hj rfl rfl rfl rfl ?_
        refine J_ld 96 jw hj rfl rfl rfl rfl ?_
        refine J_cst 97 jw hj rfl rfl rfl ?_
        refine J_bin jw hj rfl rfl ?_
        rw [show iop (· + ·) (1 : Int) 1 = 2 from by decide]
        refine J_callV1 jw rfl (Or.inl ⟨_, rfl⟩) rfl rfl (sp_X7_cond7 (g := g) (f_X9_advance (upI H 14 3 (iAdd (H.1 14 3) 1))) (rp_X9_advance (upI H 14 3 (iAdd (H.1 14 3) 1)) hr)) ?_
        refine J_ifc (t := 120) jw hj rfl (evn rfl) rfl (fun (h6 : ((f_X7_cond7 (f_X9_advance (upI H 14 3 (iAdd (H.1 14 3) 1)))).1) = 0) => ?_) (fun (h6 : ¬ ((f_X7_cond7 (f_X9_advance (upI H 14 3 (iAdd (H.1 14 3) 1)))).1) = 0) => ?_)
        · refine J_cst 121 jw hj rfl rfl rfl ?_
          exact J_ret rfl (Or.inl rfl) (fun aw hR => by show _ ∧ _; unfold f_X7_one8; rw [if_neg h0, if_pos h1, if_neg h3, if_pos h6]; exact ⟨rfl, hR⟩)
        · refine J_ld 105 jw hj rfl rfl rfl rfl ?_
          refine J_gfR (k := 4) jw hj rfl (evn rfl) (by decide) (by decide) (RSa (rp_X7_cond7 (f_X9_advance (upI H 14 3 (iAdd (H.1 14 3) 1))) (rp_X9_advance (upI H 14 3 (iAdd (H.1 14 3) 1)) hr)) rfl) ?_
          refine J_cst 110 jw hj rfl rfl rfl ?_
          refine J_callV1 jw rfl (Or.inl ⟨_, rfl⟩) rfl rfl (st_X9_passSign (g := g) 41 (f_X7_cond7 (f_X9_advance (upI H 14 3 (iAdd (H.1 14 3) 1)))).2 (RSt (rp_X7_cond7 (f_X9_advance (upI H 14 3 (iAdd (H.1 14 3) 1))) (rp_X9_advance (upI H 14 3 (iAdd (H.1 14 3) 1)) hr)))) ?_
          refine J_ifc (t := 120) jw hj rfl (evn rfl) rfl (fun (h7 : ((f_X9_passSign 41 (f_X7_cond7 (f_X9_advance (upI H 14 3 (iAdd (H.1 14 3) 1)))).2).1) = 0) => ?_) (fun (h7 : ¬ ((f_X9_passSign 41 (f_X7_cond7 (f_X9_advance (upI H 14 3 (iAdd (H.1 14 3) 1)))).2).1) = 0) => ?_)
          · refine J_cst 121 jw hj rfl rfl rfl ?_
            exact J_ret rfl (Or.inl rfl) (fun aw hR => by show _ ∧ _; unfold f_X7_one8; rw [if_neg h0, if_pos h1, if_neg h3, if_neg h6, if_pos h7]; exact ⟨rfl, hR⟩)
          · refine J_cst 117 jw hj rfl rfl rfl ?_
            refine J_goto 121 jw hj rfl rfl ?_
            exact J_ret rfl (Or.inl rfl) (fun aw hR => by show _ ∧ _; unfold f_X7_one8; rw [if_neg h0, if_pos h1, if_neg h3, if_neg h6, if_neg h7]; exact ⟨rfl, hR⟩)
  · refine J_ld 23 jw hj rfl rfl rfl rfl ?_
    refine J_gfR (k := 4) jw hj rfl (evn rfl) (by decide) (by decide) (RSa hr rfl) ?_
    refine J_gfI jw hj rfl (evn rfl) (by decide) rfl (fun r3 => ?_)
    refine J_cst 30 jw hj rfl rfl rfl ?_
    refine J_icmp (t := 40) jw hj rfl (evn rfl) rfl (fun (h8 : ¬ H.1 4 10 = 4) => ?_) (fun (h8 : H.1 4 10 = 4) => ?_)
    · refine J_ld 41 jw hj rfl rfl rfl rfl ?_
      refine J_gfR (k := 4) jw hj rfl (evn rfl) (by decide) (by decide) (RSa hr rfl) ?_
      refine J_cst 45 jw hj rfl rfl rfl ?_
      refine J_callV1 jw rfl (Or.inl ⟨_, rfl⟩) rfl rfl (st_X9_fail (g := g) 1 H (RSt hr)) ?_
      exact J_ret rfl (Or.inl rfl) (fun aw hR => by show _ ∧ _; unfold f_X7_one8; rw [if_pos h0, if_neg h8]; exact ⟨rfl, hR⟩)
    · refine J_ld 34 jw hj rfl rfl rfl rfl ?_
      refine J_callS1 jw rfl rfl rfl rfl (sp_X7_beginsOne (g := g) (H.1 4 11) H) ?_
      refine J_ifc (t := 49) jw hj rfl (evn rfl) rfl (fun (h9 : ¬ f_X7_beginsOne (H.1 4 11) = 0) => ?_) (fun (h9 : f_X7_beginsOne (H.1 4 11) = 0) => ?_)
      · refine J_ld 50 jw hj rfl rfl rfl rfl ?_
        refine J_gfI jw hj rfl (evn rfl) (by decide) rfl (fun r4 => ?_)
        refine J_cst 55 jw hj rfl rfl rfl ?_
        refine J_icmp (t := 64) jw hj rfl (evn rfl) rfl (fun (h10 : ¬ H.1 14 3 < 20) => ?_) (fun (h10 : H.1 14 3 < 20) => ?_)
        · refine J_ld 65 jw hj rfl rfl rfl rfl ?_
          refine J_gfR (k := 4) jw hj rfl (evn rfl) (by decide) (by decide) (RSa hr rfl) ?_
          refine J_cst 69 jw hj rfl rfl rfl ?_
          refine J_callV1 jw rfl (Or.inl ⟨_, rfl⟩) rfl rfl (st_X9_fail (g := g) 4 H (RSt hr)) ?_
          exact J_ret rfl (Or.inl rfl) (fun aw hR => by show _ ∧ _; unfold f_X7_one8; rw [if_pos h0, if_pos h8, if_neg h9, if_neg h10]; exact ⟨rfl, hR⟩)
        · refine J_ld 59 jw hj rfl rfl rfl rfl ?_
          refine J_cst 61 jw hj rfl rfl rfl ?_
          refine J_icmp (t := 73) jw hj rfl (evn rfl) rfl (fun (h11 : ¬ (8 : Int) < (1 : Int)) => ?_) (fun (h11 : (8 : Int) < (1 : Int)) => absurd h11 (by decide))
          refine J_ld 74 jw hj rfl rfl rfl rfl ?_
          refine J_dup 75 jw hj rfl rfl ?_
          refine J_gfI jw hj rfl (evn rfl) (by decide) rfl (fun r5 => ?_)
          refine J_cst 79 jw hj rfl rfl rfl ?_
          refine J_bin jw hj rfl rfl ?_
          refine J_pfI jw hj rfl (evn rfl) rfl ?_
          refine J_ld 84 jw hj rfl rfl rfl rfl ?_
          refine J_gfR (k := 4) jw hj rfl (evn rfl) (by decide) (by decide) (RSa hr rfl) ?_
          refine J_callV0 jw rfl (Or.inl ⟨_, rfl⟩) rfl rfl (st_X9_advance (g := g) (upI H 14 3 (iAdd (H.1 14 3) 1)) (RSt hr)) ?_
          refine J_ld 91 jw hj rfl rfl rfl rfl ?_
          refine J_ifc (t := 122) jw hj rfl (evn rfl) rfl (fun (h12 : f_X9_isAtSign 40 H = 0) => ?_) (fun (h12 : ¬ f_X9_isAtSign 40 H = 0) => ?_)
          · refine J_ld 123 jw hj rfl rfl rfl rfl ?_
            refine J_cst 125 jw hj rfl rfl rfl ?_
            refine J_icmp (t := 151) jw hj rfl (evn rfl) rfl (fun (h13 : ¬ H.1 4 11 = 18) => ?_) (fun (h13 : H.1 4 11 = 18) => ?_)
            · refine J_ld 152 jw hj rfl rfl rfl rfl ?_
              refine J_swR jw hj rfl (fun (h14 : H.1 4 11 = 5) => ?_) (fun (h14 : H.1 4 11 = 19) => ?_) (fun (h14 : H.1 4 11 = 4) => ?_) (fun (h14 : H.1 4 11 = 20 ∨ H.1 4 11 = 21 ∨ H.1 4 11 = 22) => ?_) (fun h14 h14_b h14_c h14_d => ?_)
              · refine J_ld 245 jw hj rfl rfl rfl rfl ?_
                refine J_ld 246 jw hj rfl rfl rfl rfl ?_
                refine J_cst 247 jw hj rfl rfl rfl ?_
                refine J_callV1 jw rfl (Or.inl ⟨_, rfl⟩) rfl rfl (sp_X7_readNamed (g := g) (H.1 4 11) 3 (f_X9_advance (upI H 14 3 (iAdd (H.1 14 3) 1))) (rp_X9_advance (upI H 14 3 (iAdd (H.1 14 3) 1)) hr)) ?_
                exact J_ret rfl (Or.inl rfl) (fun aw hR => by show _ ∧ _; unfold f_X7_one8; rw [if_pos h0, if_pos h8, if_neg h9, if_pos h10, if_pos h12, if_neg h13, if_pos h14]; exact ⟨rfl, hR⟩)
              · refine J_ld 252 jw hj rfl rfl rfl rfl ?_
                refine J_ld 253 jw hj rfl rfl rfl rfl ?_
                refine J_cst 254 jw hj rfl rfl rfl ?_
                refine J_callV1 jw rfl (Or.inl ⟨_, rfl⟩) rfl rfl (sp_X7_readNamed (g := g) (H.1 4 11) 0 (f_X9_advance (upI H 14 3 (iAdd (H.1 14 3) 1))) (rp_X9_advance (upI H 14 3 (iAdd (H.1 14 3) 1)) hr)) ?_
                exact J_ret rfl (Or.inl rfl) (fun aw hR => by show _ ∧ _; unfold f_X7_one8; rw [if_pos h0, if_pos h8, if_neg h9, if_pos h10, if_pos h12, if_neg h13, if_neg (show ¬ (H.1 4 11 = 5) by omega), if_pos h14]; exact ⟨rfl, hR⟩)
              · refine J_ld 259 jw hj rfl rfl rfl rfl ?_
                refine J_ld 260 jw hj rfl rfl rfl rfl ?_
                refine J_cst 261 jw hj rfl rfl rfl ?_
                refine J_callV1 jw rfl (Or.inl ⟨_, rfl⟩) rfl rfl (sp_X7_readNamed (g := g) (H.1 4 11) 1 (f_X9_advance (upI H 14 3 (iAdd (H.1 14 3) 1))) (rp_X9_advance (upI H 14 3 (iAdd (H.1 14 3) 1)) hr)) ?_
                exact J_ret rfl (Or.inl rfl) (fun aw hR => by show _ ∧ _; unfold f_X7_one8; rw [if_pos h0, if_pos h8, if_neg h9, if_pos h10, if_pos h12, if_neg h13, if_neg (show ¬ (H.1 4 11 = 5) by omega), if_neg (show ¬ (H.1 4 11 = 19) by omega), if_pos h14]; exact ⟨rfl, hR⟩)
              · refine J_ld 266 jw hj rfl rfl rfl rfl ?_
                refine J_ld 267 jw hj rfl rfl rfl rfl ?_
                refine J_callV1 jw rfl (Or.inl ⟨_, rfl⟩) rfl rfl (sp_X7_readComparison (g := g) (H.1 4 11) (f_X9_advance (upI H 14 3 (iAdd (H.1 14 3) 1))) (rp_X9_advance (upI H 14 3 (iAdd (H.1 14 3) 1)) hr)) ?_
                exact J_ret rfl (Or.inl rfl) (fun aw hR => by show _ ∧ _; unfold f_X7_one8; rw [if_pos h0, if_pos h8, if_neg h9, if_pos h10, if_pos h12, if_neg h13, if_neg (show ¬ (H.1 4 11 = 5) by omega), if_neg (show ¬ (H.1 4 11 = 19) by omega), if_neg (show ¬ (H.1 4 11 = 4) by omega), if_pos h14]; exact ⟨rfl, hR⟩)
              · refine J_ld 272 jw hj rfl rfl rfl rfl ?_
                refine J_gfR (k := 60) jw hj rfl (evn rfl) (by decide) (by decide) (RSa (rp_X9_advance (upI H 14 3 (iAdd (H.1 14 3) 1)) hr) rfl) ?_
                refine J_ld 276 jw hj rfl rfl rfl rfl ?_
                refine J_cst 277 jw hj rfl rfl rfl ?_
                refine J_cst 278 jw hj rfl rfl rfl ?_
                refine J_callV0 jw rfl (Or.inl ⟨_, rfl⟩) rfl rfl (sp_X6_addStep (g := g) (H.1 4 11) 0 0 (f_X9_advance (upI H 14 3 (iAdd (H.1 14 3) 1))) (rp_X9_advance (upI H 14 3 (iAdd (H.1 14 3) 1)) hr)) ?_
                refine J_cst 282 jw hj rfl rfl rfl ?_
                exact J_ret rfl (Or.inl rfl) (fun aw hR => by show _ ∧ _; unfold f_X7_one8; rw [if_pos h0, if_pos h8, if_neg h9, if_pos h10, if_pos h12, if_neg h13, if_neg h14, if_neg h14_b, if_neg h14_c, if_neg h14_d]; exact ⟨rfl, hR⟩)
            · refine J_ld 129 jw hj rfl rfl rfl rfl ?_
              refine J_ld 130 jw hj rfl rfl rfl rfl ?_
              refine J_cst 131 jw hj rfl rfl rfl ?_
              refine J_bin jw hj rfl rfl ?_
              rw [show iop (· + ·) (1 : Int) 1 = 2 from by decide]
              refine J_callV1 jw rfl (Or.inl ⟨_, rfl⟩) rfl rfl (sp_X7_one7 (g := g) (f_X9_advance (upI H 14 3 (iAdd (H.1 14 3) 1))) (rp_X9_advance (upI H 14 3 (iAdd (H.1 14 3) 1)) hr)) ?_
              refine J_st 137 [rf (g 14), pt 1, pt (f_X9_isAtSign 40 H), pt (H.1 4 11), pt ((f_X7_one7 (f_X9_advance (upI H 14 3 (iAdd (H.1 14 3) 1)))).1)] (k := 4) jw hj rfl (Or.inl ⟨rfl, rfl⟩) rfl ?_
              refine J_ld 138 jw hj rfl rfl rfl rfl ?_
              refine J_gfR (k := 60) jw hj rfl (evn rfl) (by decide) (by decide) (RSa (rp_X7_one7 (f_X9_advance (upI H 14 3 (iAdd (H.1 14 3) 1))) (rp_X9_advance (upI H 14 3 (iAdd (H.1 14 3) 1)) hr)) rfl) ?_
              refine J_cst 143 jw hj rfl rfl rfl ?_
              refine J_cst 144 jw hj rfl rfl rfl ?_
              refine J_cst 145 jw hj rfl rfl rfl ?_
              refine J_callV0 jw rfl (Or.inl ⟨_, rfl⟩) rfl rfl (sp_X6_addStep (g := g) 18 0 0 (f_X7_one7 (f_X9_advance (upI H 14 3 (iAdd (H.1 14 3) 1)))).2 (rp_X7_one7 (f_X9_advance (upI H 14 3 (iAdd (H.1 14 3) 1))) (rp_X9_advance (upI H 14 3 (iAdd (H.1 14 3) 1)) hr))) ?_
              refine J_ld 150 jw hj rfl rfl rfl rfl ?_
              exact J_ret rfl (Or.inl rfl) (fun aw hR => by show _ ∧ _; unfold f_X7_one8; rw [if_pos h0, if_pos h8, if_neg h9, if_pos h10, if_pos h12, if_pos h13]; exact ⟨rfl, hR⟩)
          · refine J_ld 95 jw hj rfl rfl rfl rfl ?_
            refine J_ld 96 jw hj rfl rfl rfl rfl ?_
            refine J_cst 97 jw hj rfl rfl rfl ?_
            refine J_bin jw hj rfl rfl ?_
            rw [show iop (· + ·) (1 : Int) 1 = 2 from by decide]
            refine J_callV1 jw rfl (Or.inl ⟨_, rfl⟩) rfl rfl (sp_X7_cond7 (g := g) (f_X9_advance (upI H 14 3 (iAdd (H.1 14 3) 1))) (rp_X9_advance (upI H 14 3 (iAdd (H.1 14 3) 1)) hr)) ?_
            refine J_ifc (t := 120) jw hj rfl (evn rfl) rfl (fun (h15 : ((f_X7_cond7 (f_X9_advance (upI H 14 3 (iAdd (H.1 14 3) 1)))).1) = 0) => ?_) (fun (h15 : ¬ ((f_X7_cond7 (f_X9_advance (upI H 14 3 (iAdd (H.1 14 3) 1)))).1) = 0) => ?_)
            · refine J_cst 121 jw hj rfl rfl rfl ?_
              exact J_ret rfl (Or.inl rfl) (fun aw hR => by show _ ∧ _; unfold f_X7_one8; rw [if_pos h0, if_pos h8, if_neg h9, if_pos h10, if_neg h12, if_pos h15]; exact ⟨rfl, hR⟩)
            · refine J_ld 105 jw hj rfl rfl rfl rfl ?_
              refine J_gfR (k := 4) jw hj rfl (evn rfl) (by decide) (by decide) (RSa (rp_X7_cond7 (f_X9_advance (upI H 14 3 (iAdd (H.1 14 3) 1))) (rp_X9_advance (upI H 14 3 (iAdd (H.1 14 3) 1)) hr)) rfl) ?_
              refine J_cst 110 jw hj rfl rfl rfl ?_
              refine J_callV1 jw rfl (Or.inl ⟨_, rfl⟩) rfl rfl (st_X9_passSign (g := g) 41 (f_X7_cond7 (f_X9_advance (upI H 14 3 (iAdd (H.1 14 3) 1)))).2 (RSt (rp_X7_cond7 (f_X9_advance (upI H 14 3 (iAdd (H.1 14 3) 1))) (rp_X9_advance (upI H 14 3 (iAdd (H.1 14 3) 1)) hr)))) ?_
              refine J_ifc (t := 120) jw hj rfl (evn rfl) rfl (fun (h16 : ((f_X9_passSign 41 (f_X7_cond7 (f_X9_advance (upI H 14 3 (iAdd (H.1 14 3) 1)))).2).1) = 0) => ?_) (fun (h16 : ¬ ((f_X9_passSign 41 (f_X7_cond7 (f_X9_advance (upI H 14 3 (iAdd (H.1 14 3) 1)))).2).1) = 0) => ?_)
              · refine J_cst 121 jw hj rfl rfl rfl ?_
                exact J_ret rfl (Or.inl rfl) (fun aw hR => by show _ ∧ _; unfold f_X7_one8; rw [if_pos h0, if_pos h8, if_neg h9, if_pos h10, if_neg h12, if_neg h15, if_pos h16]; exact ⟨rfl, hR⟩)
              · refine J_cst 117 jw hj rfl rfl rfl ?_
                refine J_goto 121 jw hj rfl rfl ?_
                exact J_ret rfl (Or.inl rfl) (fun aw hR => by show _ ∧ _; unfold f_X7_one8; rw [if_pos h0, if_pos h8, if_neg h9, if_pos h10, if_neg h12, if_neg h15, if_neg h16]; exact ⟨rfl, hR⟩)
      · refine J_ld 41 jw hj rfl rfl rfl rfl ?_
        refine J_gfR (k := 4) jw hj rfl (evn rfl) (by decide) (by decide) (RSa hr rfl) ?_
        refine J_cst 45 jw hj rfl rfl rfl ?_
        refine J_callV1 jw rfl (Or.inl ⟨_, rfl⟩) rfl rfl (st_X9_fail (g := g) 1 H (RSt hr)) ?_
        exact J_ret rfl (Or.inl rfl) (fun aw hR => by show _ ∧ _; unfold f_X7_one8; rw [if_pos h0, if_pos h8, if_pos h9]; exact ⟨rfl, hR⟩)
theorem rp_X7_one8 {P : (Nat → Nat → Option Nat) → Prop}  (H : hH) (hr : P H.2.2.1) : P (f_X7_one8 H).2.2.2.1 := by
  unfold f_X7_one8
  by_cases q1 : f_X9_isAtSign 40 H = 0
  · rw [if_pos q1]
    by_cases q2 : H.1 4 10 = 4
    · rw [if_pos q2]
      by_cases q3 : f_X7_beginsOne (H.1 4 11) = 0
      · rw [if_pos q3]
        exact (rp_X9_fail 1 H hr)
      · rw [if_neg q3]
        by_cases q4 : H.1 14 3 < 20
        · rw [if_pos q4]
          by_cases q5 : f_X9_isAtSign 40 H = 0
          · rw [if_pos q5]
            by_cases q6 : H.1 4 11 = 18
            · rw [if_pos q6]
              exact (rp_X6_addStep 18 0 0 (f_X7_one7 (f_X9_advance (upI H 14 3 (iAdd (H.1 14 3) 1)))).2 (rp_X7_one7 (f_X9_advance (upI H 14 3 (iAdd (H.1 14 3) 1))) (rp_X9_advance (upI H 14 3 (iAdd (H.1 14 3) 1)) hr)))
            · rw [if_neg q6]
              by_cases q7 : H.1 4 11 = 5
              · rw [if_pos q7]
                exact (rp_X7_readNamed (H.1 4 11) 3 (f_X9_advance (upI H 14 3 (iAdd (H.1 14 3) 1))) (rp_X9_advance (upI H 14 3 (iAdd (H.1 14 3) 1)) hr))
              · rw [if_neg q7]
                by_cases q8 : H.1 4 11 = 19
                · rw [if_pos q8]
                  exact (rp_X7_readNamed (H.1 4 11) 0 (f_X9_advance (upI H 14 3 (iAdd (H.1 14 3) 1))) (rp_X9_advance (upI H 14 3 (iAdd (H.1 14 3) 1)) hr))
                · rw [if_neg q8]
                  by_cases q9 : H.1 4 11 = 4
                  · rw [if_pos q9]
                    exact (rp_X7_readNamed (H.1 4 11) 1 (f_X9_advance (upI H 14 3 (iAdd (H.1 14 3) 1))) (rp_X9_advance (upI H 14 3 (iAdd (H.1 14 3) 1)) hr))
                  · rw [if_neg q9]
                    by_cases q10 : H.1 4 11 = 20 ∨ H.1 4 11 = 21 ∨ H.1 4 11 = 22
                    · rw [if_pos q10]
                      exact (rp_X7_readComparison (H.1 4 11) (f_X9_advance (upI H 14 3 (iAdd (H.1 14 3) 1))) (rp_X9_advance (upI H 14 3 (iAdd (H.1 14 3) 1)) hr))
                    · rw [if_neg q10]
                      exact (rp_X6_addStep (H.1 4 11) 0 0 (f_X9_advance (upI H 14 3 (iAdd (H.1 14 3) 1))) (rp_X9_advance (upI H 14 3 (iAdd (H.1 14 3) 1)) hr))
          · rw [if_neg q5]
            by_cases q6 : ((f_X7_cond7 (f_X9_advance (upI H 14 3 (iAdd (H.1 14 3) 1)))).1) = 0
            · rw [if_pos q6]
              exact (rp_X7_cond7 (f_X9_advance (upI H 14 3 (iAdd (H.1 14 3) 1))) (rp_X9_advance (upI H 14 3 (iAdd (H.1 14 3) 1)) hr))
            · rw [if_neg q6]
              by_cases q7 : ((f_X9_passSign 41 (f_X7_cond7 (f_X9_advance (upI H 14 3 (iAdd (H.1 14 3) 1)))).2).1) = 0
              · rw [if_pos q7]
                exact (rp_X9_passSign 41 (f_X7_cond7 (f_X9_advance (upI H 14 3 (iAdd (H.1 14 3) 1)))).2 (rp_X7_cond7 (f_X9_advance (upI H 14 3 (iAdd (H.1 14 3) 1))) (rp_X9_advance (upI H 14 3 (iAdd (H.1 14 3) 1)) hr)))
              · rw [if_neg q7]
                exact (rp_X9_passSign 41 (f_X7_cond7 (f_X9_advance (upI H 14 3 (iAdd (H.1 14 3) 1)))).2 (rp_X7_cond7 (f_X9_advance (upI H 14 3 (iAdd (H.1 14 3) 1))) (rp_X9_advance (upI H 14 3 (iAdd (H.1 14 3) 1)) hr)))
        · rw [if_neg q4]
          exact (rp_X9_fail 4 H hr)
    · rw [if_neg q2]
      exact (rp_X9_fail 1 H hr)
  · rw [if_neg q1]
    by_cases q2 : H.1 14 3 < 20
    · rw [if_pos q2]
      by_cases q3 : f_X9_isAtSign 40 H = 0
      · rw [if_pos q3]
        by_cases q4 : H.1 4 11 = 18
        · rw [if_pos q4]
          exact (rp_X6_addStep 18 0 0 (f_X7_one7 (f_X9_advance (upI H 14 3 (iAdd (H.1 14 3) 1)))).2 (rp_X7_one7 (f_X9_advance (upI H 14 3 (iAdd (H.1 14 3) 1))) (rp_X9_advance (upI H 14 3 (iAdd (H.1 14 3) 1)) hr)))
        · rw [if_neg q4]
          by_cases q5 : H.1 4 11 = 5
          · rw [if_pos q5]
            exact (rp_X7_readNamed (H.1 4 11) 3 (f_X9_advance (upI H 14 3 (iAdd (H.1 14 3) 1))) (rp_X9_advance (upI H 14 3 (iAdd (H.1 14 3) 1)) hr))
          · rw [if_neg q5]
            by_cases q6 : H.1 4 11 = 19
            · rw [if_pos q6]
              exact (rp_X7_readNamed (H.1 4 11) 0 (f_X9_advance (upI H 14 3 (iAdd (H.1 14 3) 1))) (rp_X9_advance (upI H 14 3 (iAdd (H.1 14 3) 1)) hr))
            · rw [if_neg q6]
              by_cases q7 : H.1 4 11 = 4
              · rw [if_pos q7]
                exact (rp_X7_readNamed (H.1 4 11) 1 (f_X9_advance (upI H 14 3 (iAdd (H.1 14 3) 1))) (rp_X9_advance (upI H 14 3 (iAdd (H.1 14 3) 1)) hr))
              · rw [if_neg q7]
                by_cases q8 : H.1 4 11 = 20 ∨ H.1 4 11 = 21 ∨ H.1 4 11 = 22
                · rw [if_pos q8]
                  exact (rp_X7_readComparison (H.1 4 11) (f_X9_advance (upI H 14 3 (iAdd (H.1 14 3) 1))) (rp_X9_advance (upI H 14 3 (iAdd (H.1 14 3) 1)) hr))
                · rw [if_neg q8]
                  exact (rp_X6_addStep (H.1 4 11) 0 0 (f_X9_advance (upI H 14 3 (iAdd (H.1 14 3) 1))) (rp_X9_advance (upI H 14 3 (iAdd (H.1 14 3) 1)) hr))
      · rw [if_neg q3]
        by_cases q4 : ((f_X7_cond7 (f_X9_advance (upI H 14 3 (iAdd (H.1 14 3) 1)))).1) = 0
        · rw [if_pos q4]
          exact (rp_X7_cond7 (f_X9_advance (upI H 14 3 (iAdd (H.1 14 3) 1))) (rp_X9_advance (upI H 14 3 (iAdd (H.1 14 3) 1)) hr))
        · rw [if_neg q4]
          by_cases q5 : ((f_X9_passSign 41 (f_X7_cond7 (f_X9_advance (upI H 14 3 (iAdd (H.1 14 3) 1)))).2).1) = 0
          · rw [if_pos q5]
            exact (rp_X9_passSign 41 (f_X7_cond7 (f_X9_advance (upI H 14 3 (iAdd (H.1 14 3) 1)))).2 (rp_X7_cond7 (f_X9_advance (upI H 14 3 (iAdd (H.1 14 3) 1))) (rp_X9_advance (upI H 14 3 (iAdd (H.1 14 3) 1)) hr)))
          · rw [if_neg q5]
            exact (rp_X9_passSign 41 (f_X7_cond7 (f_X9_advance (upI H 14 3 (iAdd (H.1 14 3) 1)))).2 (rp_X7_cond7 (f_X9_advance (upI H 14 3 (iAdd (H.1 14 3) 1))) (rp_X9_advance (upI H 14 3 (iAdd (H.1 14 3) 1)) hr)))
    · rw [if_neg q2]
      exact (rp_X9_fail 4 H hr)
def f_X7_al8 : Nat → hH → Int × hH
  | 0, H => (1, H)
  | k + 1, H =>
    if f_X9_isAtWord 17 H = 0 then
      (1, H)
    else
      if ((f_X7_one8 (f_X9_advance H)).1) = 0 then
        (0, (f_X7_one8 (f_X9_advance H)).2)
      else
        f_X7_al8 k (f_X6_addStep 17 0 0 (f_X7_one8 (f_X9_advance H)).2)
set_option maxHeartbeats 16000000 in
set_option maxRecDepth 100000 in
theorem lp_X7_al8 {g : Nat → Nat} : ∀ (k i : Nat) (H : hH), i + k = 200 → RS H.2.2.1 → J g rvTab rvInf rvRet 316 rvMth 116 (fun res => res.1 = some (pt (f_X7_al8 k H).1) ∧ RH g res.2 (f_X7_al8 k H).2) 12 [rf (g 14), pt 1, pt (i : Int)] [] H := by
  intro k
  induction k with
  | zero =>
    intro i H hk hr
    have hj : 116 < 316 := by decide
    refine J_ld 13 jw hj rfl rfl rfl rfl ?_
    refine J_cst 16 jw hj rfl rfl rfl ?_
    refine J_icmp (t := 65) jw hj rfl (evn rfl) rfl (fun (h0 : ¬ (i : Int) < 200) => ?_) (fun (h0 : (i : Int) < 200) => ?_)
    · refine J_cst 66 jw hj rfl rfl rfl ?_
      exact J_ret rfl (Or.inl rfl) (fun aw hR => ⟨rfl, hR⟩)
    · exact absurd h0 (by omega)
  | succ k ih =>
    intro i H hk hr
    have hj : 116 < 316 := by decide
    refine J_ld 13 jw hj rfl rfl rfl rfl ?_
    refine J_cst 16 jw hj rfl rfl rfl ?_
    refine J_icmp (t := 65) jw hj rfl (evn rfl) rfl (fun (h0 : ¬ (i : Int) < 200) => ?_) (fun (h0 : (i : Int) < 200) => ?_)
    · refine J_cst 66 jw hj rfl rfl rfl ?_
      exact absurd (show (i : Int) < 200 by omega) h0
    · refine J_ld 20 jw hj rfl rfl rfl rfl ?_
      refine J_gfR (k := 4) jw hj rfl (evn rfl) (by decide) (by decide) (RSa hr rfl) ?_
      refine J_cst 25 jw hj rfl rfl rfl ?_
      refine J_callV1 jw rfl (Or.inl ⟨_, rfl⟩) rfl rfl (sp_X9_isAtWord (g := g) 17 H) ?_
      refine J_ifc (t := 65) jw hj rfl (evn rfl) rfl (fun (h1 : f_X9_isAtWord 17 H = 0) => ?_) (fun (h1 : ¬ f_X9_isAtWord 17 H = 0) => ?_)
      · refine J_cst 66 jw hj rfl rfl rfl ?_
        exact J_ret rfl (Or.inl rfl) (fun aw hR => by show _ ∧ _; rw [f_X7_al8]; rw [if_pos h1]; exact ⟨rfl, hR⟩)
      · refine J_ld 32 jw hj rfl rfl rfl rfl ?_
        refine J_gfR (k := 4) jw hj rfl (evn rfl) (by decide) (by decide) (RSa hr rfl) ?_
        refine J_callV0 jw rfl (Or.inl ⟨_, rfl⟩) rfl rfl (st_X9_advance (g := g) H (RSt hr)) ?_
        refine J_ld 39 jw hj rfl rfl rfl rfl ?_
        refine J_ld 40 jw hj rfl rfl rfl rfl ?_
        refine J_callV1 jw rfl (Or.inl ⟨_, rfl⟩) rfl rfl (sp_X7_one8 (g := g) (f_X9_advance H) (rp_X9_advance H hr)) ?_
        refine J_ifc (t := 48) jw hj rfl (evn rfl) rfl (fun (h2 : ¬ ((f_X7_one8 (f_X9_advance H)).1) = 0) => ?_) (fun (h2 : ((f_X7_one8 (f_X9_advance H)).1) = 0) => ?_)
        · refine J_ld 49 jw hj rfl rfl rfl rfl ?_
          refine J_gfR (k := 60) jw hj rfl (evn rfl) (by decide) (by decide) (RSa (rp_X7_one8 (f_X9_advance H) (rp_X9_advance H hr)) rfl) ?_
          refine J_cst 54 jw hj rfl rfl rfl ?_
          refine J_cst 55 jw hj rfl rfl rfl ?_
          refine J_cst 56 jw hj rfl rfl rfl ?_
          refine J_callV0 jw rfl (Or.inl ⟨_, rfl⟩) rfl rfl (sp_X6_addStep (g := g) 17 0 0 (f_X7_one8 (f_X9_advance H)).2 (rp_X7_one8 (f_X9_advance H) (rp_X9_advance H hr))) ?_
          refine J_iinc (al' := [rf (g 14), pt 1, pt (iAdd (i : Int) 1)]) jw hj rfl (evn rfl) rfl rfl ?_
          refine J_goto 12 jw hj rfl rfl ?_
          rw [show iAdd (i : Int) 1 = ((i + 1 : Nat) : Int) from iAdd_1 (by omega)]
          have e2 : f_X7_al8 (k + 1) H = f_X7_al8 k (f_X6_addStep 17 0 0 (f_X7_one8 (f_X9_advance H)).2) := by
            rw [f_X7_al8]
            rw [if_neg h1, if_neg h2]
          rw [e2]
          exact ih (i + 1) (f_X6_addStep 17 0 0 (f_X7_one8 (f_X9_advance H)).2) (by omega) (rp_X6_addStep 17 0 0 (f_X7_one8 (f_X9_advance H)).2 (rp_X7_one8 (f_X9_advance H) (rp_X9_advance H hr)))
        · refine J_cst 47 jw hj rfl rfl rfl ?_
          exact J_ret rfl (Or.inl rfl) (fun aw hR => by show _ ∧ _; rw [f_X7_al8]; rw [if_neg h1, if_pos h2]; exact ⟨rfl, hR⟩)
theorem rp_X7_al8 {P : (Nat → Nat → Option Nat) → Prop} : ∀ (k : Nat) (H : hH), P H.2.2.1 → P (f_X7_al8 k H).2.2.2.1 := by
  intro k
  induction k with
  | zero => intro H hr; exact hr
  | succ k ih =>
    intro H hr
    rw [f_X7_al8]
    by_cases q2 : f_X9_isAtWord 17 H = 0
    · rw [if_pos q2]
      exact hr
    · rw [if_neg q2]
      by_cases q3 : ((f_X7_one8 (f_X9_advance H)).1) = 0
      · rw [if_pos q3]
        exact (rp_X7_one8 (f_X9_advance H) (rp_X9_advance H hr))
      · rw [if_neg q3]
        exact ih (f_X6_addStep 17 0 0 (f_X7_one8 (f_X9_advance H)).2) (rp_X6_addStep 17 0 0 (f_X7_one8 (f_X9_advance H)).2 (rp_X7_one8 (f_X9_advance H) (rp_X9_advance H hr)))
def f_X7_all8  (H : hH) : Int × hH :=
  if ((f_X7_one8 H).1) = 0 then
    (0, (f_X7_one8 H).2)
  else
    ((f_X7_al8 200 (f_X7_one8 H).2).1, (f_X7_al8 200 (f_X7_one8 H).2).2)
set_option maxHeartbeats 16000000 in
set_option maxRecDepth 100000 in
theorem sp_X7_all8 {g : Nat → Nat}  (H : hH) (hr : RS H.2.2.1) : SP g rvTab rvInf rvRet 316 rvMth 116 [rf (g 14), pt 1] H (some (pt (f_X7_all8 H).1)) (f_X7_all8 H).2 := by
  have hj : 116 < 316 := by decide
  refine J_SP hj (Nat.le_of_ble_eq_true rfl) ?_
  show J g rvTab rvInf rvRet 316 rvMth 116 _ 0 [rf (g 14), pt 1, rvU] [] H
  refine J_ld 1 jw hj rfl rfl rfl rfl ?_
  refine J_ld 2 jw hj rfl rfl rfl rfl ?_
  refine J_callV1 jw rfl (Or.inl ⟨_, rfl⟩) rfl rfl (sp_X7_one8 (g := g) H hr) ?_
  refine J_ifc (t := 10) jw hj rfl (evn rfl) rfl (fun (h0 : ¬ ((f_X7_one8 H).1) = 0) => ?_) (fun (h0 : ((f_X7_one8 H).1) = 0) => ?_)
  · refine J_cst 11 jw hj rfl rfl rfl ?_
    refine J_st 12 [rf (g 14), pt 1, pt 0] (k := 2) jw hj rfl (Or.inr (Or.inr (Or.inl ⟨_, rfl, rfl, rfl⟩))) rfl ?_
    have e : f_X7_all8 H = (f_X7_al8 200 (f_X7_one8 H).2) := by
      unfold f_X7_all8
      rw [if_neg h0]
    rw [e]
    exact lp_X7_al8 200 0 (f_X7_one8 H).2 rfl (rp_X7_one8 H hr)
  · refine J_cst 9 jw hj rfl rfl rfl ?_
    exact J_ret rfl (Or.inl rfl) (fun aw hR => by show _ ∧ _; unfold f_X7_all8; rw [if_pos h0]; exact ⟨rfl, hR⟩)
theorem rp_X7_all8 {P : (Nat → Nat → Option Nat) → Prop}  (H : hH) (hr : P H.2.2.1) : P (f_X7_all8 H).2.2.2.1 := by
  unfold f_X7_all8
  by_cases q1 : ((f_X7_one8 H).1) = 0
  · rw [if_pos q1]
    exact (rp_X7_one8 H hr)
  · rw [if_neg q1]
    exact (rp_X7_al8 200 (f_X7_one8 H).2 (rp_X7_one8 H hr))
def f_X7_cl8 : Nat → hH → Int × hH
  | 0, H => (1, H)
  | k + 1, H =>
    if f_X9_isAtWord 16 H = 0 then
      (1, H)
    else
      if ((f_X7_all8 (f_X9_advance H)).1) = 0 then
        (0, (f_X7_all8 (f_X9_advance H)).2)
      else
        f_X7_cl8 k (f_X6_addStep 16 0 0 (f_X7_all8 (f_X9_advance H)).2)
set_option maxHeartbeats 16000000 in
set_option maxRecDepth 100000 in
theorem lp_X7_cl8 {g : Nat → Nat} : ∀ (k i : Nat) (H : hH), i + k = 200 → RS H.2.2.1 → J g rvTab rvInf rvRet 316 rvMth 117 (fun res => res.1 = some (pt (f_X7_cl8 k H).1) ∧ RH g res.2 (f_X7_cl8 k H).2) 12 [rf (g 14), pt 1, pt (i : Int)] [] H := by
  intro k
  induction k with
  | zero =>
    intro i H hk hr
    have hj : 117 < 316 := by decide
    refine J_ld 13 jw hj rfl rfl rfl rfl ?_
    refine J_cst 16 jw hj rfl rfl rfl ?_
    refine J_icmp (t := 65) jw hj rfl (evn rfl) rfl (fun (h0 : ¬ (i : Int) < 200) => ?_) (fun (h0 : (i : Int) < 200) => ?_)
    · refine J_cst 66 jw hj rfl rfl rfl ?_
      exact J_ret rfl (Or.inl rfl) (fun aw hR => ⟨rfl, hR⟩)
    · exact absurd h0 (by omega)
  | succ k ih =>
    intro i H hk hr
    have hj : 117 < 316 := by decide
    refine J_ld 13 jw hj rfl rfl rfl rfl ?_
    refine J_cst 16 jw hj rfl rfl rfl ?_
    refine J_icmp (t := 65) jw hj rfl (evn rfl) rfl (fun (h0 : ¬ (i : Int) < 200) => ?_) (fun (h0 : (i : Int) < 200) => ?_)
    · refine J_cst 66 jw hj rfl rfl rfl ?_
      exact absurd (show (i : Int) < 200 by omega) h0
    · refine J_ld 20 jw hj rfl rfl rfl rfl ?_
      refine J_gfR (k := 4) jw hj rfl (evn rfl) (by decide) (by decide) (RSa hr rfl) ?_
      refine J_cst 25 jw hj rfl rfl rfl ?_
      refine J_callV1 jw rfl (Or.inl ⟨_, rfl⟩) rfl rfl (sp_X9_isAtWord (g := g) 16 H) ?_
      refine J_ifc (t := 65) jw hj rfl (evn rfl) rfl (fun (h1 : f_X9_isAtWord 16 H = 0) => ?_) (fun (h1 : ¬ f_X9_isAtWord 16 H = 0) => ?_)
      · refine J_cst 66 jw hj rfl rfl rfl ?_
        exact J_ret rfl (Or.inl rfl) (fun aw hR => by show _ ∧ _; rw [f_X7_cl8]; rw [if_pos h1]; exact ⟨rfl, hR⟩)
      · refine J_ld 32 jw hj rfl rfl rfl rfl ?_
        refine J_gfR (k := 4) jw hj rfl (evn rfl) (by decide) (by decide) (RSa hr rfl) ?_
        refine J_callV0 jw rfl (Or.inl ⟨_, rfl⟩) rfl rfl (st_X9_advance (g := g) H (RSt hr)) ?_
        refine J_ld 39 jw hj rfl rfl rfl rfl ?_
        refine J_ld 40 jw hj rfl rfl rfl rfl ?_
        refine J_callV1 jw rfl (Or.inl ⟨_, rfl⟩) rfl rfl (sp_X7_all8 (g := g) (f_X9_advance H) (rp_X9_advance H hr)) ?_
        refine J_ifc (t := 48) jw hj rfl (evn rfl) rfl (fun (h2 : ¬ ((f_X7_all8 (f_X9_advance H)).1) = 0) => ?_) (fun (h2 : ((f_X7_all8 (f_X9_advance H)).1) = 0) => ?_)
        · refine J_ld 49 jw hj rfl rfl rfl rfl ?_
          refine J_gfR (k := 60) jw hj rfl (evn rfl) (by decide) (by decide) (RSa (rp_X7_all8 (f_X9_advance H) (rp_X9_advance H hr)) rfl) ?_
          refine J_cst 54 jw hj rfl rfl rfl ?_
          refine J_cst 55 jw hj rfl rfl rfl ?_
          refine J_cst 56 jw hj rfl rfl rfl ?_
          refine J_callV0 jw rfl (Or.inl ⟨_, rfl⟩) rfl rfl (sp_X6_addStep (g := g) 16 0 0 (f_X7_all8 (f_X9_advance H)).2 (rp_X7_all8 (f_X9_advance H) (rp_X9_advance H hr))) ?_
          refine J_iinc (al' := [rf (g 14), pt 1, pt (iAdd (i : Int) 1)]) jw hj rfl (evn rfl) rfl rfl ?_
          refine J_goto 12 jw hj rfl rfl ?_
          rw [show iAdd (i : Int) 1 = ((i + 1 : Nat) : Int) from iAdd_1 (by omega)]
          have e2 : f_X7_cl8 (k + 1) H = f_X7_cl8 k (f_X6_addStep 16 0 0 (f_X7_all8 (f_X9_advance H)).2) := by
            rw [f_X7_cl8]
            rw [if_neg h1, if_neg h2]
          rw [e2]
          exact ih (i + 1) (f_X6_addStep 16 0 0 (f_X7_all8 (f_X9_advance H)).2) (by omega) (rp_X6_addStep 16 0 0 (f_X7_all8 (f_X9_advance H)).2 (rp_X7_all8 (f_X9_advance H) (rp_X9_advance H hr)))
        · refine J_cst 47 jw hj rfl rfl rfl ?_
          exact J_ret rfl (Or.inl rfl) (fun aw hR => by show _ ∧ _; rw [f_X7_cl8]; rw [if_neg h1, if_pos h2]; exact ⟨rfl, hR⟩)
theorem rp_X7_cl8 {P : (Nat → Nat → Option Nat) → Prop} : ∀ (k : Nat) (H : hH), P H.2.2.1 → P (f_X7_cl8 k H).2.2.2.1 := by
  intro k
  induction k with
  | zero => intro H hr; exact hr
  | succ k ih =>
    intro H hr
    rw [f_X7_cl8]
    by_cases q2 : f_X9_isAtWord 16 H = 0
    · rw [if_pos q2]
      exact hr
    · rw [if_neg q2]
      by_cases q3 : ((f_X7_all8 (f_X9_advance H)).1) = 0
      · rw [if_pos q3]
        exact (rp_X7_all8 (f_X9_advance H) (rp_X9_advance H hr))
      · rw [if_neg q3]
        exact ih (f_X6_addStep 16 0 0 (f_X7_all8 (f_X9_advance H)).2) (rp_X6_addStep 16 0 0 (f_X7_all8 (f_X9_advance H)).2 (rp_X7_all8 (f_X9_advance H) (rp_X9_advance H hr)))
def f_X7_cond8  (H : hH) : Int × hH :=
  if ((f_X7_all8 H).1) = 0 then
    (0, (f_X7_all8 H).2)
  else
    ((f_X7_cl8 200 (f_X7_all8 H).2).1, (f_X7_cl8 200 (f_X7_all8 H).2).2)
set_option maxHeartbeats 16000000 in
set_option maxRecDepth 100000 in
theorem sp_X7_cond8 {g : Nat → Nat}  (H : hH) (hr : RS H.2.2.1) : SP g rvTab rvInf rvRet 316 rvMth 117 [rf (g 14), pt 1] H (some (pt (f_X7_cond8 H).1)) (f_X7_cond8 H).2 := by
  have hj : 117 < 316 := by decide
  refine J_SP hj (Nat.le_of_ble_eq_true rfl) ?_
  show J g rvTab rvInf rvRet 316 rvMth 117 _ 0 [rf (g 14), pt 1, rvU] [] H
  refine J_ld 1 jw hj rfl rfl rfl rfl ?_
  refine J_ld 2 jw hj rfl rfl rfl rfl ?_
  refine J_callV1 jw rfl (Or.inl ⟨_, rfl⟩) rfl rfl (sp_X7_all8 (g := g) H hr) ?_
  refine J_ifc (t := 10) jw hj rfl (evn rfl) rfl (fun (h0 : ¬ ((f_X7_all8 H).1) = 0) => ?_) (fun (h0 : ((f_X7_all8 H).1) = 0) => ?_)
  · refine J_cst 11 jw hj rfl rfl rfl ?_
    refine J_st 12 [rf (g 14), pt 1, pt 0] (k := 2) jw hj rfl (Or.inr (Or.inr (Or.inl ⟨_, rfl, rfl, rfl⟩))) rfl ?_
    have e : f_X7_cond8 H = (f_X7_cl8 200 (f_X7_all8 H).2) := by
      unfold f_X7_cond8
      rw [if_neg h0]
    rw [e]
    exact lp_X7_cl8 200 0 (f_X7_all8 H).2 rfl (rp_X7_all8 H hr)
  · refine J_cst 9 jw hj rfl rfl rfl ?_
    exact J_ret rfl (Or.inl rfl) (fun aw hR => by show _ ∧ _; unfold f_X7_cond8; rw [if_pos h0]; exact ⟨rfl, hR⟩)
theorem rp_X7_cond8 {P : (Nat → Nat → Option Nat) → Prop}  (H : hH) (hr : P H.2.2.1) : P (f_X7_cond8 H).2.2.2.1 := by
  unfold f_X7_cond8
  by_cases q1 : ((f_X7_all8 H).1) = 0
  · rw [if_pos q1]
    exact (rp_X7_all8 H hr)
  · rw [if_neg q1]
    exact (rp_X7_cl8 200 (f_X7_all8 H).2 (rp_X7_all8 H hr))
def f_X6_init (H : hH) : hH := (upR (upN (upR (upN (upR (upN (upR (upN H) 60 0 (some 61))) 60 1 (some 62))) 60 2 (some 63))) 60 3 (some 64))
theorem sp_X6_init {g : Nat → Nat} (H : hH) (hn : H.2.2.2 = 61) (hg : ∀ n, 60 ≤ n → g (n + 1) = g n + 1) : SP g rvTab rvInf rvRet 316 rvMth 308 [rf (g 60)] H none (f_X6_init H) := by
  have hj : 308 < 316 := by decide
  refine J_SP hj (Nat.le_of_ble_eq_true rfl) ?_
  show J g rvTab rvInf rvRet 316 rvMth 308 _ 0 [rf (g 60)] [] H
  refine J_ld 1 jw hj rfl rfl rfl rfl ?_
  refine J_obj 4 rfl rfl rfl ?_
  refine J_ld 5 jw hj rfl rfl rfl rfl ?_
  refine J_cst 7 jw hj rfl rfl rfl ?_
  refine J_newa 9 (n := 61) jw hj rfl hn (hg _ (by decide)) rfl ?_
  refine J_pfR jw hj rfl (evn rfl) (by decide) ?_
  refine J_ld 13 jw hj rfl rfl rfl rfl ?_
  refine J_cst 15 jw hj rfl rfl rfl ?_
  refine J_newa 17 (n := 62) jw hj rfl (upN_n hn) (hg _ (by decide)) rfl ?_
  refine J_pfR jw hj rfl (evn rfl) (by decide) ?_
  refine J_ld 21 jw hj rfl rfl rfl rfl ?_
  refine J_cst 23 jw hj rfl rfl rfl ?_
  refine J_newa 25 (n := 63) jw hj rfl (upN_n (upN_n hn)) (hg _ (by decide)) rfl ?_
  refine J_pfR jw hj rfl (evn rfl) (by decide) ?_
  refine J_ld 29 jw hj rfl rfl rfl rfl ?_
  refine J_cst 31 jw hj rfl rfl rfl ?_
  refine J_newa 33 (n := 64) jw hj rfl (upN_n (upN_n (upN_n hn))) (hg _ (by decide)) rfl ?_
  refine J_pfR jw hj rfl (evn rfl) (by decide) ?_
  exact J_ret rfl (Or.inr (Or.inr rfl)) (fun aw hR => by show _ ∧ _; unfold f_X6_init; exact ⟨rfl, hR⟩)
def f_X7_read  (H : hH) : Int × hH :=
  if ((f_X7_cond8 (f_X9_begin 200 (upI (upR (upR H 14 1 (some 52)) 14 2 (some 60)) 14 3 0))).1) = 0 then
    ((f_X7_cond8 (f_X9_begin 200 (upI (upR (upR H 14 1 (some 52)) 14 2 (some 60)) 14 3 0))).2.1 14 3, (f_X7_cond8 (f_X9_begin 200 (upI (upR (upR H 14 1 (some 52)) 14 2 (some 60)) 14 3 0))).2)
  else
    if ((f_X7_cond8 (f_X9_begin 200 (upI (upR (upR H 14 1 (some 52)) 14 2 (some 60)) 14 3 0))).2.1 4 10) = 1 then
      ((f_X7_cond8 (f_X9_begin 200 (upI (upR (upR H 14 1 (some 52)) 14 2 (some 60)) 14 3 0))).2.1 14 3, (f_X7_cond8 (f_X9_begin 200 (upI (upR (upR H 14 1 (some 52)) 14 2 (some 60)) 14 3 0))).2)
    else
      ((f_X9_fail 1 (f_X7_cond8 (f_X9_begin 200 (upI (upR (upR H 14 1 (some 52)) 14 2 (some 60)) 14 3 0))).2).2.1 14 3, (f_X9_fail 1 (f_X7_cond8 (f_X9_begin 200 (upI (upR (upR H 14 1 (some 52)) 14 2 (some 60)) 14 3 0))).2).2)
set_option maxHeartbeats 16000000 in
set_option maxRecDepth 100000 in
theorem sp_X7_read {g : Nat → Nat}  (H : hH) (hr : RS (upR (upR H 14 1 (some 52)) 14 2 (some 60)).2.2.1) : SP g rvTab rvInf rvRet 316 rvMth 309 [rf (g 14), rf (g 60), rf (g 52)] H (some (pt (f_X7_read H).1)) (f_X7_read H).2 := by
  have hj : 309 < 316 := by decide
  refine J_SP hj (Nat.le_of_ble_eq_true rfl) ?_
  show J g rvTab rvInf rvRet 316 rvMth 309 _ 0 [rf (g 14), rf (g 60), rf (g 52)] [] H
  refine J_ld 1 jw hj rfl rfl rfl rfl ?_
  refine J_ld 2 jw hj rfl rfl rfl rfl ?_
  refine J_pfR jw hj rfl (evn rfl) (by decide) ?_
  refine J_ld 6 jw hj rfl rfl rfl rfl ?_
  refine J_ld 7 jw hj rfl rfl rfl rfl ?_
  refine J_pfR jw hj rfl (evn rfl) (by decide) ?_
  refine J_ld 11 jw hj rfl rfl rfl rfl ?_
  refine J_cst 12 jw hj rfl rfl rfl ?_
  refine J_pfI jw hj rfl (evn rfl) rfl ?_
  refine J_ld 16 jw hj rfl rfl rfl rfl ?_
  refine J_gfR (k := 4) jw hj rfl (evn rfl) (by decide) (by decide) (RSa hr rfl) ?_
  refine J_cst 22 jw hj rfl rfl rfl ?_
  refine J_callV0 jw rfl (Or.inl ⟨_, rfl⟩) rfl rfl (st_X9_begin (g := g) 200 (upI (upR (upR H 14 1 (some 52)) 14 2 (some 60)) 14 3 0) (RSt hr)) ?_
  refine J_ld 26 jw hj rfl rfl rfl rfl ?_
  refine J_cst 27 jw hj rfl rfl rfl ?_
  refine J_callV1 jw rfl (Or.inl ⟨_, rfl⟩) rfl rfl (sp_X7_cond8 (g := g) (f_X9_begin 200 (upI (upR (upR H 14 1 (some 52)) 14 2 (some 60)) 14 3 0)) (rp_X9_begin 200 (upI (upR (upR H 14 1 (some 52)) 14 2 (some 60)) 14 3 0) hr)) ?_
  refine J_ifc (t := 53) jw hj rfl (evn rfl) rfl (fun (h0 : ((f_X7_cond8 (f_X9_begin 200 (upI (upR (upR H 14 1 (some 52)) 14 2 (some 60)) 14 3 0))).1) = 0) => ?_) (fun (h0 : ¬ ((f_X7_cond8 (f_X9_begin 200 (upI (upR (upR H 14 1 (some 52)) 14 2 (some 60)) 14 3 0))).1) = 0) => ?_)
  · refine J_ld 54 jw hj rfl rfl rfl rfl ?_
    refine J_gfI jw hj rfl (evn rfl) (by decide) rfl (fun r0 => ?_)
    exact J_ret rfl (Or.inl rfl) (fun aw hR => by show _ ∧ _; unfold f_X7_read; rw [if_pos h0]; exact ⟨rfl, hR⟩)
  · refine J_ld 34 jw hj rfl rfl rfl rfl ?_
    refine J_gfR (k := 4) jw hj rfl (evn rfl) (by decide) (by decide) (RSa (rp_X7_cond8 (f_X9_begin 200 (upI (upR (upR H 14 1 (some 52)) 14 2 (some 60)) 14 3 0)) (rp_X9_begin 200 (upI (upR (upR H 14 1 (some 52)) 14 2 (some 60)) 14 3 0) hr)) rfl) ?_
    refine J_gfI jw hj rfl (evn rfl) (by decide) rfl (fun r1 => ?_)
    refine J_cst 41 jw hj rfl rfl rfl ?_
    refine J_icmp (t := 53) jw hj rfl (evn rfl) rfl (fun (h1 : ((f_X7_cond8 (f_X9_begin 200 (upI (upR (upR H 14 1 (some 52)) 14 2 (some 60)) 14 3 0))).2.1 4 10) = 1) => ?_) (fun (h1 : ¬ ((f_X7_cond8 (f_X9_begin 200 (upI (upR (upR H 14 1 (some 52)) 14 2 (some 60)) 14 3 0))).2.1 4 10) = 1) => ?_)
    · refine J_ld 54 jw hj rfl rfl rfl rfl ?_
      refine J_gfI jw hj rfl (evn rfl) (by decide) rfl (fun r2 => ?_)
      exact J_ret rfl (Or.inl rfl) (fun aw hR => by show _ ∧ _; unfold f_X7_read; rw [if_neg h0, if_pos h1]; exact ⟨rfl, hR⟩)
    · refine J_ld 45 jw hj rfl rfl rfl rfl ?_
      refine J_gfR (k := 4) jw hj rfl (evn rfl) (by decide) (by decide) (RSa (rp_X7_cond8 (f_X9_begin 200 (upI (upR (upR H 14 1 (some 52)) 14 2 (some 60)) 14 3 0)) (rp_X9_begin 200 (upI (upR (upR H 14 1 (some 52)) 14 2 (some 60)) 14 3 0) hr)) rfl) ?_
      refine J_cst 49 jw hj rfl rfl rfl ?_
      refine J_callV1 jw rfl (Or.inl ⟨_, rfl⟩) rfl rfl (st_X9_fail (g := g) 1 (f_X7_cond8 (f_X9_begin 200 (upI (upR (upR H 14 1 (some 52)) 14 2 (some 60)) 14 3 0))).2 (RSt (rp_X7_cond8 (f_X9_begin 200 (upI (upR (upR H 14 1 (some 52)) 14 2 (some 60)) 14 3 0)) (rp_X9_begin 200 (upI (upR (upR H 14 1 (some 52)) 14 2 (some 60)) 14 3 0) hr)))) ?_
      refine J_pop 53 jw hj rfl rfl ?_
      refine J_ld 54 jw hj rfl rfl rfl rfl ?_
      refine J_gfI jw hj rfl (evn rfl) (by decide) rfl (fun r3 => ?_)
      exact J_ret rfl (Or.inl rfl) (fun aw hR => by show _ ∧ _; unfold f_X7_read; rw [if_neg h0, if_neg h1]; exact ⟨rfl, hR⟩)
theorem rp_X7_read {P : (Nat → Nat → Option Nat) → Prop}  (H : hH) (hr : P (upR (upR H 14 1 (some 52)) 14 2 (some 60)).2.2.1) : P (f_X7_read H).2.2.2.1 := by
  unfold f_X7_read
  by_cases q1 : ((f_X7_cond8 (f_X9_begin 200 (upI (upR (upR H 14 1 (some 52)) 14 2 (some 60)) 14 3 0))).1) = 0
  · rw [if_pos q1]
    exact (rp_X7_cond8 (f_X9_begin 200 (upI (upR (upR H 14 1 (some 52)) 14 2 (some 60)) 14 3 0)) (rp_X9_begin 200 (upI (upR (upR H 14 1 (some 52)) 14 2 (some 60)) 14 3 0) hr))
  · rw [if_neg q1]
    by_cases q2 : ((f_X7_cond8 (f_X9_begin 200 (upI (upR (upR H 14 1 (some 52)) 14 2 (some 60)) 14 3 0))).2.1 4 10) = 1
    · rw [if_pos q2]
      exact (rp_X7_cond8 (f_X9_begin 200 (upI (upR (upR H 14 1 (some 52)) 14 2 (some 60)) 14 3 0)) (rp_X9_begin 200 (upI (upR (upR H 14 1 (some 52)) 14 2 (some 60)) 14 3 0) hr))
    · rw [if_neg q2]
      exact (rp_X9_fail 1 (f_X7_cond8 (f_X9_begin 200 (upI (upR (upR H 14 1 (some 52)) 14 2 (some 60)) 14 3 0))).2 (rp_X7_cond8 (f_X9_begin 200 (upI (upR (upR H 14 1 (some 52)) 14 2 (some 60)) 14 3 0)) (rp_X9_begin 200 (upI (upR (upR H 14 1 (some 52)) 14 2 (some 60)) 14 3 0) hr)))
