/-! Typed frames keep the towns' rows (by hand). -/
theorem hV_T {T pl : List Nat} {aw : rvH} (h : gS T pl aw) {i g j q k : Nat} (hi : T[i]? = some g) (ht : xTyp xRgn g j = some (.inr (20, q))) (hv : hV aw i j (rf k)) : T[k]? = some q := by
  obtain ⟨c, e1, e2⟩ := gh_at h hi
  obtain ⟨x, x1, c', x2, x3⟩ := gh_r20 (j := j) e1 e2 ht
  obtain ⟨c'', y1, -, y3⟩ := hv
  rw [x2] at y1
  have y1 := Option.some.inj y1
  subst y1
  rw [x3] at y3
  have y3 := Option.some.inj y3
  have : x = k := (Prod.mk.inj (Sum.inr.inj y3)).2
  subst this
  exact x1
theorem fr_ghT {T pl T1 pl1 : List Nat} {aw aw1 : rvH} {ms : List Nat} (h : gS T pl aw) (hf : lwFr ms T pl aw T1 pl1 aw1) {x g : Nat} (hx : T[x]? = some g) {j : Nat} (hno : ¬ xInM ms g j) : ghI aw1 x j = ghI aw x j := by
  obtain ⟨c, e, -⟩ := gh_at h hx
  obtain ⟨c', e1, e2⟩ := hf.2.2 x _ c hx e
  unfold ghI
  rw [e, e1]
  dsimp only
  rw [e2 j hno]
/-- slots below b of the region g aren't written -/
def ghLt (ms : List Nat) (g b : Nat) : Bool := match ms with
  | a :: lo :: _ :: t => (!Nat.beq g a || Nat.ble b lo) && ghLt t g b
  | _ => true
theorem ghLt_ok {g b j : Nat} (hj : j < b) : ∀ (ms : List Nat), ghLt ms g b = true → ¬ xInM ms g j
  | [], _, h => h
  | [_], _, h => h
  | [_, _], _, h => h
  | a :: lo :: hi :: t, hn, h => by
    have hn : ((!Nat.beq g a || Nat.ble b lo) && ghLt t g b) = true := hn
    obtain ⟨n1, n2⟩ := rv_and hn
    have h : (g = a ∧ lo ≤ j ∧ j ≤ hi) ∨ xInM t g j := h
    rcases h with ⟨e, h1, -⟩ | h
    · subst e
      rw [Nat.beq_refl] at n1
      have := rv_ble n1
      omega
    · exact ghLt_ok hj t n2 h
/-- a list of what is written that leaves the towns -/
def msT (ms : List Nat) : Bool := ghNo ms 7 && (ghNo ms 9 && (ghNo ms 10 && (ghLt ms 91 91 && ghNo ms 108)))
theorem HF_T {T pl : List Nat} {aw : rvH} {t0 : Nat} (hp : pl = rzPl) (h : gS T pl aw) (hf : HF t0 aw) : T[35]? = some 0 ∧ ∀ n, n < 2 → T[ti2 n]? = some 0 := by
  subst hp
  obtain ⟨i, c, a1, a2, a3, a4⟩ := gh_st h (k := 0) (by omega)
  have e0 : (0 : Nat) = i := Option.some.inj a1
  subst e0
  obtain ⟨i, c, b1, b2, b3, b4⟩ := gh_st h (k := 1) (by omega)
  have e8 : (8 : Nat) = i := Option.some.inj b1
  subst e8
  refine ⟨hV_T h a2 rfl (hf.1 (0, 1, 35) (by decide)), fun n hn => ?_⟩
  have : n = 0 ∨ n = 1 := by omega
  rcases this with rfl | rfl
  · exact hV_T h b2 rfl (hf.1 (8, 0, 97) (by decide))
  · exact hV_T h b2 rfl (hf.1 (8, 1, 103) (by decide))
theorem town_T {T pl : List Nat} {aw : rvH} {t0 : Nat} (hp : pl = rzPl) (h : gS T pl aw) (hf : HF t0 aw) {t j x k : Nat} (hk : k = 35 ∨ ∃ n, n < 2 ∧ k = ti2 n) (ht : hV aw k 0 (rf t)) (hx : hV aw t j (rf x)) : (j = 0 → T[x]? = some 7) ∧ (j = 2 → T[x]? = some 9) ∧ (j = 3 → T[x]? = some 10) := by
  obtain ⟨t1, t2⟩ := HF_T hp h hf
  have hk0 : T[k]? = some 0 := by
    rcases hk with rfl | ⟨n, hn, rfl⟩
    · exact t1
    · exact t2 n hn
  have h6 : T[t]? = some 6 := hV_T h hk0 rfl ht
  refine ⟨fun e => ?_, fun e => ?_, fun e => ?_⟩
  · subst e; exact hV_T h h6 rfl hx
  · subst e; exact hV_T h h6 rfl hx
  · subst e; exact hV_T h h6 rfl hx
theorem pl_111 {T pl : List Nat} {aw : rvH} (hp : pl = rzPl) (h : gS T pl aw) : T[111]? = some 91 ∧ T[128]? = some 108 := by
  subst hp
  obtain ⟨i, c, a1, a2, -⟩ := gh_st h (k := 31) (by omega)
  obtain ⟨i', c', b1, b2, -⟩ := gh_st h (k := 48) (by omega)
  have e1 : (111 : Nat) = i := Option.some.inj a1
  have e2 : (128 : Nat) = i' := Option.some.inj b1
  subst e1; subst e2
  exact ⟨a2, b2⟩
/-- a turn that is neither district's nor image's nor restore's -/
theorem HT_turn {T pl T1 pl1 : List Nat} {aw aw1 : rvH} {ms : List Nat} (hp : pl = rzPl) (h : gS T pl aw) (hT : HT aw) (hm : msT ms = true) (hf : lwFr ms T pl aw T1 pl1 aw1) (hs : ∀ t0, HF t0 aw → SameT t0 aw aw1) : HT aw1 := by
  obtain ⟨m1, hm⟩ := rv_and hm
  obtain ⟨m2, hm⟩ := rv_and hm
  obtain ⟨m3, hm⟩ := rv_and hm
  obtain ⟨m4, m5⟩ := rv_and hm
  obtain ⟨q1, q2⟩ := pl_111 hp h
  have hT0 := hT
  obtain ⟨hk, t0, hF, -⟩ := hT0
  refine HT_same hT hs (fun t j x i hkt hx hj => ?_) (fun i hi => fr_ghT h hf q1 (ghLt_ok hi ms m4)) (fun i hi => fr_ghT h hf q2 (ghNo_ok ms m5))
  obtain ⟨k, k1, k2⟩ := hkt
  obtain ⟨r1, r2, r3⟩ := town_T hp h hF k1 k2 hx
  rcases hj with rfl | rfl | rfl
  · exact fr_ghT h hf (r1 rfl) (ghNo_ok ms m1)
  · exact fr_ghT h hf (r2 rfl) (ghNo_ok ms m2)
  · exact fr_ghT h hf (r3 rfl) (ghNo_ok ms m3)
/-! At the start. -/
def hVB (aw : rvH) (k j : Nat) (v : rvV) : Bool := match aw[k]? with
  | some c => prC c j && decide (xSlot c j = some v)
  | none => false
theorem hVB_ok {aw : rvH} {k j : Nat} {v : rvV} (h : hVB aw k j v = true) : hV aw k j v := by
  unfold hVB at h
  split at h
  · rename_i c e
    obtain ⟨h1, h2⟩ := rv_and h
    exact ⟨c, e, h1, of_decide_eq_true h2⟩
  · cases h
theorem rz_hc : hcL.all (fun q => hVB rzAw0 q.1 q.2.1 (rf q.2.2)) = true := by decide +kernel
theorem rz_lv : (List.range 8).all (fun i => hVB rzAw0 48 i (rf (49 + 6 * i))) = true := by decide +kernel
theorem rz_35 : (hVB rzAw0 35 0 (rf 27) && (hVB rzAw0 47 1 (pt 0) && (hVB rzAw0 97 0 (rf 27) && (hVB rzAw0 103 0 (rf 27) && (hVB rzAw0 27 0 (rf 28) && (hVB rzAw0 27 2 (rf 30) && hVB rzAw0 27 3 (rf 31))))))) = true := by decide +kernel
theorem rz_11 : (List.range rzAw0.length).all (fun k => match rzAw0[k]? with
  | some (.inl (11, _)) => Nat.beq k 0
  | _ => true) = true := by decide +kernel
def isOb (o : Option rvC) (c : Nat) : Bool := match o with
  | some (.inl (ci, _)) => Nat.beq ci c
  | _ => false
def isRw (o : Option rvC) (k : Nat) : Bool := match o with
  | some (.inr (q, _, _, _)) => Nat.beq q k
  | _ => false
theorem isOb_ok {o : Option rvC} {c : Nat} (h : isOb o c = true) : ∃ fs, o = some (.inl (c, fs)) := by
  unfold isOb at h
  split at h
  · rename_i ci fs
    have := rv_beq h
    subst this
    exact ⟨fs, rfl⟩
  · cases h
theorem isRw_ok {o : Option rvC} {k : Nat} (h : isRw o k = true) : ∃ n d ov, o = some (.inr (k, n, d, ov)) := by
  unfold isRw at h
  split at h
  · rename_i q n d ov
    have := rv_beq h
    subst this
    exact ⟨n, d, ov, rfl⟩
  · cases h
theorem rz_kn : ([35, 41, 49, 55, 61, 67, 73, 79, 85, 91].all (fun k => isOb rzAw0[k]? 2) && (isOb rzAw0[47]? 3 && (isRw rzAw0[48]? 4 && (isOb rzAw0[27]? 10 && isRw rzAw0[10]? 5)))) = true := by decide +kernel
theorem rz_0 : ((List.range 91).all (fun i => decide (ghI rzAw0 111 i = 0)) && ((List.range 592).all (fun i => decide (ghI rzAw0 128 i = 0)) && ((List.range 30).all (fun i => decide (ghI rzAw0 28 i = 0) && (decide (ghI rzAw0 30 i = 0) && decide (ghI rzAw0 31 i = 0)))))) = true := by decide +kernel
theorem rz_HT : HT rzAw0 := by
  obtain ⟨p1, hp⟩ := rv_and rz_35
  obtain ⟨p2, hp⟩ := rv_and hp
  obtain ⟨p3, hp⟩ := rv_and hp
  obtain ⟨p4, hp⟩ := rv_and hp
  obtain ⟨p5, hp⟩ := rv_and hp
  obtain ⟨p6, p7⟩ := rv_and hp
  obtain ⟨k1, hk⟩ := rv_and rz_kn
  obtain ⟨k2, hk⟩ := rv_and hk
  obtain ⟨k3, hk⟩ := rv_and hk
  obtain ⟨k4, k5⟩ := rv_and hk
  obtain ⟨z1, hz⟩ := rv_and rz_0
  obtain ⟨z2, z3⟩ := rv_and hz
  have s0 : ∀ i, i < 91 → ghI rzAw0 111 i = 0 := fun i hi => of_decide_eq_true (List.all_eq_true.mp z1 i (List.mem_range.mpr hi))
  have kp0 : ∀ i, i < 592 → ghI rzAw0 128 i = 0 := fun i hi => of_decide_eq_true (List.all_eq_true.mp z2 i (List.mem_range.mpr hi))
  have r0 : ∀ i, i < 30 → ghI rzAw0 28 i = 0 ∧ ghI rzAw0 30 i = 0 ∧ ghI rzAw0 31 i = 0 := fun i hi => by
    obtain ⟨a, b⟩ := rv_and (List.all_eq_true.mp z3 i (List.mem_range.mpr hi))
    obtain ⟨b, c⟩ := rv_and b
    exact ⟨of_decide_eq_true a, of_decide_eq_true b, of_decide_eq_true c⟩
  have t10 : ∃ fs, rzAw0[27]? = some (.inl (10, fs)) := isOb_ok k4
  have tc : ∀ f : Nat → Int, (∀ i, i < 91 → f i = 0) → TC rzAw0 27 f := fun f hf => ⟨t10, 28, 30, 31, hVB_ok p5, hVB_ok p6, hVB_ok p7, fun i hi => by rw [hf i (by omega)]; exact (r0 i (by omega)).1, fun i hi => by rw [hf (24 + i) (by omega)]; exact (r0 i (by omega)).2.1, fun i hi => by rw [hf (55 + i) (by omega)]; exact (r0 i (by omega)).2.2⟩
  refine ⟨⟨fun k hk => ?_, ?_, ?_⟩, 27, ⟨fun q hq => hVB_ok (List.all_eq_true.mp rz_hc q hq), ?_, fun k fs e => ?_, fun k j v e => e.2, hVB_ok p1, (fun e => by cases e), fun i hi => ⟨49 + 6 * i, ⟨i, hi, rfl⟩, hVB_ok (List.all_eq_true.mp rz_lv i (List.mem_range.mpr hi))⟩, 0, by omega, hVB_ok p2, fun i hi => by omega⟩, tc _ s0, fun n hn => ⟨27, ?_, tc _ (fun i hi => kp0 _ (by omega))⟩⟩
  · have hm : k ∈ [35, 41, 49, 55, 61, 67, 73, 79, 85, 91] := by
      rcases hk with rfl | rfl | ⟨i, hi, rfl⟩
      · decide
      · decide
      · have : i = 0 ∨ i = 1 ∨ i = 2 ∨ i = 3 ∨ i = 4 ∨ i = 5 ∨ i = 6 ∨ i = 7 := by omega
        rcases this with rfl | rfl | rfl | rfl | rfl | rfl | rfl | rfl <;> decide
    exact isOb_ok (List.all_eq_true.mp k1 k hm)
  · exact isOb_ok k2
  · exact isRw_ok k3
  · exact isRw_ok k5
  · have := List.all_eq_true.mp rz_11 k (List.mem_range.mpr (List.getElem?_eq_some_iff.mp e).1)
    rw [e] at this
    exact rv_beq this
  · have : n = 0 ∨ n = 1 := by omega
    rcases this with rfl | rfl
    · exact hVB_ok p3
    · exact hVB_ok p4
