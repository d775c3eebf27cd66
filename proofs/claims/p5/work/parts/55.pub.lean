/-! A fresh cell gets its lasting region. -/
def xTm2 (T T' : List Nat) : Prop := T'.length = T.length ∧ ∀ (i g : Nat), T[i]? = some g → g < 40 → T'[i]? = some g
theorem xR_t {r : List Int} {T T' pl : List Nat} (m : xTm2 T T') {v : xV} {c : rvV} (h : xR r T pl v c) : xR r T' pl v c := by
  rcases v with a | ⟨t, k⟩
  · exact h
  · unfold xR at h ⊢
    split at h
    · rename_i heq; cases heq
    · rename_i heq; cases heq; exact h
    · rename_i heq; cases heq; exact h
    · rename_i heq; cases heq; exact h
    · rename_i heq; cases heq
      rcases h with h | h | ⟨i, p, q⟩
      · exact Or.inl h
      · exact Or.inr (Or.inl h)
      · exact Or.inr (Or.inr ⟨i, by rw [m.1]; exact p, q⟩)
    · rename_i heq; cases heq; trivial
    · rename_i heq; cases heq
      obtain ⟨w, i, p, q⟩ := h
      exact ⟨w, i, m.2 i _ p w, q⟩
    · rename_i heq; cases heq
      rcases h with h | ⟨w, i, p, q⟩
      · exact Or.inl h
      · exact Or.inr ⟨w, i, m.2 i _ p w, q⟩
    · rename_i heq
      cases heq
      exact h
theorem xRs_t {r : List Int} {T T' pl : List Nat} (m : xTm2 T T') : ∀ {vs : List xV} {cs : List rvV}, xRs r T pl vs cs → xRs r T' pl vs cs
  | [], [], _ => trivial
  | _ :: _, _ :: _, h => ⟨xR_t m h.1, xRs_t m h.2⟩
  | [], _ :: _, h => h
  | _ :: _, [], h => h
theorem xTy_t {T T' pl : List Nat} (m : xTm2 T T') {ty : xT} {c : rvV} (h : xTy T pl ty c) : xTy T' pl ty c := by
  rcases ty with a | q
  · exact h
  · exact xR_t m h
theorem xCell_t {T T' pl : List Nat} (m : xTm2 T T') {y : xG} {c : rvC} (h : xCell T pl y c) : xCell T' pl y c := by
  rcases y with ⟨ci, fts⟩ | ⟨k, n, q, sg⟩
  · rcases c with ⟨cj, fs⟩ | c
    · exact ⟨h.1, h.2.1, fun f ty v h1 h2 => xTy_t m (h.2.2 f ty v h1 h2)⟩
    · exact absurd h id
  · rcases c with c | ⟨k', n', d, ov⟩
    · exact absurd h id
    · exact ⟨h.1, h.2.1, fun j hj => xTy_t m (h.2.2 j hj)⟩
theorem xOv_t {r : List Int} {T T' pl : List Nat} (m : xTm2 T T') {c : rvC} {q : (Nat × Int × Int) × xV} (h : xOv r T pl c q) : xOv r T' pl c q := by
  obtain ⟨h1, j, w, h2, h3, h4⟩ := h
  exact ⟨h1, j, w, h2, h3, xR_t m h4⟩
noncomputable def xPubV (d : Nat) (Q : xQ) (ah : List xC) (ty : xT) (v : xV) : Bool := match ty, v with
  | .inl t, .inl a => xIn d Q a t.1 t.2
  | .inr (20, g), .inr (2, k2) => (match ah[k2]? with
    | some s => Nat.beq s.1 g && Nat.blt g 40
    | none => false)
  | .inr (1, 0), .inr (1, _) => true
  | _, _ => false
def xTeq (a b : xT) : Bool := match a, b with
  | .inl x, .inl y => decide (x.1 = y.1) && decide (x.2 = y.2)
  | .inr x, .inr y => Nat.beq x.1 y.1 && Nat.beq x.2 y.2
  | _, _ => false
theorem xTeq_ok {a b : xT} (h : xTeq a b = true) : a = b := by
  unfold xTeq at h
  split at h
  · rename_i x y
    obtain ⟨h1, h2⟩ := rv_and h
    obtain ⟨x1, x2⟩ := x
    obtain ⟨y1, y2⟩ := y
    have h1 : x1 = y1 := of_decide_eq_true h1
    have h2 : x2 = y2 := of_decide_eq_true h2
    rw [h1, h2]
  · rename_i x y
    obtain ⟨h1, h2⟩ := rv_and h
    obtain ⟨x1, x2⟩ := x
    obtain ⟨y1, y2⟩ := y
    have h1 : x1 = y1 := rv_beq h1
    have h2 : x2 = y2 := rv_beq h2
    rw [h1, h2]
  · cases h
def xSeq : List (Nat × xT) → List (Nat × xT) → Bool
  | [], [] => true
  | a :: s, b :: t => (Nat.beq a.1 b.1 && xTeq a.2 b.2) && xSeq s t
  | _, _ => false
theorem xSeq_ok : ∀ {s t : List (Nat × xT)}, xSeq s t = true → s = t
  | [], [], _ => rfl
  | [], _ :: _, h => by cases h
  | _ :: _, [], h => by cases h
  | (a1, a2) :: s, (b1, b2) :: t, h => by
      obtain ⟨h1, h2⟩ := rv_and h
      obtain ⟨h3, h4⟩ := rv_and h1
      have h3 : a1 = b1 := rv_beq h3
      have h4 : a2 = b2 := xTeq_ok h4
      rw [h3, h4, xSeq_ok h2]
noncomputable def xPubT (rg : Nat → xG) (d : Nat) (Q : xQ) (ah : List xC) (s : xC) (gn : Nat) : Bool := match rg s.1, rg gn with
  | .inl (ci, fts0), .inl (cj, fts) => Nat.beq ci cj && (Nat.beq fts0.length fts.length && (List.range fts.length).all (fun f => match fts[f]?, xFind s.2 (f : Int) with
    | some ty, some v => xPubV d Q ah ty v
    | _, _ => false))
  | .inr (q, n, p, sg), .inr (q2, n2, p2, sg2) => Nat.beq q q2 && (Nat.beq n n2 && (Nat.beq p p2 && xSeq sg sg2))
  | _, _ => false
noncomputable def xPubS (d : Nat) (S : xS) (s : xC) : Bool := match xHas S.2.2.2.2.1 4 [6], xFind s.2 0, xFind s.2 2, xFind s.2 4 with
  | some [B], some (.inr (2, 53)), some (.inr (2, 55)), some (.inl v) => xEnt S.2.2.2.2.2.1.1 S.2.2.2.2.2.1.2 d (xSub (xSm B) (xSm v))
  | _, _, _, _ => false
noncomputable def xGpub (rg : Nat → xG) (d k gn : Nat) (S : xS) : Option xS := match S.2.2.2.1[k]?, xHas S.2.2.2.2.1 3 [k] with
  | some s, some _ => bif Nat.ble 40 s.1 && (Nat.blt gn 40 && ((List.range S.2.2.2.1.length).all (fun m => Nat.beq m k || (match S.2.2.2.1[m]? with
      | some t => !Nat.beq t.1 s.1
      | none => true)) && (xPubT rg d S.2.2.2.2.2.1 S.2.2.2.1 s gn && (!Nat.beq gn 14 || (xPubS d S s && (match S.2.2.2.1[53]?, S.2.2.2.1[55]? with
        | some a, some b => Nat.beq a.1 15 && Nat.beq b.1 17
        | _, _ => false)))))) then some (xWa S (S.2.2.2.1.set k (gn, s.2)) S.2.2.2.2.2.1) else none
  | _, _ => none
theorem xGrp6 : (xGrp 6).1 = [(53, 1, 0), (55, 1, 0)] := rfl
set_option maxHeartbeats 2000000 in
theorem xGpub_ok {P : xP} {rg : Nat → xG} {d k gn : Nat} {S S' : xS} {o : rvS} (hs : xGpub rg d k gn S = some S') (h : xRel rg (xFM P) S o) : xRel rg (xFM P) S' o := by
  obtain ⟨r, T, pl, h1, h2, h3, h4, h5, h6, h7, h8, h9⟩ := h
  unfold xGpub at hs
  split at hs
  · rename_i s v3 hk hfr
    obtain ⟨hb, rfl⟩ := rv_bif hs
    obtain ⟨d1, e2⟩ := rv_and hb
    obtain ⟨d2, e3⟩ := rv_and e2
    obtain ⟨un, e4⟩ := rv_and e3
    obtain ⟨pt, sg⟩ := rv_and e4
    have g40 := rv_ble d1
    have gn40 := rv_blt d2
    obtain ⟨i, c, p1, p2, p3, p4⟩ := h4.2 k s hk
    obtain ⟨i2, q1, q2⟩ := h6 _ (xHas_ok hfr)
    have e : i2 = i := by rw [p1] at q1; exact (Option.some.inj q1).symm
    subst e
    have hlt : i2 < T.length := (List.getElem?_eq_some_iff.mp p2).1
    have m : xTm2 T (T.set i2 gn) := by
      refine ⟨by simp, fun j g hj hg => ?_⟩
      rw [List.getElem?_set]
      by_cases e : i2 = j
      · subst e
        rw [p2] at hj
        have := Option.some.inj hj
        omega
      · simp [e, hj]
    have oth : ∀ (k' : Nat) (t : xC) (j : Nat), ¬ k = k' → S.2.2.2.1[k']? = some t → pl[k']? = some j → T[j]? = some t.1 → ¬ i2 = j := by
      intro k' t j hkk ht hj hT e
      subst e
      rw [p2] at hT
      have e1 := Option.some.inj hT
      have hl9 := (List.getElem?_eq_some_iff.mp ht).1
      have := List.all_eq_true.mp un k' (List.mem_range.mpr hl9)
      rw [ht] at this
      rcases rv_or' this with e | e
      · exact hkk (rv_beq e).symm
      · have e9 : (!Nat.beq t.1 s.1) = true := e
        rw [← e1, Nat.beq_refl] at e9
        cases e9
    have hSt : xSt r (T.set i2 gn) pl (S.2.2.2.1.set k (gn, s.2)) o.2.2.2.1 := by
      refine ⟨by simp [h4.1], fun k' t ht => ?_⟩
      rw [List.getElem?_set] at ht
      by_cases e : k = k'
      · subst e
        have hl9 := (List.getElem?_eq_some_iff.mp hk).1
        simp [hl9] at ht
        subst ht
        exact ⟨i2, c, p1, by rw [List.getElem?_set]; simp [hlt], p3, fun q hq => xOv_t m (p4 q hq)⟩
      · simp [e] at ht
        obtain ⟨j, c2, j1, j2, j3, j4⟩ := h4.2 k' t ht
        have hne := oth k' t j e ht j1 j2
        exact ⟨j, c2, j1, by rw [List.getElem?_set]; simp [hne, j2], j3, fun q hq => xOv_t m (j4 q hq)⟩
    have hcell : xCell (T.set i2 gn) pl (rg gn) c := by
      have hc0 := h5.2 i2 s.1 c p2 p3
      unfold xPubT at pt
      split at pt
      · rename_i ci fts0 cj fts hg0 hg1
        rw [hg0] at hc0
        rw [hg1]
        obtain ⟨fl, rfl, hlen, -⟩ := xCell_obj hc0
        obtain ⟨t1, f2⟩ := rv_and pt
        obtain ⟨t2, t3⟩ := rv_and f2
        have t1 := rv_beq t1
        have t2 := rv_beq t2
        subst t1
        refine ⟨rfl, by omega, fun f ty w hf hw => ?_⟩
        have hl9 := (List.getElem?_eq_some_iff.mp hf).1
        have t4 := List.all_eq_true.mp t3 f (List.mem_range.mpr hl9)
        rw [hf] at t4
        have t4 : (match some ty, xFind s.2 (f : Int) with
          | some ty, some v => xPubV d S.2.2.2.2.2.1 S.2.2.2.1 ty v
          | _, _ => false) = true := t4
        split at t4
        · rename_i ty2 v2 e1 e2
          have e1 := Option.some.inj e1
          subst e1
          obtain ⟨w2, w3, w4⟩ := xFind_ok e2 p4
          have e5 : w2 = w := by
            have w3 : fl[f]? = some w2 := w3
            rw [hw] at w3
            exact (Option.some.inj w3).symm
          subst e5
          unfold xPubV at t4
          split at t4
          · rename_i tt a
            obtain ⟨z, rfl, ez, z32, -⟩ := xR_pt w4
            obtain ⟨k1, k2⟩ := xIn_ok h7 t4
            exact ⟨z, by omega, by omega, z32, rfl⟩
          · rename_i g k2 hh9
            split at t4
            · rename_i s2 hs2
              obtain ⟨u1, u2⟩ := rv_and t4
              have u1 := rv_beq u1
              have u2 := rv_blt u2
              obtain ⟨j, hj, rfl⟩ := w4
              obtain ⟨j2, c2, j3, j4, -, -⟩ := h4.2 k2 s2 hs2
              have e6 : j2 = j := by rw [hj] at j3; exact (Option.some.inj j3).symm
              subst e6
              rw [u1] at j4
              exact ⟨u2, j2, m.2 j2 g j4 u2, rfl⟩
            · cases t4
          · rename_i k9
            obtain ⟨z, rfl, -⟩ := xR_lc w4
            exact ⟨z, rfl⟩
          · cases t4
        · cases t4
      · rename_i q n p sg9 q2 n2 p9 sg2 hg0 hg1
        obtain ⟨u1, w2⟩ := rv_and pt
        obtain ⟨u2, w3⟩ := rv_and w2
        obtain ⟨u3, u4⟩ := rv_and w3
        have u1 := rv_beq u1
        have u2 := rv_beq u2
        have u3 := rv_beq u3
        have u4 := xSeq_ok u4
        subst u1; subst u2; subst u3; subst u4
        rw [hg0] at hc0
        rw [hg1]
        exact xCell_t m hc0
      · cases pt
    have hHp : xHp rg (T.set i2 gn) pl o.2.2.2.1 := by
      refine ⟨by simp [h5.1], fun j g c2 hj hc2 => ?_⟩
      rw [List.getElem?_set] at hj
      by_cases e : i2 = j
      · subst e
        simp [hlt] at hj
        subst hj
        rw [p3] at hc2
        have e := Option.some.inj hc2
        subst e
        exact hcell
      · simp [e] at hj
        exact xCell_t m (h5.2 j g c2 hj hc2)
    refine ⟨r, T.set i2 gn, pl, h1, xRs_t m h2, xRs_t m h3, hSt, hHp, fun f hf9 => ?_, h7, h8, h9⟩
    have hf := h6 f hf9
    obtain ⟨kd, ns, vs⟩ := f
    match kd, hf with
    | 0, hf =>
      obtain ⟨f1, ⟨f2, f3⟩, f4, f5⟩ := hf
      refine ⟨f1, ⟨by simp; exact f2, fun j hj => ?_⟩, f4, f5⟩
      rw [List.getElem?_set]
      have hne : ¬ i2 = j := by omega
      simp [hne]
      exact f3 j hj
    | 1, hf =>
      match ns, hf with
      | n :: ns, hf =>
        obtain ⟨l, l1, l2⟩ := hf
        exact ⟨l, l1, xRs_t m l2⟩
      | [], hf => exact absurd hf id
    | 2, hf =>
      have old : ∀ j, T[j]? = some 14 → ∃ (c : rvC) (a b : Nat) (n : Int), o.2.2.2.1[j]? = some c ∧ xSlot c 0 = some (.inr (2, a)) ∧ (T.set i2 gn)[a]? = some 15 ∧ xSlot c 2 = some (.inr (2, b)) ∧ (T.set i2 gn)[b]? = some 17 ∧ xRdc o.2.2.2.1 j 4 = some n ∧ ∀ m : Nat, (m : Int) < n → ∃ bx ∈ (xGrp 6).2, xBx (fun k j => bif Nat.beq k 53 then xRdc o.2.2.2.1 a j else xRdc o.2.2.2.1 b j) m (xGrp 6).1 bx := by
        intro j hj
        obtain ⟨c2, a, b, n, k1, k2, k3, k4, k5, k6, k7⟩ := hf j hj
        exact ⟨c2, a, b, n, k1, k2, m.2 a 15 k3 (by omega), k4, m.2 b 17 k5 (by omega), k6, k7⟩
      intro j hj
      rw [List.getElem?_set] at hj
      by_cases e : i2 = j
      · subst e
        simp [hlt] at hj
        subst hj
        rcases rv_or' sg with e | e
        · have e : (!Nat.beq 14 14) = true := e
          cases e
        · obtain ⟨s1, s2⟩ := rv_and e
          unfold xPubS at s1
          split at s1
          · rename_i B v e1 e2 e3 e4
            split at s2
            · rename_i a9 b9 ha9 hb9
              obtain ⟨r1, r2⟩ := rv_and s2
              have r1 := rv_beq r1
              have r2 := rv_beq r2
              obtain ⟨wa, a1, a2⟩ := xFind_ok (j := 0) e2 p4
              obtain ⟨wb, b1, b2⟩ := xFind_ok (j := 2) e3 p4
              obtain ⟨wv, v1, v2⟩ := xFind_ok (j := 4) e4 p4
              obtain ⟨z, rfl, ez, z32, -⟩ := xR_pt v2
              obtain ⟨a, ha, rfl⟩ := a2
              obtain ⟨b, hb2, rfl⟩ := b2
              obtain ⟨ja, ca, ja1, ja2, -, -⟩ := h4.2 53 a9 ha9
              have ea : ja = a := by rw [ha] at ja1; exact (Option.some.inj ja1).symm
              subst ea
              obtain ⟨jb, cb, jb1, jb2, -, -⟩ := h4.2 55 b9 hb9
              have eb : jb = b := by rw [hb2] at jb1; exact (Option.some.inj jb1).symm
              subst eb
              rw [r1] at ja2
              rw [r2] at jb2
              obtain ⟨-, hB⟩ := h6 _ (xHas_ok e1)
              have hB : xPf (xRd pl o.2.2.2.1) 6 (xVal r (xSm B)) := hB
              have hle := xEnt_ok h7.1 h7.2.1 d s1
              rw [xSub_ok, ← ez] at hle
              refine ⟨c, ja, jb, z, p3, a1, m.2 ja 15 ja2 (by omega), b1, m.2 jb 17 jb2 (by omega), xRdc_of p3 v1 z32, fun n hn => ?_⟩
              obtain ⟨bx, bx1, bx2⟩ := hB n (by omega)
              refine ⟨bx, bx1, xBx_mono (fun t ht y hy => ?_) bx2⟩
              rw [xGrp6] at ht
              show (bif Nat.beq t.1 53 then xRdc o.2.2.2.1 ja (t.2.1 * n + t.2.2) else xRdc o.2.2.2.1 jb (t.2.1 * n + t.2.2)) = some y
              rcases List.mem_cons.mp ht with e | ht
              · subst e
                unfold xRd at hy
                rw [ha] at hy
                exact hy
              · have e := List.mem_singleton.mp ht
                subst e
                unfold xRd at hy
                rw [hb2] at hy
                exact hy
            · cases s2
          · cases s1
      · simp [e] at hj
        exact old j hj
    | 3, hf => exact hf
    | kd + 4, hf => exact hf
  · cases hs
