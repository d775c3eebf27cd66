/-! Groups of rows: a record is looked at, one more is known. -/
theorem xRd_of {r : List Int} {T pl : List Nat} {ah : List xC} {aw : rvH} {Q : xQ} {k m : Nat} {s : xC} {b v : Nat × Int × Int} (hS : xSt r T pl ah aw) (hk : ah[k]? = some s) (hQ : xQs Q r) (hb : xVal r (xSm b) = (m : Int)) (hv : xFindL Q b s.2 = some (.inl v)) : xRd pl aw k m = some (xVal r (xSm v)) := by
  obtain ⟨i, c, p1, p2, p3, p4⟩ := hS.2 k s hk
  obtain ⟨w, w1, w2⟩ := xFindL_ok hQ hb hv p4
  obtain ⟨z, rfl, ez, z32, -⟩ := xR_pt w2
  unfold xRd
  rw [p1, ← ez]
  exact xRdc_of p3 w1 z32
theorem xRd_pt {pl : List Nat} {aw : rvH} {k j : Nat} {z : Int} (h : xRd pl aw k j = some z) : ∃ i c, pl[k]? = some i ∧ aw[i]? = some c ∧ xSlot c j = some (.inl (z, z)) ∧ xIn32 z := by
  unfold xRd at h
  split at h
  · rename_i i hi
    obtain ⟨c, h1, h2, h3⟩ := xRdc_pt h
    exact ⟨i, c, hi, h1, h2, h3⟩
  · cases h
/-- the place of a record's part -/
def xAd (j : Nat × Int × Int) (q off : Nat) : Nat × Int × Int := (j.1, j.2.1 * (q : Int), j.2.2 * (q : Int) + (off : Int))
theorem xAd_val (r : List Int) (j : Nat × Int × Int) (q off : Nat) : xVal r (xSm (xAd j q off)) = xVal r (xSm j) * (q : Int) + (off : Int) := by
  rw [xSm_val, xSm_val]
  show j.2.1 * (q : Int) * r.getD j.1 0 + (j.2.2 * (q : Int) + (off : Int)) = (j.2.1 * r.getD j.1 0 + j.2.2) * (q : Int) + (off : Int)
  rw [Int.add_mul, Int.mul_right_comm]
  omega
theorem xAd_wf {n : Nat} {j : Nat × Int × Int} {q off : Nat} (h : xWf n (xSm j).1) : xWf n (xSm (xAd j q off)).1 := by
  intro p hp
  unfold xSm xAd at hp
  dsimp only at hp
  cases h1 : decide (j.2.1 * (q : Int) = 0) with
  | true => rw [h1] at hp; cases hp
  | false =>
    rw [h1] at hp
    have h1 := of_decide_eq_false h1
    have h2 : ¬ j.2.1 = 0 := fun e => h1 (by rw [e, Int.zero_mul])
    have e : p = (j.1, j.2.1 * (q : Int)) := List.mem_singleton.mp hp
    subst e
    refine h (j.1, j.2.1) ?_
    unfold xSm
    rw [decide_eq_false h2]
    exact List.mem_singleton.mpr rfl
def xHas (fs : List xF) (kd : Nat) (ns : List Nat) : Option (List (Nat × Int × Int)) := match fs with
  | [] => none
  | f :: t => bif Nat.beq f.1 kd && decide (f.2.1 = ns) then some f.2.2 else xHas t kd ns
theorem xHas_ok {kd : Nat} {ns : List Nat} {vs : List (Nat × Int × Int)} : ∀ {fs : List xF}, xHas fs kd ns = some vs → (kd, ns, vs) ∈ fs
  | [], h => by cases h
  | f :: t, h => by
      unfold xHas at h
      cases hb : (Nat.beq f.1 kd && decide (f.2.1 = ns)) with
      | true =>
        rw [hb] at h
        have e := Option.some.inj h
        obtain ⟨b1, b2⟩ := rv_and hb
        have b1 := rv_beq b1
        have b2 := of_decide_eq_true b2
        obtain ⟨a1, a2, a3⟩ := f
        have e : a3 = vs := e
        have b1 : a1 = kd := b1
        have b2 : a2 = ns := b2
        subst e; subst b1; subst b2
        exact List.mem_cons_self
      | false =>
        rw [hb] at h
        exact List.mem_cons_of_mem _ (xHas_ok h)
def xOpn (j : Nat × Int × Int) : List (Nat × Nat × Nat) → List (Int × Int) → xS → Option (List xS)
  | [], _, S => some [S]
  | a :: ss, b :: bs, S => (match S.2.2.2.1[a.1]? with
    | some s => (match xFindL S.2.2.2.2.2.1 (xAd j a.2.1 a.2.2) s.2 with
      | some (.inl v) => (match xKnow (xSub (xSm v) (xK b.1)) S.2.2.2.2.2.1 with
        | none => some []
        | some Q1 => (match xKnow (xSub (xK b.2) (xSm v)) Q1 with
          | none => some []
          | some Q2 => xOpn j ss bs (xWq S Q2)))
      | some (.inr _) => none
      | none => xOpn j ss bs (xWa S (S.2.2.2.1.set a.1 (s.1, (xAd j a.2.1 a.2.2, (xNew b S.2.2.2.2.2.1).2) :: s.2)) (xNew b S.2.2.2.2.2.1).1))
    | none => none)
  | _ :: _, [], _ => none
theorem xOpn_ok {rg : Nat → xG} {fm : xF → List Int → List Nat → List Nat → rvH → Prop} (hf : xFm fm) {j : Nat × Int × Int} {jn : Nat} {o : rvS} {T pl : List Nat} : ∀ (ss : List (Nat × Nat × Nat)) (bs : List (Int × Int)) {S : xS} {Ss : List xS} {r : List Int}, xOpn j ss bs S = some Ss → o.1 = S.1 → xRs r T pl S.2.1 o.2.1 → xRs r T pl S.2.2.1 o.2.2.1 → xSt r T pl S.2.2.2.1 o.2.2.2.1 → xHp rg T pl o.2.2.2.1 → (∀ f ∈ S.2.2.2.2.1, fm f r T pl o.2.2.2.1) → xQs S.2.2.2.2.2.1 r → o.2.2.2.2.1 = S.2.2.2.2.2.2.1 → o.2.2.2.2.2 = S.2.2.2.2.2.2.2 →
    xWf r.length (xSm j).1 → xVal r (xSm j) = (jn : Int) → xBx (xRd pl o.2.2.2.1) jn ss bs → ∃ S' ∈ Ss, xRel rg fm S' o
  | [], bs, S, Ss, r, hs, h1, h2, h3, h4, h5, h6, h7, h8, h9, hw, hj, hb => by
      cases hs
      exact ⟨S, List.mem_singleton.mpr rfl, r, T, pl, h1, h2, h3, h4, h5, h6, h7, h8, h9⟩
  | a :: ss, [], S, Ss, r, hs, h1, h2, h3, h4, h5, h6, h7, h8, h9, hw, hj, hb => by cases hs
  | a :: ss, b :: bs, S, Ss, r, hs, h1, h2, h3, h4, h5, h6, h7, h8, h9, hw, hj, hb => by
      obtain ⟨⟨z, z1, z2, z3⟩, hb2⟩ := hb
      have hkey : xVal r (xSm (xAd j a.2.1 a.2.2)) = ((a.2.1 * jn + a.2.2 : Nat) : Int) := by
        rw [xAd_val, hj, Int.natCast_add, Int.natCast_mul, Int.mul_comm]
      unfold xOpn at hs
      split at hs
      · rename_i s hk
        split at hs
        · rename_i v hv
          have e := xRd_of h4 hk h7 hkey hv
          rw [z1] at e
          have e := Option.some.inj e
          obtain ⟨Q1, q1, hQ1, -⟩ := xKnow_ok (l := xSub (xSm v) (xK b.1)) h7 (by rw [xSub_ok, xK_ok]; omega)
          rw [q1] at hs
          obtain ⟨Q2, q2, hQ2, -⟩ := xKnow_ok (l := xSub (xK b.2) (xSm v)) hQ1 (by rw [xSub_ok, xK_ok]; omega)
          have hs : (match xKnow (xSub (xK b.2) (xSm v)) Q1 with
            | none => some []
            | some Q2 => xOpn j ss bs (xWq S Q2)) = some Ss := hs
          rw [q2] at hs
          exact xOpn_ok hf ss bs (S := xWq S Q2) hs h1 h2 h3 h4 h5 h6 hQ2 h8 h9 hw hj hb2
        · cases hs
        · rename_i hv
          obtain ⟨i, c, p1, p2, p3, z32⟩ := xRd_pt z1
          obtain ⟨i2, c2, t1, t2, t3, t4⟩ := h4.2 a.1 s hk
          have e1 : i2 = i := by rw [p1] at t1; exact (Option.some.inj t1).symm
          subst e1
          have e2 : c2 = c := by rw [p2] at t3; exact (Option.some.inj t3).symm
          subst e2
          obtain ⟨r', hr, hQ2, hv2⟩ := xNew_ok (a := b) T pl h7 z2 z3 z32
          have gr := xG_r (T := T) (pl := pl) hr
          obtain ⟨tr, rfl⟩ := hr
          refine xOpn_ok hf ss bs (S := xWa S (S.2.2.2.1.set a.1 (s.1, (xAd j a.2.1 a.2.2, (xNew b S.2.2.2.2.2.1).2) :: s.2)) (xNew b S.2.2.2.2.2.1).1) (r := r ++ tr) hs h1 (xRs_grow gr h2) (xRs_grow gr h3) ?_ h5 (fun f hf9 => hf f r tr T pl _ (h6 f hf9)) hQ2 h8 h9 (xWf_app hw) (by rw [xVal_app hw]; exact hj) hb2
          refine xSt_put (xSt_app tr h4) hk t1 t3 (fun q hq => ?_)
          rcases List.mem_cons.mp hq with e | hq
          · rw [e]
            exact ⟨xWf_app (xAd_wf hw), _, _, (by rw [xVal_app (xAd_wf hw)]; exact hkey), p3, hv2⟩
          · exact xOv_grow gr (t4 q hq)
      · cases hs
def xCat : List (Option (List xS)) → Option (List xS)
  | [] => some []
  | none :: _ => none
  | some a :: t => (match xCat t with
    | some b => some (a ++ b)
    | none => none)
theorem xCat_ok {a : List xS} : ∀ {l : List (Option (List xS))} {Ss : List xS}, xCat l = some Ss → ∀ x ∈ l, ∃ a, x = some a ∧ ∀ S ∈ a, S ∈ Ss
  | [], _, _, x, hx => by cases hx
  | none :: t, _, h, _, _ => by cases h
  | some a :: t, Ss, h, x, hx => by
      unfold xCat at h
      split at h
      · rename_i b hb
        cases h
        rcases List.mem_cons.mp hx with e | hx
        · exact ⟨a, e, fun S hS => List.mem_append.mpr (Or.inl hS)⟩
        · obtain ⟨a2, e, h2⟩ := xCat_ok (a := a) hb x hx
          exact ⟨a2, e, fun S hS => List.mem_append.mpr (Or.inr (h2 S hS))⟩
      · cases h
noncomputable def xGopen (d g : Nat) (p : Nat × Nat × Nat) (S : xS) : Option (List xS) := match xHas S.2.2.2.2.1 4 [g], xPlc S p with
  | some [B], some j => bif xEnt S.2.2.2.2.2.1.1 S.2.2.2.2.2.1.2 d (xSm j) && xEnt S.2.2.2.2.2.1.1 S.2.2.2.2.2.1.2 d (xSub (xSub (xSm B) (xSm j)) (xK 1)) then xCat ((xGrp g).2.map (fun bx => xOpn j (xGrp g).1 bx S)) else none
  | _, _ => none
theorem xGopen_ok {P : xP} {rg : Nat → xG} {d g : Nat} {p : Nat × Nat × Nat} {S : xS} {Ss : List xS} {o : rvS} (hs : xGopen d g p S = some Ss) (h : xRel rg (xFM P) S o) : ∃ S' ∈ Ss, xRel rg (xFM P) S' o := by
  unfold xGopen at hs
  split at hs
  · rename_i B j hB hj
    obtain ⟨r, T, pl, h1, h2, h3, h4, h5, h6, h7, h8, h9⟩ := h
    obtain ⟨-, hB⟩ := h6 _ (xHas_ok hB)
    have hB : xPf (xRd pl o.2.2.2.1) g (xVal r (xSm B)) := hB
    have hw := xPlc_ok (rg := rg) (fm := xFM P) h2 h3 h4 hj
    cases hb : (xEnt S.2.2.2.2.2.1.1 S.2.2.2.2.2.1.2 d (xSm j) && xEnt S.2.2.2.2.2.1.1 S.2.2.2.2.2.1.2 d (xSub (xSub (xSm B) (xSm j)) (xK 1))) with
    | false => rw [hb] at hs; cases hs
    | true =>
      rw [hb] at hs
      obtain ⟨b1, b2⟩ := rv_and hb
      have k1 := xEnt_ok h7.1 h7.2.1 d b1
      have k2 := xEnt_ok h7.1 h7.2.1 d b2
      rw [xSub_ok, xSub_ok, xK_ok] at k2
      have hjn : xVal r (xSm j) = (((xVal r (xSm j)).toNat : Nat) : Int) := by omega
      obtain ⟨bx, m, hbx⟩ := hB (xVal r (xSm j)).toNat (by omega)
      obtain ⟨a, e, ha⟩ := xCat_ok (a := []) hs (xOpn j (xGrp g).1 bx S) (List.mem_map.mpr ⟨bx, m, rfl⟩)
      obtain ⟨S', m', hS'⟩ := xOpn_ok (xFM_app P) (xGrp g).1 bx e h1 h2 h3 h4 h5 h6 h7 h8 h9 hw hjn hbx
      exact ⟨S', ha S' m', hS'⟩
  · cases hs
/-- the facts of a kind and numbers are left out -/
def xOut (kd : Nat) (ns : List Nat) (fs : List xF) : List xF := fs.filter (fun f => !(Nat.beq f.1 kd && decide (f.2.1 = ns)))
noncomputable def xInB (d : Nat) (S : xS) (j : Nat × Int × Int) : List (Nat × Nat × Nat) → List (Int × Int) → Bool
  | [], _ => true
  | a :: ss, b :: bs => (match S.2.2.2.1[a.1]? with
    | some s => (match xFindL S.2.2.2.2.2.1 (xAd j a.2.1 a.2.2) s.2 with
      | some (.inl v) => xIn d S.2.2.2.2.2.1 v b.1 b.2 && xInB d S j ss bs
      | _ => false)
    | none => false)
  | _ :: _, [] => false
theorem xInB_ok {d : Nat} {S : xS} {j : Nat × Int × Int} {jn : Nat} {r : List Int} {T pl : List Nat} {aw : rvH} (h4 : xSt r T pl S.2.2.2.1 aw) (h7 : xQs S.2.2.2.2.2.1 r) (hj : xVal r (xSm j) = (jn : Int)) : ∀ (ss : List (Nat × Nat × Nat)) (bs : List (Int × Int)), xInB d S j ss bs = true → xBx (xRd pl aw) jn ss bs
  | [], _, _ => trivial
  | a :: ss, [], h => by cases h
  | a :: ss, b :: bs, h => by
      have hkey : xVal r (xSm (xAd j a.2.1 a.2.2)) = ((a.2.1 * jn + a.2.2 : Nat) : Int) := by
        rw [xAd_val, hj, Int.natCast_add, Int.natCast_mul, Int.mul_comm]
      unfold xInB at h
      split at h
      · rename_i s hk
        split at h
        · rename_i v hv
          obtain ⟨b1, b2⟩ := rv_and h
          exact ⟨⟨_, xRd_of h4 hk h7 hkey hv, xIn_ok h7 b1⟩, xInB_ok h4 h7 hj ss bs b2⟩
        · cases h
      · cases h
noncomputable def xGext (d g bi : Nat) (S : xS) : Option xS := match xHas S.2.2.2.2.1 4 [g], (xGrp g).2[bi]? with
  | some [B], some bx => bif xInB d S B (xGrp g).1 bx then some (xWf2 S ((4, [g], [(B.1, B.2.1, B.2.2 + 1)]) :: xOut 4 [g] S.2.2.2.2.1)) else none
  | _, _ => none
theorem xSm_one (r : List Int) (v : Nat × Int × Int) (n : Int) : xVal r (xSm (v.1, v.2.1, v.2.2 + n)) = xVal r (xSm v) + n ∧ (xSm (v.1, v.2.1, v.2.2 + n)).1 = (xSm v).1 := by
  refine ⟨?_, ?_⟩
  · rw [xSm_val, xSm_val]
    show v.2.1 * r.getD v.1 0 + (v.2.2 + n) = v.2.1 * r.getD v.1 0 + v.2.2 + n
    omega
  · unfold xSm
    cases decide (v.2.1 = 0) <;> rfl
theorem xGext_ok {P : xP} {rg : Nat → xG} {d g bi : Nat} {S S' : xS} {o : rvS} (hs : xGext d g bi S = some S') (h : xRel rg (xFM P) S o) : xRel rg (xFM P) S' o := by
  unfold xGext at hs
  split at hs
  · rename_i B bx hB hbx
    obtain ⟨r, T, pl, h1, h2, h3, h4, h5, h6, h7, h8, h9⟩ := h
    obtain ⟨hw, hB⟩ := h6 _ (xHas_ok hB)
    have hB : xPf (xRd pl o.2.2.2.1) g (xVal r (xSm B)) := hB
    have hw := hw B List.mem_cons_self
    obtain ⟨hc, rfl⟩ := rv_bif hs
    refine ⟨r, T, pl, h1, h2, h3, h4, h5, fun f hf9 => ?_, h7, h8, h9⟩
    rcases List.mem_cons.mp hf9 with e | hf9
    · subst e
      obtain ⟨e1, e2⟩ := xSm_one r B 1
      refine ⟨fun v hv => ?_, ?_⟩
      · rw [List.mem_singleton.mp hv, e2]
        exact hw
      · show xPf (xRd pl o.2.2.2.1) g (xVal r (xSm (B.1, B.2.1, B.2.2 + 1)))
        rw [e1]
        intro j hj
        rcases Int.lt_or_le (j : Int) (xVal r (xSm B)) with k | k
        · exact hB j k
        · exact ⟨bx, List.mem_of_getElem? hbx, xInB_ok h4 h7 (by omega) _ _ hc⟩
    · exact h6 f (List.mem_filter.mp hf9).1
  · cases hs
/-- no record is told of yet -/
def xGest (g : Nat) (S : xS) : xS := xWf2 S ((4, [g], [(0, 0, 0)]) :: xOut 4 [g] S.2.2.2.2.1)
theorem xGest_ok {P : xP} {rg : Nat → xG} {g : Nat} {S : xS} {o : rvS} (h : xRel rg (xFM P) S o) : xRel rg (xFM P) (xGest g S) o := by
  obtain ⟨r, T, pl, h1, h2, h3, h4, h5, h6, h7, h8, h9⟩ := h
  refine ⟨r, T, pl, h1, h2, h3, h4, h5, fun f hf9 => ?_, h7, h8, h9⟩
  rcases List.mem_cons.mp hf9 with e | hf9
  · subst e
    refine ⟨fun v hv => ?_, ?_⟩
    · rw [List.mem_singleton.mp hv]
      exact fun q hq => by cases hq
    · show xPf (xRd pl o.2.2.2.1) g (xVal r (xSm (0, 0, 0)))
      intro j hj
      rw [xSm_val] at hj
      have hj : (j : Int) < 0 * _ + 0 := hj
      omega
  · exact h6 f (List.mem_filter.mp hf9).1
/-- fewer records -/
noncomputable def xGwk (d g : Nat) (p : Nat × Nat × Nat) (S : xS) : Option xS := match xHas S.2.2.2.2.1 4 [g], xPlc S p with
  | some [B], some j => bif xEnt S.2.2.2.2.2.1.1 S.2.2.2.2.2.1.2 d (xSub (xSm B) (xSm j)) then some (xWf2 S ((4, [g], [j]) :: xOut 4 [g] S.2.2.2.2.1)) else none
  | _, _ => none
theorem xGwk_ok {P : xP} {rg : Nat → xG} {d g : Nat} {p : Nat × Nat × Nat} {S S' : xS} {o : rvS} (hs : xGwk d g p S = some S') (h : xRel rg (xFM P) S o) : xRel rg (xFM P) S' o := by
  unfold xGwk at hs
  split at hs
  · rename_i B j hB hj
    obtain ⟨r, T, pl, h1, h2, h3, h4, h5, h6, h7, h8, h9⟩ := h
    obtain ⟨-, hB⟩ := h6 _ (xHas_ok hB)
    have hB : xPf (xRd pl o.2.2.2.1) g (xVal r (xSm B)) := hB
    have hw := xPlc_ok (rg := rg) (fm := xFM P) h2 h3 h4 hj
    obtain ⟨hc, rfl⟩ := rv_bif hs
    have k := xEnt_ok h7.1 h7.2.1 d hc
    rw [xSub_ok] at k
    refine ⟨r, T, pl, h1, h2, h3, h4, h5, fun f hf9 => ?_, h7, h8, h9⟩
    rcases List.mem_cons.mp hf9 with e | hf9
    · subst e
      refine ⟨fun v hv => ?_, ?_⟩
      · rw [List.mem_singleton.mp hv]
        exact hw
      · show xPf (xRd pl o.2.2.2.1) g (xVal r (xSm j))
        exact fun m hm => hB m (by omega)
    · exact h6 f (List.mem_filter.mp hf9).1
  · cases hs
