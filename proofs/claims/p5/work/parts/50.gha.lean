/-! Steps that no instruction takes: what is known is looked at another way. -/
/-- a number that stands somewhere: (0, i, _) the local i, (1, i, _) the i-th of the stack, (2, k, j) the slot j of the strong cell k, (3, n, _) n itself -/
def xPlc (S : xS) (p : Nat × Nat × Nat) : Option (Nat × Int × Int) := match p with
  | (0, i, _) => (match S.2.1[i]? with
    | some (.inl v) => some v
    | _ => none)
  | (1, i, _) => (match S.2.2.1[i]? with
    | some (.inl v) => some v
    | _ => none)
  | (2, k, j) => (match S.2.2.2.1[k]? with
    | some s => (match xFind s.2 (j : Int) with
      | some (.inl v) => some v
      | _ => none)
    | none => none)
  | (3, n, _) => some (0, 0, (n : Int))
  | _ => none
theorem xPlc_ok {rg : Nat → xG} {fm : xF → List Int → List Nat → List Nat → rvH → Prop} {S : xS} {p : Nat × Nat × Nat} {v : Nat × Int × Int} {r : List Int} {T pl : List Nat} {cl cs : List rvV} {aw : rvH} (hl : xRs r T pl S.2.1 cl) (hst : xRs r T pl S.2.2.1 cs) (hS : xSt r T pl S.2.2.2.1 aw) (h : xPlc S p = some v) : xWf r.length (xSm v).1 := by
  unfold xPlc at h
  split at h
  · split at h
    · rename_i hv
      cases h
      obtain ⟨c, -, h2⟩ := xRs_get hl hv
      exact h2.1
    · cases h
  · split at h
    · rename_i hv
      cases h
      obtain ⟨c, -, h2⟩ := xRs_get hst hv
      exact h2.1
    · cases h
  · split at h
    · rename_i s hs
      split at h
      · rename_i hv
        cases h
        obtain ⟨i, c, p1, p2, p3, p4⟩ := hS.2 _ s hs
        obtain ⟨w, -, h2⟩ := xFind_ok hv p4
        exact h2.1
      · cases h
    · cases h
  · cases h
    exact fun q hq => by cases hq
  · cases h
def xWq (S : xS) (Q : xQ) : xS := (S.1, S.2.1, S.2.2.1, S.2.2.2.1, S.2.2.2.2.1, Q, S.2.2.2.2.2.2.1, S.2.2.2.2.2.2.2)
def xWf2 (S : xS) (fs : List xF) : xS := (S.1, S.2.1, S.2.2.1, S.2.2.2.1, fs, S.2.2.2.2.2.1, S.2.2.2.2.2.2.1, S.2.2.2.2.2.2.2)
def xWa (S : xS) (ah : List xC) (Q : xQ) : xS := (S.1, S.2.1, S.2.2.1, ah, S.2.2.2.2.1, Q, S.2.2.2.2.2.2.1, S.2.2.2.2.2.2.2)
/-- split at thresholds -/
def xSpl (l : xL) : List Int → xQ → List xQ
  | [], Q => [Q]
  | t :: ts, Q => xOl (xKnow (xSub (xK (t - 1)) l) Q) ++ (xOl (xKnow (xSub l (xK t)) Q)).flatMap (xSpl l ts)
theorem xSpl_ok {l : xL} {r : List Int} : ∀ (ts : List Int) {Q : xQ}, xQs Q r → ∃ Q' ∈ xSpl l ts Q, xQs Q' r
  | [], Q, h => ⟨Q, List.mem_singleton.mpr rfl, h⟩
  | t :: ts, Q, h => by
      by_cases hc : xVal r l ≤ t - 1
      · obtain ⟨Q2, hm, hQ2, -⟩ := xOl_ok (l := xSub (xK (t - 1)) l) h (by rw [xSub_ok, xK_ok]; omega)
        exact ⟨Q2, List.mem_append.mpr (Or.inl hm), hQ2⟩
      · obtain ⟨Q2, hm, hQ2, -⟩ := xOl_ok (l := xSub l (xK t)) h (by rw [xSub_ok, xK_ok]; omega)
        obtain ⟨Q3, hm3, hQ3⟩ := xSpl_ok ts hQ2
        exact ⟨Q3, List.mem_append.mpr (Or.inr (List.mem_flatMap.mpr ⟨Q2, hm, hm3⟩)), hQ3⟩
def xGsplit (p : Nat × Nat × Nat) (ts : List Int) (S : xS) : Option (List xS) := match xPlc S p with
  | some v => some ((xSpl (xSm v) ts S.2.2.2.2.2.1).map (xWq S))
  | none => none
theorem xGsplit_ok {rg : Nat → xG} {fm : xF → List Int → List Nat → List Nat → rvH → Prop} {p : Nat × Nat × Nat} {ts : List Int} {S : xS} {Ss : List xS} {o : rvS} (hs : xGsplit p ts S = some Ss) (h : xRel rg fm S o) : ∃ S' ∈ Ss, xRel rg fm S' o := by
  unfold xGsplit at hs
  split at hs
  · rename_i v hv
    cases hs
    obtain ⟨r, T, pl, h1, h2, h3, h4, h5, h6, h7, h8, h9⟩ := h
    obtain ⟨Q', m, hq⟩ := xSpl_ok (l := xSm v) ts h7
    exact ⟨xWq S Q', List.mem_map.mpr ⟨Q', m, rfl⟩, r, T, pl, h1, h2, h3, h4, h5, h6, hq, h8, h9⟩
  · cases hs
/-- facts are forgotten; slots are forgotten -/
def xGdropF (kds : List Nat) (S : xS) : xS := xWf2 S (S.2.2.2.2.1.filter (fun f => !kds.any (fun k => Nat.beq k f.1)))
theorem xGdropF_ok {rg : Nat → xG} {fm : xF → List Int → List Nat → List Nat → rvH → Prop} {kds : List Nat} {S : xS} {o : rvS} (h : xRel rg fm S o) : xRel rg fm (xGdropF kds S) o := by
  obtain ⟨r, T, pl, h1, h2, h3, h4, h5, h6, h7, h8, h9⟩ := h
  exact ⟨r, T, pl, h1, h2, h3, h4, h5, fun f hf => h6 f (List.mem_filter.mp hf).1, h7, h8, h9⟩
def xGdropS (k : Nat) (kp : List Int) (S : xS) : xS := xWa S (match S.2.2.2.1[k]? with
  | some s => S.2.2.2.1.set k (s.1, s.2.filter (fun b => decide (b.1.2.1 = 0) && kp.any (fun n => decide (n = b.1.2.2))))
  | none => S.2.2.2.1) S.2.2.2.2.2.1
theorem xGdropS_ok {rg : Nat → xG} {fm : xF → List Int → List Nat → List Nat → rvH → Prop} {k : Nat} {kp : List Int} {S : xS} {o : rvS} (h : xRel rg fm S o) : xRel rg fm (xGdropS k kp S) o := by
  obtain ⟨r, T, pl, h1, h2, h3, h4, h5, h6, h7, h8, h9⟩ := h
  refine ⟨r, T, pl, h1, h2, h3, ?_, h5, h6, h7, h8, h9⟩
  show xSt r T pl (match S.2.2.2.1[k]? with
    | some s => S.2.2.2.1.set k (s.1, s.2.filter (fun b => decide (b.1.2.1 = 0) && kp.any (fun n => decide (n = b.1.2.2))))
    | none => S.2.2.2.1) o.2.2.2.1
  split
  · rename_i s hs
    obtain ⟨i, c, p1, p2, p3, p4⟩ := h4.2 k s hs
    exact xSt_put h4 hs p1 p3 (fun q hq => p4 q (List.mem_filter.mp hq).1)
  · exact h4
/-- the slot j of the strong cell k gets a number's name -/
def xTyp (rg : Nat → xG) (g j : Nat) : Option xT := match rg g with
  | .inl (_, fts) => fts[j]?
  | .inr (_, n, p, sg) => bif Nat.blt j n && Nat.blt 0 p then some (xAt sg (j % p)) else none
theorem xTyp_ok {rg : Nat → xG} {T pl : List Nat} {g j : Nat} {c : rvC} {ty : xT} (hc : xCell T pl (rg g) c) (h : xTyp rg g j = some ty) : ∃ w, xSlot c j = some w ∧ xTy T pl ty w := by
  unfold xTyp at h
  split at h
  · rename_i ci fts hg
    rw [hg] at hc
    obtain ⟨fl, rfl, hlen, hty⟩ := xCell_obj hc
    exact xCell_fld hlen hty h
  · rename_i q n p sg hg
    rw [hg] at hc
    obtain ⟨dv, ov, rfl, hty⟩ := xCell_row hc
    obtain ⟨hb, rfl⟩ := rv_bif h
    obtain ⟨b1, b2⟩ := rv_and hb
    refine ⟨rvLook dv ov j, ?_, hty j (rv_blt b1)⟩
    show (bif Nat.blt j n then some (rvLook dv ov j) else none) = _
    rw [b1]
    rfl
def xGrec (rg : Nat → xG) (k j : Nat) (S : xS) : Option xS := match S.2.2.2.1[k]? with
  | some s => (match xFind s.2 (j : Int) with
    | some _ => some S
    | none => (match xFindL S.2.2.2.2.2.1 (0, 0, (j : Int)) s.2 with
      | some v => some (xWa S (S.2.2.2.1.set k (s.1, ((0, 0, (j : Int)), v) :: s.2)) S.2.2.2.2.2.1)
      | none => (match xTyp rg s.1 j with
        | some (.inl t) => some (xWa S (S.2.2.2.1.set k (s.1, ((0, 0, (j : Int)), (xNew t S.2.2.2.2.2.1).2) :: s.2)) (xNew t S.2.2.2.2.2.1).1)
        | some (.inr q) => some (xWa S (S.2.2.2.1.set k (s.1, ((0, 0, (j : Int)), .inr q) :: s.2)) S.2.2.2.2.2.1)
        | none => none)))
  | none => none
theorem xGrec_ok {rg : Nat → xG} {fm : xF → List Int → List Nat → List Nat → rvH → Prop} (hf : xFm fm) {k j : Nat} {S S' : xS} {o : rvS} (hs : xGrec rg k j S = some S') (h : xRel rg fm S o) : xRel rg fm S' o := by
  unfold xGrec at hs
  obtain ⟨r, T, pl, h1, h2, h3, h4, h5, h6, h7, h8, h9⟩ := h
  split at hs
  · rename_i s hk
    obtain ⟨i, c, p1, p2, p3, p4⟩ := h4.2 k s hk
    split at hs
    · cases hs
      exact ⟨r, T, pl, h1, h2, h3, h4, h5, h6, h7, h8, h9⟩
    · split at hs
      · rename_i v hv
        cases hs
        obtain ⟨w2, w3⟩ := xSm_nat r j
        obtain ⟨w, w1, w4⟩ := xFindL_ok h7 w3 hv p4
        refine ⟨r, T, pl, h1, h2, h3, ?_, h5, h6, h7, h8, h9⟩
        refine xSt_put h4 hk p1 p3 (fun b hb9 => ?_)
        rcases List.mem_cons.mp hb9 with e | hb9
        · rw [e]
          exact ⟨w2, j, _, w3, w1, w4⟩
        · exact p4 b hb9
      split at hs
      · rename_i t ht
        cases hs
        obtain ⟨w, w1, z, z1, z2, z3, rfl⟩ := xTyp_ok (h5.2 i s.1 c p2 p3) ht
        obtain ⟨r', hr, hQ2, hv⟩ := xNew_ok (a := t) T pl h7 z1 z2 z3
        have gr := xG_r (T := T) (pl := pl) hr
        obtain ⟨tr, rfl⟩ := hr
        refine ⟨r ++ tr, T, pl, h1, xRs_grow gr h2, xRs_grow gr h3, ?_, h5, fun f hf9 => hf f r tr T pl _ (h6 f hf9), hQ2, h8, h9⟩
        refine xSt_put (xSt_app tr h4) hk p1 p3 (fun b hb9 => ?_)
        rcases List.mem_cons.mp hb9 with e | hb9
        · rw [e]
          obtain ⟨w2, w3⟩ := xSm_nat (r ++ tr) j
          exact ⟨w2, j, _, w3, w1, hv⟩
        · exact xOv_grow gr (p4 b hb9)
      · rename_i q ht
        cases hs
        obtain ⟨w, w1, hw⟩ := xTyp_ok (h5.2 i s.1 c p2 p3) ht
        refine ⟨r, T, pl, h1, h2, h3, ?_, h5, h6, h7, h8, h9⟩
        refine xSt_put h4 hk p1 p3 (fun b hb9 => ?_)
        rcases List.mem_cons.mp hb9 with e | hb9
        · rw [e]
          obtain ⟨w2, w3⟩ := xSm_nat r j
          exact ⟨w2, j, _, w3, w1, xTy_ref hw⟩
        · exact p4 b hb9
      · cases hs
  · cases hs
