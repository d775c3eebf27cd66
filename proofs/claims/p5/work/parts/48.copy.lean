/-! System.arraycopy of a whole row, and Object's constructor. -/
theorem rvWd_le : ∀ st : List rvV, rvWd st ≤ 2 * st.length
  | [] => Nat.le_refl _
  | v :: t => by
      have := rvWd_le t
      show (bif rvIsL v then 2 else 1) + rvWd t ≤ 2 * (t.length + 1)
      cases rvIsL v with
      | true => show 2 + rvWd t ≤ _; omega
      | false => show 1 + rvWd t ≤ _; omega
/-- a number that is known -/
def xPt (Q : xQ) (v : Nat × Int × Int) (n : Int) : Bool := match xItv Q v with
  | some a => decide (a.1 = n) && decide (a.2 = n)
  | none => false
theorem xPt_ok {Q : xQ} {r : List Int} {v : Nat × Int × Int} {n : Int} (h : xQs Q r) (hp : xPt Q v n = true) : xVal r (xSm v) = n := by
  unfold xPt at hp
  split at hp
  · rename_i a ha
    obtain ⟨h1, h2⟩ := xItv_ok h ha
    obtain ⟨e1, e2⟩ := rv_and hp
    have e1 := of_decide_eq_true e1
    have e2 := of_decide_eq_true e2
    omega
  · cases hp
noncomputable def xFcc (d g n : Nat) (Q : xQ) (ah : List xC) (f : xF) : Bool := match f.1 with
  | 2 => !(Nat.beq g 14 || (Nat.beq g 15 || Nat.beq g 17))
  | _ => xFtt d [g, 0, n] Q ah f
noncomputable def xCpy (rg : Nat → xG) (d BF BL : Nat) (S : xS) : Option (List xS) := match S with
  | (pc, al, st, ah, fs, Q, kc, ks) => match st with
    | .inl n :: .inl dp :: vx :: .inl sp :: vy :: st => (match xRef ah vx, xRef ah vy with
      | some g, some g2 => (match rg g with
        | .inr (0, m, _, _) => bif Nat.beq g g2 && (xPt Q n (m : Int) && (xPt Q dp 0 && (xPt Q sp 0 && (Nat.ble 1 BF && (Nat.ble (2 * st.length + 60) BL && Nat.blt m 2147483648))))) then
            some [(pc + 3, al, st, xKillG g (fun _ => false) ah, fs.filter (xFcc d g m Q ah), Q, kc, ks)] else none
        | _ => none)
      | _, _ => none)
    | _ => none
theorem xSt_all {r : List Int} {T pl : List Nat} {ah : List xC} {aw : rvH} {i g : Nat} {c' : rvC} (hS : xSt r T pl ah aw) (hi : T[i]? = some g) (hlt : i < aw.length) : xSt r T pl (xKillG g (fun _ => false) ah) (aw.set i c') := by
  refine ⟨by simp [xKillG, hS.1], fun k s hs => ?_⟩
  unfold xKillG at hs
  rw [List.getElem?_map] at hs
  cases hk : ah[k]? with
  | none => rw [hk] at hs; cases hs
  | some s0 =>
    rw [hk] at hs
    obtain ⟨i0, c0, p1, p2, p3, p4⟩ := hS.2 k s0 hk
    have hs : (bif Nat.beq s0.1 g then (s0.1, s0.2.filter (fun _ => false)) else s0) = s := Option.some.inj hs
    cases hb : Nat.beq s0.1 g with
    | true =>
      rw [hb] at hs
      subst hs
      by_cases e : i = i0
      · subst e
        refine ⟨i, c', p1, p2, by rw [List.getElem?_set]; simp [hlt], (fun q hq => ?_)⟩
        have := (List.mem_filter.mp hq).2
        cases this
      · refine ⟨i0, c0, p1, p2, by rw [List.getElem?_set]; simp [e, p3], (fun q hq => ?_)⟩
        have := (List.mem_filter.mp hq).2
        cases this
    | false =>
      rw [hb] at hs
      subst hs
      have e : i ≠ i0 := fun e => by
        subst e
        rw [hi] at p2
        exact xNbeq hb (Option.some.inj p2).symm
      exact ⟨i0, c0, p1, p2, by rw [List.getElem?_set]; simp [e, p3], p4⟩
set_option maxHeartbeats 1000000 in
theorem xp_copy {P : xP} {rg : Nat → xG} {BF BL d : Nat} {S : xS} {Ss : List xS} {o : rvS} (hs : xCpy rg d BF BL S = some Ss) (h : xRel rg (xFM P) S o) : ∃ o' S', rvCopy BF BL o.1 o.2.1 o.2.2.1 o.2.2.2.1 o.2.2.2.2.1 o.2.2.2.2.2 = some o' ∧ S' ∈ Ss ∧ xRel rg (xFM P) S' o' := by
  obtain ⟨pc, al, st, ah, fs, Q, kc, ks⟩ := S
  obtain ⟨r, T, pl, cl, cs, aw, rfl, hl, hst, hS, hP, hF, hQ⟩ := xRel_out h
  dsimp only at hl hst hS hF hQ ⊢
  simp only [xCpy] at hs
  split at hs
  · rename_i n dp vx sp vy st
    obtain ⟨c1, ds, rfl, hn, k1⟩ := xRs_cons hst
    obtain ⟨c2, ds, rfl, hdp, k2⟩ := xRs_cons k1
    obtain ⟨c3, ds, rfl, hvx, k3⟩ := xRs_cons k2
    obtain ⟨c4, ds, rfl, hsp, k4⟩ := xRs_cons k3
    obtain ⟨c5, ds, rfl, hvy, k5⟩ := xRs_cons k4
    obtain ⟨z1, rfl, e1, -, -⟩ := xR_pt hn
    obtain ⟨z2, rfl, e2, -, -⟩ := xR_pt hdp
    obtain ⟨z3, rfl, e3, -, -⟩ := xR_pt hsp
    split at hs
    · rename_i g g2 hg hg2
      obtain ⟨x, bx, rfl, x2, x3, xc⟩ := xRef_ok hS hP hvx hg
      obtain ⟨y, by9, rfl, y2, y3, yc⟩ := xRef_ok hS hP hvy hg2
      split at hs
      · rename_i m p sg hr
        obtain ⟨hb, rfl⟩ := rv_bif hs
        obtain ⟨b1, f2⟩ := rv_and hb
        obtain ⟨b2, f3⟩ := rv_and f2
        obtain ⟨b3, f4⟩ := rv_and f3
        obtain ⟨b4, f5⟩ := rv_and f4
        obtain ⟨b5, f6⟩ := rv_and f5
        obtain ⟨b6, b7⟩ := rv_and f6
        have b1 := rv_beq b1
        subst b1
        rw [hr] at xc yc
        obtain ⟨dx, ox, rfl, tx⟩ := xCell_row xc
        obtain ⟨dy, oy, rfl, ty⟩ := xCell_row yc
        have q1 := xPt_ok hQ b2
        have q2 := xPt_ok hQ b3
        have q3 := xPt_ok hQ b4
        have q1 : z1 = (m : Int) := by omega
        have q2 : z2 = 0 := by omega
        have q3 : z3 = 0 := by omega
        subst q1; subst q2; subst q3
        have hw : Nat.ble (rvWd ds + 60) BL = true := by
          have h1 := rvWd_le ds
          have h2 := xRs_len k5
          have h3 := rv_ble b6
          exact Nat.ble_eq_true_of_le (by omega)
        have hcond : (rvOne ((m : Int), (m : Int)) && (decide ((m : Int) = (m : Int)) && (Nat.beq m m && (rvOne ((0 : Int), (0 : Int)) && (decide ((0 : Int) = 0) && (rvOne ((0 : Int), (0 : Int)) && (decide ((0 : Int) = 0) && (Nat.ble 1 BF && (Nat.ble (rvWd ds + 60) BL && Nat.blt m 2147483648))))))))) = true := by
          rw [hw, b5, b7, rvOne_pt, rvOne_pt, Nat.beq_refl]
          simp
        have hlt : x < aw.length := (List.getElem?_eq_some_iff.mp x3).1
        refine ⟨(pc + 3, cl, ds, aw.set x (.inr (0, m, dy, oy)), kc, ks), _, ?_, List.mem_singleton.mpr rfl, r, T, pl, rfl, hl, k5, xSt_all hS x2 hlt, ?_, ?_, hQ, rfl, rfl⟩
        · have e : ∀ b : Bool, b = true → (bif b then some ((pc + 3, cl, ds, aw.set x (.inr (0, m, dy, oy)), kc, ks) : rvS) else none) = some (pc + 3, cl, ds, aw.set x (.inr (0, m, dy, oy)), kc, ks) := fun b hb => by rw [hb]; rfl
          simp only [rvCopy, y3, x3]
          exact e _ (by simpa using hcond)
        · refine ⟨by simp [hP.1], fun i g3 c hi hc => ?_⟩
          rw [List.getElem?_set] at hc
          by_cases e : x = i
          · subst e
            simp [hlt] at hc
            subst hc
            have e9 : g3 = g := by rw [x2] at hi; exact (Option.some.inj hi).symm
            subst e9
            rw [hr]
            exact ⟨rfl, rfl, ty⟩
          · simp [e] at hc
            exact hP.2 i g3 c hi hc
        · intro f hf9
          obtain ⟨m1, m2⟩ := List.mem_filter.mp hf9
          have hf := hF f m1
          have hchg : xChg (xInM [g, 0, m]) T aw (aw.set x (.inr (0, m, dy, oy))) := by
            intro i g3 c hi hc
            rw [List.getElem?_set]
            by_cases e : x = i
            · subst e
              have e9 : g3 = g := by rw [x2] at hi; exact (Option.some.inj hi).symm
              subst e9
              have e8 : c = .inr (0, m, dx, ox) := by rw [x3] at hc; exact (Option.some.inj hc).symm
              subst e8
              refine ⟨.inr (0, m, dy, oy), by simp [hlt], fun j hj => ?_⟩
              have hj2 : m < j := by
                rcases Nat.lt_or_ge m j with h9 | h9
                · exact h9
                · exact absurd (Or.inl ⟨rfl, Nat.zero_le _, h9⟩) hj
              have hb2 : Nat.blt j m = false := by
                cases h9 : Nat.blt j m with
                | false => rfl
                | true => have := rv_blt h9; omega
              show (bif Nat.blt j m then some _ else none) = (bif Nat.blt j m then some _ else none)
              rw [hb2]
              rfl
            · exact ⟨c, by simp [e, hc], fun j hj => rfl⟩
          obtain ⟨kd, ns, vs⟩ := f
          by_cases h2 : kd = 2
          · subst h2
            have m2 : (!(Nat.beq g 14 || (Nat.beq g 15 || Nat.beq g 17))) = true := m2
            have m2 : (Nat.beq g 14 || (Nat.beq g 15 || Nat.beq g 17)) = false := by
              cases h9 : (Nat.beq g 14 || (Nat.beq g 15 || Nat.beq g 17)) with
              | false => rfl
              | true => rw [h9] at m2; cases m2
            obtain ⟨u1, w2⟩ := rv_or m2
            obtain ⟨u2, u3⟩ := rv_or w2
            have no : ∀ g9 j, g9 ≠ g → ¬ xInM [g, 0, m] g9 j := fun g9 j hg9 hm => by
              rcases hm with ⟨e, -⟩ | e
              · exact hg9 e
              · exact e
            exact xFM_chg (r' := r) (T' := T) hS hchg ⟨[], (List.append_nil r).symm⟩ ⟨[], (List.append_nil T).symm⟩ (fun e => by cases e) (fun _ => ⟨rfl, fun j => ⟨no 14 j (fun e => xNbeq u1 e.symm), no 15 j (fun e => xNbeq u2 e.symm), no 17 j (fun e => xNbeq u3 e.symm)⟩⟩) (fun h4 => absurd h4 (by show ¬ 4 ≤ 2; omega)) hf
          · have m2 : xFtt d [g, 0, m] Q ah (kd, ns, vs) = true := by
              unfold xFcc at m2
              split at m2
              · rename_i e; exact absurd e h2
              · exact m2
            exact xFtt_ok (r' := r) (T' := T) hQ hS hchg ⟨[], (List.append_nil r).symm⟩ ⟨[], (List.append_nil T).symm⟩ m2 hf
      · cases hs
    · cases hs
  · cases hs
def xObj (BF BL : Nat) (S : xS) : Option (List xS) := match S with
  | (pc, al, st, _, _, Q, _, _) => match st with
    | v :: st => (match v with
      | .inr (2, _) => bif Nat.ble 1 BF && Nat.ble (2 * st.length + 12) BL then some [xNx S (pc + 3) al st Q] else none
      | _ => none)
    | _ => none
theorem xp_obj {P : xP} {rg : Nat → xG} {BF BL : Nat} {S : xS} {Ss : List xS} {o : rvS} (hs : xObj BF BL S = some Ss) (h : xRel rg (xFM P) S o) : ∃ S' i rest, o.2.2.1 = .inr (2, i) :: rest ∧ (Nat.ble 1 BF && Nat.ble (rvWd rest + 12) BL) = true ∧ S' ∈ Ss ∧ xRel rg (xFM P) S' (o.1 + 3, o.2.1, rest, o.2.2.2.1, o.2.2.2.2.1, o.2.2.2.2.2) := by
  obtain ⟨pc, al, st, ah, fs, Q, kc, ks⟩ := S
  obtain ⟨r, T, pl, cl, cs, aw, rfl, hl, hst, hS, hP, hF, hQ⟩ := xRel_out h
  dsimp only at hl hst hS hF hQ ⊢
  simp only [xObj] at hs
  split at hs
  · rename_i v st
    split at hs
    · rename_i k
      obtain ⟨c1, ds, rfl, ⟨i, hi, rfl⟩, k1⟩ := xRs_cons hst
      obtain ⟨hb, rfl⟩ := rv_bif hs
      obtain ⟨b1, b2⟩ := rv_and hb
      have hw : Nat.ble (rvWd ds + 12) BL = true := by
        have h1 := rvWd_le ds
        have h2 := xRs_len k1
        have h3 := rv_ble b2
        exact Nat.ble_eq_true_of_le (by omega)
      exact ⟨_, i, ds, rfl, by rw [b1, hw]; rfl, List.mem_singleton.mpr rfl, xNx_ok (xFM_app P) hS hP hF rfl rfl ⟨[], (List.append_nil r).symm⟩ hl k1 hQ⟩
    · cases hs
  · cases hs
