/-! Numbers are written into rows. -/
noncomputable def xIn (d : Nat) (Q : xQ) (v : Nat × Int × Int) (lo hi : Int) : Bool := xEnt Q.1 Q.2 d (xSub (xSm v) (xK lo)) && xEnt Q.1 Q.2 d (xSub (xK hi) (xSm v))
theorem xIn_ok {d : Nat} {Q : xQ} {r : List Int} {v : Nat × Int × Int} {lo hi : Int} (h : xQs Q r) (hb : xIn d Q v lo hi = true) : lo ≤ xVal r (xSm v) ∧ xVal r (xSm v) ≤ hi := by
  obtain ⟨g1, g2⟩ := rv_and hb
  have h1 := xEnt_ok h.1 h.2.1 d g1
  have h2 := xEnt_ok h.1 h.2.1 d g2
  rw [xSub_ok, xK_ok] at h1 h2
  omega
noncomputable def xAll (d : Nat) (Q : xQ) (v : Nat × Int × Int) (sg : List (Nat × xT)) (l : List Nat) : Bool := l.all fun m => match xAt sg m with
  | .inl t => xIn d Q v t.1 t.2
  | .inr _ => false
theorem xAll_ok {d : Nat} {Q : xQ} {r : List Int} {T pl : List Nat} {v : Nat × Int × Int} {sg : List (Nat × xT)} {l : List Nat} {m : Nat} {z : Int} (h : xQs Q r) (ha : xAll d Q v sg l = true) (hm : m ∈ l) (hz : z = xVal r (xSm v)) (h32 : xIn32 z) : xTy T pl (xAt sg m) (.inl (z, z)) := by
  have h1 := List.all_eq_true.mp ha m hm
  cases ht : xAt sg m with
  | inl t =>
    rw [ht] at h1
    obtain ⟨a, b⟩ := xIn_ok h h1
    rw [← hz] at a b
    exact ⟨z, a, b, h32, rfl⟩
  | inr q =>
    rw [ht] at h1
    cases h1
/-- how a kind of row bounds its numbers -/
noncomputable def xKd (d : Nat) (Q : xQ) (v : Nat × Int × Int) (q : Nat) : Bool := (Nat.beq q 1 && xIn d Q v (-128) 127) || (Nat.beq q 2 && xIn d Q v 0 1)
noncomputable def xSto (rg : Nat → xG) (fk : Nat → Nat × Int × Int → xQ → List xC → xF → Bool) (d : Nat) (kd : Nat × Int × Int → Nat → Bool) (S : xS) : Option (List xS) := match S with
  | (pc, al, st, ah, fs, Q, kc, ks) => match st with
    | .inl v :: .inl x :: .inr (2, k) :: st => (match ah[k]? with
      | some (g, ov) => (match rg g with
        | .inr (q, n, p, sg) => bif kd v q && (xBnd d Q x n && (Nat.blt 0 p && xAll d Q v sg (xResid Q p x))) then some [(pc + 1, al, st, (xKillG g (fun b => xApart d Q b.1 x) ah).set k (g, (x, .inl v) :: ov.filter (fun b => xApart d Q b.1 x)), fs.filter (fk g x Q ah), Q, kc, ks)] else none
        | .inl _ => none)
      | none => none)
    | .inl v :: .inl x :: .inr (20, g) :: st => (match rg g with
      | .inr (q, n, p, sg) => bif kd v q && (xBnd d Q x n && (Nat.blt 0 p && xAll d Q v sg (xResid Q p x))) then some [(pc + 1, al, st, xKillG g (fun b => xApart d Q b.1 x) ah, fs.filter (fk g x Q ah), Q, kc, ks)] else none
      | .inl _ => none)
    | _ => none
set_option maxHeartbeats 1000000 in
theorem xp_iastore {rg : Nat → xG} {fm : xF → List Int → List Nat → List Nat → rvH → Prop} {fk : Nat → Nat × Int × Int → xQ → List xC → xF → Bool} {sc : List (Int × Int)} {BC BS mL a1 a2 a3 pc kc ks d : Nat} {al st : List xV} {ah : List xC} {fs : List xF} {Q : xQ} {Ss : List xS} {o : rvS} (hk0 : xFk rg fm fk) (hs : xSto rg fk d (fun _ q => Nat.beq q 0) (pc, al, st, ah, fs, Q, kc, ks) = some Ss) (h : xRel rg fm (pc, al, st, ah, fs, Q, kc, ks) o) :
    xOk rg fm Ss (rvStep rvTy rvNf rvTxt sc BC BS mL (.iastore) a1 a2 a3 o.1 o.2.1 o.2.2.1 o.2.2.2.1 o.2.2.2.2.1 o.2.2.2.2.2) := by
  obtain ⟨r, T, pl, cl, cs, aw, rfl, hl, hst, hS, hP, hF, hQ⟩ := xRel_out h
  dsimp only at hl hst hS hF hQ ⊢
  simp only [xSto] at hs
  have stp : ∀ (v : Nat × Int × Int) (y z : Int) (i q n : Nat) (dv : rvV) (cv : List (Nat × rvV)) (ds : List rvV), (fun _ q => Nat.beq q 0) v q = true → y = xVal r (xSm v) → aw[i]? = some (.inr (q, n, dv, cv)) → 0 ≤ z → z < (n : Int) → rvStep rvTy rvNf rvTxt sc BC BS mL (.iastore) a1 a2 a3 pc cl (.inl (y, y) :: .inl (z, z) :: .inr (2, i) :: ds) aw kc ks = some (pc + 1, cl, ds, aw.set i (.inr (q, n, dv, rvUp cv z.toNat (.inl (y, y)))), kc, ks) := by
    intro v y z i q n dv cv ds hq hy hc h0 h1
    have e := rv_beq hq
    subst e
    simp only [rvStep, hc, rvIdx_pt h0 h1]
  have apart : ∀ (x : Nat × Int × Int) (j : Nat), xVal r (xSm x) = (j : Int) → ∀ b : (Nat × Int × Int) × xV, xApart d Q b.1 x = true → ∀ m : Nat, xVal r (xSm b.1) = (m : Int) → m ≠ j := by
    intro x j hj b hb m hm e
    have := xApart_ok hQ hb
    rw [hm, hj, e] at this
    exact this rfl
  split at hs
  · rename_i v x k st
    obtain ⟨c9, ds, rfl, hv, hst1⟩ := xRs_cons hst
    obtain ⟨c0, ds, rfl, hx, hst2⟩ := xRs_cons hst1
    obtain ⟨c1, ds, rfl, ⟨i, hi, rfl⟩, hst3⟩ := xRs_cons hst2
    obtain ⟨y, rfl, ey, y32, -⟩ := xR_pt hv
    obtain ⟨z, rfl, ez, z32, wx⟩ := xR_pt hx
    split at hs
    · rename_i g ov hk
      obtain ⟨i2, c, p1, p2, p3, p4⟩ := hS.2 k (g, ov) hk
      have e : i2 = i := by rw [hi] at p1; exact (Option.some.inj p1).symm
      subst e
      have hcell := hP.2 i2 g c p2 p3
      split at hs
      · rename_i q n p sg hg
        rw [hg] at hcell
        obtain ⟨dv, cv, rfl, hty⟩ := xCell_row hcell
        obtain ⟨hb, rfl⟩ := rv_bif hs
        obtain ⟨b1, b2⟩ := rv_and hb
        obtain ⟨b2, b3⟩ := rv_and b2
        obtain ⟨b3, b4⟩ := rv_and b3
        have b3 := rv_blt b3
        obtain ⟨l1, l2⟩ := xBnd_ok hQ b2
        rw [← ez] at l1 l2
        have hj : xVal r (xSm x) = ((z.toNat : Nat) : Int) := by rw [← ez]; omega
        have hn : z.toNat < n := by omega
        have hP2 := xHp_row hP p2 hg p3 (xAll_ok (T := T) (pl := pl) hQ b4 (xResid_ok hQ b3 hj) ey y32)
        have hsl : ∀ m, m ≠ z.toNat → xSlot (.inr (q, n, dv, rvUp cv z.toNat (.inl (y, y)))) m = xSlot (.inr (q, n, dv, cv)) m := fun m hm => xSlot_row hm
        exact Or.inl ⟨_, _, stp v y z i2 q n dv cv ds b1 ey p3 l1 l2, List.mem_singleton.mpr rfl, r, T, pl, rfl, hl, hst3, xSt_genK hS hk hi p2 p3 hsl (apart x _ hj) wx hj (xSlot_rowJ hn) hv, hP2, fun f hf9 => hk0 f g i2 z.toNat x Q ah r T pl aw _ _ hQ hS p2 p3 hj hsl hP2 (List.mem_filter.mp hf9).2 (hF f (List.mem_filter.mp hf9).1), hQ, rfl, rfl⟩
      · cases hs
    · cases hs
  · rename_i v x g st
    obtain ⟨c9, ds, rfl, hv, hst1⟩ := xRs_cons hst
    obtain ⟨c0, ds, rfl, hx, hst2⟩ := xRs_cons hst1
    obtain ⟨c1, ds, rfl, ⟨hg40, i, hi, rfl⟩, hst3⟩ := xRs_cons hst2
    obtain ⟨y, rfl, ey, y32, -⟩ := xR_pt hv
    obtain ⟨z, rfl, ez, z32, wx⟩ := xR_pt hx
    have hlt : i < aw.length := by rw [hP.1]; exact (List.getElem?_eq_some_iff.mp hi).1
    have p3 : aw[i]? = some aw[i] := List.getElem?_eq_getElem hlt
    have hcell := hP.2 i g _ hi p3
    split at hs
    · rename_i q n p sg hg
      rw [hg] at hcell
      obtain ⟨dv, cv, hcv, hty⟩ := xCell_row hcell
      rw [hcv] at p3
      obtain ⟨hb, rfl⟩ := rv_bif hs
      obtain ⟨b1, b2⟩ := rv_and hb
      obtain ⟨b2, b3⟩ := rv_and b2
      obtain ⟨b3, b4⟩ := rv_and b3
      have b3 := rv_blt b3
      obtain ⟨l1, l2⟩ := xBnd_ok hQ b2
      rw [← ez] at l1 l2
      have hj : xVal r (xSm x) = ((z.toNat : Nat) : Int) := by rw [← ez]; omega
      have hP2 := xHp_row hP hi hg p3 (xAll_ok (T := T) (pl := pl) hQ b4 (xResid_ok hQ b3 hj) ey y32)
      have hsl : ∀ m, m ≠ z.toNat → xSlot (.inr (q, n, dv, rvUp cv z.toNat (.inl (y, y)))) m = xSlot (.inr (q, n, dv, cv)) m := fun m hm => xSlot_row hm
      exact Or.inl ⟨_, _, stp v y z i q n dv cv ds b1 ey p3 l1 l2, List.mem_singleton.mpr rfl, r, T, pl, rfl, hl, hst3, xSt_gen hS hi p3 hsl (apart x _ hj), hP2, fun f hf9 => hk0 f g i z.toNat x Q ah r T pl aw _ _ hQ hS hi p3 hj hsl hP2 (List.mem_filter.mp hf9).2 (hF f (List.mem_filter.mp hf9).1), hQ, rfl, rfl⟩
    · cases hs
  · cases hs
set_option maxHeartbeats 1000000 in
theorem xp_bastore {rg : Nat → xG} {fm : xF → List Int → List Nat → List Nat → rvH → Prop} {fk : Nat → Nat × Int × Int → xQ → List xC → xF → Bool} {sc : List (Int × Int)} {BC BS mL a1 a2 a3 pc kc ks d : Nat} {al st : List xV} {ah : List xC} {fs : List xF} {Q : xQ} {Ss : List xS} {o : rvS} (hk0 : xFk rg fm fk) (hs : xSto rg fk d (xKd d Q) (pc, al, st, ah, fs, Q, kc, ks) = some Ss) (h : xRel rg fm (pc, al, st, ah, fs, Q, kc, ks) o) :
    xOk rg fm Ss (rvStep rvTy rvNf rvTxt sc BC BS mL (.bastore) a1 a2 a3 o.1 o.2.1 o.2.2.1 o.2.2.2.1 o.2.2.2.2.1 o.2.2.2.2.2) := by
  obtain ⟨r, T, pl, cl, cs, aw, rfl, hl, hst, hS, hP, hF, hQ⟩ := xRel_out h
  dsimp only at hl hst hS hF hQ ⊢
  simp only [xSto] at hs
  have stp : ∀ (v : Nat × Int × Int) (y z : Int) (i q n : Nat) (dv : rvV) (cv : List (Nat × rvV)) (ds : List rvV), (xKd d Q) v q = true → y = xVal r (xSm v) → aw[i]? = some (.inr (q, n, dv, cv)) → 0 ≤ z → z < (n : Int) → rvStep rvTy rvNf rvTxt sc BC BS mL (.bastore) a1 a2 a3 pc cl (.inl (y, y) :: .inl (z, z) :: .inr (2, i) :: ds) aw kc ks = some (pc + 1, cl, ds, aw.set i (.inr (q, n, dv, rvUp cv z.toNat (.inl (y, y)))), kc, ks) := by
    intro v y z i q n dv cv ds hq hy hc h0 h1
    rcases rv_or' hq with e | e
    · obtain ⟨e, g⟩ := rv_and e
      have e := rv_beq e
      subst e
      obtain ⟨a, b⟩ := xIn_ok hQ g
      rw [← hy] at a b
      have hin : rvIn (y, y) (-128) 127 = true := by simp [rvIn]; omega
      simp only [rvStep, hc, rvIdx_pt h0 h1, hin, cond_true]
    · obtain ⟨e, g⟩ := rv_and e
      have e := rv_beq e
      subst e
      obtain ⟨a, b⟩ := xIn_ok hQ g
      rw [← hy] at a b
      have hin : rvIn (y, y) 0 1 = true := by simp [rvIn]; omega
      simp only [rvStep, hc, rvIdx_pt h0 h1, hin, cond_true]
  have apart : ∀ (x : Nat × Int × Int) (j : Nat), xVal r (xSm x) = (j : Int) → ∀ b : (Nat × Int × Int) × xV, xApart d Q b.1 x = true → ∀ m : Nat, xVal r (xSm b.1) = (m : Int) → m ≠ j := by
    intro x j hj b hb m hm e
    have := xApart_ok hQ hb
    rw [hm, hj, e] at this
    exact this rfl
  split at hs
  · rename_i v x k st
    obtain ⟨c9, ds, rfl, hv, hst1⟩ := xRs_cons hst
    obtain ⟨c0, ds, rfl, hx, hst2⟩ := xRs_cons hst1
    obtain ⟨c1, ds, rfl, ⟨i, hi, rfl⟩, hst3⟩ := xRs_cons hst2
    obtain ⟨y, rfl, ey, y32, -⟩ := xR_pt hv
    obtain ⟨z, rfl, ez, z32, wx⟩ := xR_pt hx
    split at hs
    · rename_i g ov hk
      obtain ⟨i2, c, p1, p2, p3, p4⟩ := hS.2 k (g, ov) hk
      have e : i2 = i := by rw [hi] at p1; exact (Option.some.inj p1).symm
      subst e
      have hcell := hP.2 i2 g c p2 p3
      split at hs
      · rename_i q n p sg hg
        rw [hg] at hcell
        obtain ⟨dv, cv, rfl, hty⟩ := xCell_row hcell
        obtain ⟨hb, rfl⟩ := rv_bif hs
        obtain ⟨b1, b2⟩ := rv_and hb
        obtain ⟨b2, b3⟩ := rv_and b2
        obtain ⟨b3, b4⟩ := rv_and b3
        have b3 := rv_blt b3
        obtain ⟨l1, l2⟩ := xBnd_ok hQ b2
        rw [← ez] at l1 l2
        have hj : xVal r (xSm x) = ((z.toNat : Nat) : Int) := by rw [← ez]; omega
        have hn : z.toNat < n := by omega
        have hP2 := xHp_row hP p2 hg p3 (xAll_ok (T := T) (pl := pl) hQ b4 (xResid_ok hQ b3 hj) ey y32)
        have hsl : ∀ m, m ≠ z.toNat → xSlot (.inr (q, n, dv, rvUp cv z.toNat (.inl (y, y)))) m = xSlot (.inr (q, n, dv, cv)) m := fun m hm => xSlot_row hm
        exact Or.inl ⟨_, _, stp v y z i2 q n dv cv ds b1 ey p3 l1 l2, List.mem_singleton.mpr rfl, r, T, pl, rfl, hl, hst3, xSt_genK hS hk hi p2 p3 hsl (apart x _ hj) wx hj (xSlot_rowJ hn) hv, hP2, fun f hf9 => hk0 f g i2 z.toNat x Q ah r T pl aw _ _ hQ hS p2 p3 hj hsl hP2 (List.mem_filter.mp hf9).2 (hF f (List.mem_filter.mp hf9).1), hQ, rfl, rfl⟩
      · cases hs
    · cases hs
  · rename_i v x g st
    obtain ⟨c9, ds, rfl, hv, hst1⟩ := xRs_cons hst
    obtain ⟨c0, ds, rfl, hx, hst2⟩ := xRs_cons hst1
    obtain ⟨c1, ds, rfl, ⟨hg40, i, hi, rfl⟩, hst3⟩ := xRs_cons hst2
    obtain ⟨y, rfl, ey, y32, -⟩ := xR_pt hv
    obtain ⟨z, rfl, ez, z32, wx⟩ := xR_pt hx
    have hlt : i < aw.length := by rw [hP.1]; exact (List.getElem?_eq_some_iff.mp hi).1
    have p3 : aw[i]? = some aw[i] := List.getElem?_eq_getElem hlt
    have hcell := hP.2 i g _ hi p3
    split at hs
    · rename_i q n p sg hg
      rw [hg] at hcell
      obtain ⟨dv, cv, hcv, hty⟩ := xCell_row hcell
      rw [hcv] at p3
      obtain ⟨hb, rfl⟩ := rv_bif hs
      obtain ⟨b1, b2⟩ := rv_and hb
      obtain ⟨b2, b3⟩ := rv_and b2
      obtain ⟨b3, b4⟩ := rv_and b3
      have b3 := rv_blt b3
      obtain ⟨l1, l2⟩ := xBnd_ok hQ b2
      rw [← ez] at l1 l2
      have hj : xVal r (xSm x) = ((z.toNat : Nat) : Int) := by rw [← ez]; omega
      have hP2 := xHp_row hP hi hg p3 (xAll_ok (T := T) (pl := pl) hQ b4 (xResid_ok hQ b3 hj) ey y32)
      have hsl : ∀ m, m ≠ z.toNat → xSlot (.inr (q, n, dv, rvUp cv z.toNat (.inl (y, y)))) m = xSlot (.inr (q, n, dv, cv)) m := fun m hm => xSlot_row hm
      exact Or.inl ⟨_, _, stp v y z i q n dv cv ds b1 ey p3 l1 l2, List.mem_singleton.mpr rfl, r, T, pl, rfl, hl, hst3, xSt_gen hS hi p3 hsl (apart x _ hj), hP2, fun f hf9 => hk0 f g i z.toNat x Q ah r T pl aw _ _ hQ hS hi p3 hj hsl hP2 (List.mem_filter.mp hf9).2 (hF f (List.mem_filter.mp hf9).1), hQ, rfl, rfl⟩
    · cases hs
  · cases hs
