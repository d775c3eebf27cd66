/-! References are written into rows. -/
noncomputable def xSta (rg : Nat → xG) (fk : Nat → Nat × Int × Int → xQ → List xC → xF → Bool) (d : Nat) (S : xS) : Option (List xS) := match S with
  | (pc, al, st, ah, fs, Q, kc, ks) => match st with
    | v :: .inl x :: .inr (2, k) :: st => (match ah[k]? with
      | some (g, _) => (match rg g with
        | .inr (q, n, p, sg) => (match xAt sg 0 with
          | .inr (t, g2) => (match rg g2 with
            | .inl (ci, _) => bif ((Nat.beq q 4 && Nat.beq ci 2) || (Nat.beq q 5 && Nat.beq ci 6)) && (xBnd d Q x n && (Nat.beq p 1 && ((Nat.beq t 20 && xFitG ah false g2 v) || (Nat.beq t 21 && xFitG ah true g2 v)))) then some [(pc + 1, al, st, xKillG g (fun b => xApart d Q b.1 x) ah, fs.filter (fk g x Q ah), Q, kc, ks)] else none
            | .inr _ => none)
          | .inl _ => none)
        | .inl _ => none)
      | none => none)
    | _ => none
set_option maxHeartbeats 1000000 in
theorem xp_aastore {rg : Nat → xG} {fm : xF → List Int → List Nat → List Nat → rvH → Prop} {fk : Nat → Nat × Int × Int → xQ → List xC → xF → Bool} {sc : List (Int × Int)} {BC BS mL a1 a2 a3 pc kc ks d : Nat} {al st : List xV} {ah : List xC} {fs : List xF} {Q : xQ} {Ss : List xS} {o : rvS} (hk0 : xFk rg fm fk) (hs : xSta rg fk d (pc, al, st, ah, fs, Q, kc, ks) = some Ss) (h : xRel rg fm (pc, al, st, ah, fs, Q, kc, ks) o) :
    xOk rg fm Ss (rvStep rvTy rvNf rvTxt sc BC BS mL (.aastore) a1 a2 a3 o.1 o.2.1 o.2.2.1 o.2.2.2.1 o.2.2.2.2.1 o.2.2.2.2.2) := by
  obtain ⟨r, T, pl, cl, cs, aw, rfl, hl, hst, hS, hP, hF, hQ⟩ := xRel_out h
  dsimp only at hl hst hS hF hQ ⊢
  simp only [xSta] at hs
  split at hs
  · rename_i v x k st
    obtain ⟨c9, ds, rfl, hv, hst1⟩ := xRs_cons hst
    obtain ⟨c0, ds, rfl, hx, hst2⟩ := xRs_cons hst1
    obtain ⟨c1, ds, rfl, ⟨i, hi, rfl⟩, hst3⟩ := xRs_cons hst2
    obtain ⟨z, rfl, ez, z32, wx⟩ := xR_pt hx
    have apart : ∀ (j : Nat), xVal r (xSm x) = (j : Int) → ∀ b : (Nat × Int × Int) × xV, xApart d Q b.1 x = true → ∀ m : Nat, xVal r (xSm b.1) = (m : Int) → m ≠ j := by
      intro j hj b hb m hm e
      have := xApart_ok hQ hb
      rw [hm, hj, e] at this
      exact this rfl
    split at hs
    · rename_i g ov hk
      obtain ⟨i2, c, p1, p2, p3, p4⟩ := hS.2 k (g, ov) hk
      have e : i2 = i := by rw [hi] at p1; exact (Option.some.inj p1).symm
      subst e
      have hcell := hP.2 i2 g c p2 p3
      split at hs
      · rename_i q n p sg hg
        rw [hg] at hcell
        obtain ⟨dv, cv, rfl, hty⟩ := xCell_row hcell
        split at hs
        · rename_i t g2 hat
          split at hs
          · rename_i ci fts hg2
            obtain ⟨hb, rfl⟩ := rv_bif hs
            obtain ⟨b1, e2⟩ := rv_and hb
            obtain ⟨b2, e3⟩ := rv_and e2
            obtain ⟨b3, b4⟩ := rv_and e3
            have hp := rv_beq b3
            subst hp
            obtain ⟨l1, l2⟩ := xBnd_ok hQ b2
            rw [← ez] at l1 l2
            have hj : xVal r (xSm x) = ((z.toNat : Nat) : Int) := by rw [← ez]; omega
            have hn : z.toNat < n := by omega
            have hw : xTy T pl (xAt sg (z.toNat % 1)) c9 ∧ rvStep rvTy rvNf rvTxt sc BC BS mL (.aastore) a1 a2 a3 pc cl (c9 :: .inl (z, z) :: .inr (2, i2) :: ds) aw kc ks = some (pc + 1, cl, ds, aw.set i2 (.inr (q, n, dv, rvUp cv z.toNat c9)), kc, ks) := by
              rw [Nat.mod_one, hat]
              have nul : ∀ z9, rvStep rvTy rvNf rvTxt sc BC BS mL (.aastore) a1 a2 a3 pc cl (.inr (0, z9) :: .inl (z, z) :: .inr (2, i2) :: ds) aw kc ks = some (pc + 1, cl, ds, aw.set i2 (.inr (q, n, dv, rvUp cv z.toNat (.inr (0, z9)))), kc, ks) := by
                intro z9
                have hq : (Nat.beq q 4 || Nat.beq q 5) = true := by
                  rcases rv_or' b1 with e | e
                  · rw [(rv_and e).1]; rfl
                  · rw [(rv_and e).1]; cases Nat.beq q 4 <;> rfl
                simp only [rvStep, p3, rvIdx_pt l1 l2, hq, cond_true]
              have ref : ∀ i9, T[i9]? = some g2 → rvStep rvTy rvNf rvTxt sc BC BS mL (.aastore) a1 a2 a3 pc cl (.inr (2, i9) :: .inl (z, z) :: .inr (2, i2) :: ds) aw kc ks = some (pc + 1, cl, ds, aw.set i2 (.inr (q, n, dv, rvUp cv z.toNat (.inr (2, i9)))), kc, ks) := by
                intro i9 h9
                have hlt : i9 < aw.length := by rw [hP.1]; exact (List.getElem?_eq_some_iff.mp h9).1
                have p9 : aw[i9]? = some aw[i9] := List.getElem?_eq_getElem hlt
                have hc9 := hP.2 i9 g2 _ h9 p9
                rw [hg2] at hc9
                obtain ⟨fl, hfl, -, -⟩ := xCell_obj hc9
                rw [hfl] at p9
                simp only [rvStep, p3, rvIdx_pt l1 l2, p9, b1, cond_true]
              rcases rv_or' b4 with e | e
              · obtain ⟨u1, u2⟩ := rv_and e
                have e1 := rv_beq u1
                subst e1
                rcases xFitG_ok hS hv u2 with ⟨u3, -⟩ | ⟨g1, i9, g3, rfl⟩
                · cases u3
                · exact ⟨⟨g1, i9, g3, rfl⟩, ref i9 g3⟩
              · obtain ⟨u1, u2⟩ := rv_and e
                have e1 := rv_beq u1
                subst e1
                rcases xFitG_ok hS hv u2 with ⟨-, z9, rfl⟩ | ⟨g1, i9, g3, rfl⟩
                · exact ⟨Or.inl ⟨z9, rfl⟩, nul z9⟩
                · exact ⟨Or.inr ⟨g1, i9, g3, rfl⟩, ref i9 g3⟩
            have hP2 := xHp_row hP p2 hg p3 hw.1
            have hsl : ∀ m, m ≠ z.toNat → xSlot (.inr (q, n, dv, rvUp cv z.toNat c9)) m = xSlot (.inr (q, n, dv, cv)) m := fun m hm => xSlot_row hm
            exact Or.inl ⟨_, _, hw.2, List.mem_singleton.mpr rfl, r, T, pl, rfl, hl, hst3, xSt_gen hS p2 p3 hsl (apart _ hj), hP2, fun f hf9 => hk0 f g i2 z.toNat x Q ah r T pl aw _ _ hQ hS p2 p3 hj hsl hP2 (List.mem_filter.mp hf9).2 (hF f (List.mem_filter.mp hf9).1), hQ, rfl, rfl⟩
          · cases hs
        · cases hs
      · cases hs
    · cases hs
  · cases hs
