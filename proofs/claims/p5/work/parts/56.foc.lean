/-! A sentence that may be said is looked at: it and its rows become strong cells. -/
theorem xG_pl {r : List Int} {T pl : List Nat} (u : List Nat) : xGrow r r T T pl (pl ++ u) := ⟨⟨[], (List.append_nil r).symm⟩, ⟨[], (List.append_nil T).symm⟩, ⟨u, rfl⟩⟩
theorem xSt_push {r : List Int} {T pl : List Nat} {ah : List xC} {aw : rvH} {i g : Nat} {c : rvC} (h : xSt r T pl ah aw) (hi : T[i]? = some g) (hc : aw[i]? = some c) : xSt r T (pl ++ [i]) (ah ++ [(g, [])]) aw := by
  refine ⟨by simp [h.1], fun k s hs => ?_⟩
  by_cases hk : k < ah.length
  · rw [List.getElem?_append_left hk] at hs
    obtain ⟨i2, b, h1, h2, h3, h4⟩ := h.2 k s hs
    exact ⟨i2, b, x_get_app h1, h2, h3, fun q hq => xOv_grow (xG_pl [i]) (h4 q hq)⟩
  · have hlt := (List.getElem?_eq_some_iff.mp hs).1
    have hk2 : k = ah.length := by simp at hlt; omega
    subst hk2
    rw [List.getElem?_append_right (Nat.le_refl _)] at hs
    simp at hs
    subst hs
    refine ⟨i, c, ?_, hi, hc, (fun q hq => by cases hq)⟩
    rw [h.1, List.getElem?_append_right (Nat.le_refl _)]; simp
theorem xHp_pl {rg : Nat → xG} {T pl : List Nat} {aw : rvH} (u : List Nat) (h : xHp rg T pl aw) : xHp rg T (pl ++ u) aw :=
  ⟨h.1, fun i g c hi hc => xCell_grow (r := []) (xG_pl u) (h.2 i g c hi hc)⟩
theorem xFM_pl {P : xP} {f : xF} {r : List Int} {T pl : List Nat} {aw : rvH} (u : List Nat) (h : xFM P f r T pl aw) : xFM P f r T (pl ++ u) aw := by
  obtain ⟨kd, ns, vs⟩ := f
  match kd, h with
  | 0, h =>
    obtain ⟨h1, h2, ⟨t, e⟩, hf⟩ := h
    exact ⟨h1, h2, ⟨t ++ u, by rw [e, List.append_assoc]⟩, hf⟩
  | 1, h =>
    match ns, h with
    | i :: ns, h =>
      obtain ⟨l, k1, k2⟩ := h
      exact ⟨l, k1, xRs_grow (xG_pl u) k2⟩
    | [], h => exact absurd h id
  | 2, h => exact h
  | 3, h =>
    match ns, h with
    | [k], h =>
      obtain ⟨i, k1, k2⟩ := h
      exact ⟨i, x_get_app k1, k2⟩
    | [], h => exact absurd h id
    | _ :: _ :: _, h => exact absurd h id
  | kd + 4, h =>
    refine ⟨h.1, xFv_loc (fun q hq j j1 j2 z hz => ?_) h.2⟩
    have := xRd_app (u := u) (t := []) hz
    rw [List.append_nil] at this
    exact this
def xGfoc (S : xS) : Option xS := match S with
  | (pc, al, st, ah, fs, Q, kc, ks) => (match (al[(0 : Nat)]? : Option xV), xHas fs 2 [] with
    | some (.inr (20, 14)), some _ => bif Nat.beq ah.length 52 then some (pc, al.set 0 (.inr (2, 52)), st, (ah ++ [(14, [])] ++ [(15, [])] ++ [(16, [])] ++ [(17, [])] ++ [(18, [])]).set 52 (14, [((0, 0, 0), .inr (2, 53)), ((0, 0, 1), .inr (2, 54)), ((0, 0, 2), .inr (2, 55)), ((0, 0, 3), .inr (2, 56)), ((0, 0, 4), .inl (Q.1.length, 1, 0))]), (4, [6], [(Q.1.length, 1, 0)]) :: xOut 4 [6] fs, (Q.1 ++ [(0, 40)], Q.2), kc, ks) else none
    | _, _ => none)
theorem xRgn14 : xRgn 14 = .inl (6, [.inr (20, 15), .inr (20, 16), .inr (20, 17), .inr (20, 18), .inl (0, 40)]) := rfl
set_option maxHeartbeats 2000000 in
theorem xGfoc_ok {P : xP} {S S' : xS} {o : rvS} (hs : xGfoc S = some S') (h : xRel xRgn (xFM P) S o) : xRel xRgn (xFM P) S' o := by
  obtain ⟨pc, al, st, ah, fs, Q, kc, ks⟩ := S
  obtain ⟨r, T, pl, h1, h2, h3, h4, h5, h6, h7, h8, h9⟩ := h
  dsimp only at h1 h2 h3 h4 h6 h7 h8 h9
  simp only [xGfoc] at hs
  split at hs
  · rename_i v2 ha hh
    obtain ⟨hb, rfl⟩ := rv_bif hs
    have hb := rv_beq hb
    obtain ⟨c0, hc0, g40, i, hi, rfl⟩ := xRs_get h2 ha
    have hlt : i < o.2.2.2.1.length := by rw [h5.1]; exact (List.getElem?_eq_some_iff.mp hi).1
    have hsg := h6 _ (xHas_ok hh)
    obtain ⟨c, a, b, n, k1, k2, k3, k4, k5, k6, k7⟩ := hsg i hi
    have hcell := h5.2 i 14 c hi k1
    rw [xRgn14] at hcell
    obtain ⟨fl, rfl, hlen, hty⟩ := xCell_obj hcell
    obtain ⟨w1, s1, g1, u, u1, rfl⟩ := xCell_fld (f := 1) hlen hty rfl
    obtain ⟨w3, s3, g3, t, t1, rfl⟩ := xCell_fld (f := 3) hlen hty rfl
    obtain ⟨w4, s4, z, z1, z2, z32, rfl⟩ := xCell_fld (f := 4) hlen hty rfl
    have kn : n = z := by
      have e := xRdc_of k1 (show xSlot (.inl (6, fl)) 4 = some (.inl (z, z)) from s4) z32
      rw [k6] at e
      exact Option.some.inj e
    subst kn
    have at' : ∀ x g, T[x]? = some g → ∃ cx, o.2.2.2.1[x]? = some cx := fun x g hx => ⟨_, List.getElem?_eq_getElem (by rw [h5.1]; exact (List.getElem?_eq_some_iff.mp hx).1)⟩
    obtain ⟨ca, hca⟩ := at' a 15 k3
    obtain ⟨cu, hcu⟩ := at' u 16 u1
    obtain ⟨cb, hcb⟩ := at' b 17 k5
    obtain ⟨ct, hct⟩ := at' t 18 t1
    have hQ2 : xQs (Q.1 ++ [(0, 40)], Q.2) (r ++ [n]) := xQs_app h7 z1 z2
    have gr : xGrow r (r ++ [n]) T T pl (pl ++ [i] ++ [a] ++ [u] ++ [b] ++ [t]) := ⟨⟨[n], rfl⟩, ⟨[], (List.append_nil T).symm⟩, ⟨[i, a, u, b, t], by simp⟩⟩
    have epl : pl ++ [i] ++ [a] ++ [u] ++ [b] ++ [t] = pl ++ [i, a, u, b, t] := by simp
    have hpl : pl.length = 52 := by rw [← h4.1]; exact hb
    have pat : ∀ m x, ([i, a, u, b, t] : List Nat)[m]? = some x → (pl ++ [i] ++ [a] ++ [u] ++ [b] ++ [t])[52 + m]? = some x := by
      intro m x hx
      rw [epl, List.getElem?_append_right (by omega), hpl]
      have : 52 + m - 52 = m := by omega
      rw [this]
      exact hx
    have st1 := xSt_push (xSt_push (xSt_push (xSt_push (xSt_push (xSt_app [n] h4) hi k1) k3 hca) u1 hcu) k5 hcb) t1 hct
    have vlast : xVal (r ++ [n]) (xSm (Q.1.length, 1, 0)) = n ∧ xWf (r ++ [n]).length (xSm (Q.1.length, 1, 0)).1 := by
      have hl : Q.1.length = r.length := h7.1.1
      refine ⟨?_, ?_⟩
      · rw [xSm_val]
        show 1 * (r ++ [n]).getD Q.1.length 0 + 0 = n
        rw [hl, List.getD_eq_getElem?_getD, List.getElem?_append_right (Nat.le_refl _)]
        simp
      · intro q hq
        have e : q = (Q.1.length, 1) := List.mem_singleton.mp hq
        subst e
        show Q.1.length < _
        rw [List.length_append, hl]
        show r.length < r.length + 1
        omega
    have hah : (ah ++ [(14, [])] ++ [(15, [])] ++ [(16, [])] ++ [(17, [])] ++ [(18, [])] : List xC)[52]? = some (14, []) := by
      have e : (ah ++ [(14, [])] ++ [(15, [])] ++ [(16, [])] ++ [(17, [])] ++ [(18, [])] : List xC) = ah ++ [(14, []), (15, []), (16, []), (17, []), (18, [])] := by simp
      rw [e, List.getElem?_append_right (by omega), hb]
      rfl
    refine ⟨r ++ [n], T, pl ++ [i] ++ [a] ++ [u] ++ [b] ++ [t], h1, ?_, xRs_grow gr h3, ?_, ?_, fun f hf9 => ?_, hQ2, h8, h9⟩
    · have e9 : o.2.1 = o.2.1.set 0 (.inr (2, i)) := by
        apply List.ext_getElem?
        intro m
        rw [List.getElem?_set]
        by_cases e : 0 = m
        · subst e
          have hl9 := (List.getElem?_eq_some_iff.mp hc0).1
          simp [hl9]
          exact (List.getElem?_eq_some_iff.mp hc0).2
        · simp [e]
      show xRs _ _ _ (al.set 0 (.inr (2, 52))) o.2.1
      rw [e9]
      exact xRs_set (xRs_grow gr h2) ⟨i, pat 0 i rfl, rfl⟩
    · refine xSt_put st1 hah (pat 0 i rfl) k1 (fun q hq => ?_)
      have sl : ∀ (m : Nat) (w : rvV) (v : xV), xSlot (.inl (6, fl)) m = some w → xR (r ++ [n]) T (pl ++ [i] ++ [a] ++ [u] ++ [b] ++ [t]) v w → xOv (r ++ [n]) T (pl ++ [i] ++ [a] ++ [u] ++ [b] ++ [t]) (.inl (6, fl)) ((0, 0, (m : Int)), v) := by
        intro m w v hm hv
        obtain ⟨v2, v3⟩ := xSm_nat (r ++ [n]) m
        exact ⟨v2, m, w, v3, hm, hv⟩
      rcases List.mem_cons.mp hq with e | hq
      · rw [e]; exact sl 0 _ _ k2 ⟨a, pat 1 a rfl, rfl⟩
      · rcases List.mem_cons.mp hq with e | hq
        · rw [e]; exact sl 1 _ _ s1 ⟨u, pat 2 u rfl, rfl⟩
        · rcases List.mem_cons.mp hq with e | hq
          · rw [e]; exact sl 2 _ _ k4 ⟨b, pat 3 b rfl, rfl⟩
          · rcases List.mem_cons.mp hq with e | hq
            · rw [e]; exact sl 3 _ _ s3 ⟨t, pat 4 t rfl, rfl⟩
            · have e := List.mem_singleton.mp hq
              rw [e]
              exact sl 4 _ _ s4 ⟨vlast.2, by rw [vlast.1]; exact z32, by rw [vlast.1]⟩
    · rw [epl]
      exact xHp_pl _ h5
    · rcases List.mem_cons.mp hf9 with e | hf9
      · subst e
        refine ⟨xW1 vlast.2, ?_⟩
        show xPf (xRd (pl ++ [i] ++ [a] ++ [u] ++ [b] ++ [t]) o.2.2.2.1) 6 (xVal (r ++ [n]) (xSm (Q.1.length, 1, 0)))
        rw [vlast.1]
        intro j hj
        obtain ⟨bx, b1, b2⟩ := k7 j hj
        refine ⟨bx, b1, xBx_mono (fun s hs9 y hy => ?_) b2⟩
        rw [xGrp6] at hs9
        have hy : (bif Nat.beq s.1 53 then xRdc o.2.2.2.1 a (s.2.1 * j + s.2.2) else xRdc o.2.2.2.1 b (s.2.1 * j + s.2.2)) = some y := hy
        rcases List.mem_cons.mp hs9 with e | hs9
        · subst e
          unfold xRd
          rw [pat 1 a rfl]
          exact hy
        · have e := List.mem_singleton.mp hs9
          subst e
          unfold xRd
          rw [pat 3 b rfl]
          exact hy
      · rw [epl]
        exact xFM_pl _ (xFM_app P f r [n] T pl _ (h6 f (List.mem_filter.mp hf9).1))
  · cases hs
