/-! Cells are made: an object of a raw region, or a row. -/
/-- what facts are kept (and told anew) when the strong cell k of the region g is made -/
def xFn (rg : Nat → xG) (fm : xF → List Int → List Nat → List Nat → rvH → Prop) (fn : Nat → Nat → List xF → List xF) : Prop :=
  ∀ (fs : List xF) (g : Nat) (r : List Int) (T pl : List Nat) (aw : rvH) (c : rvC), xHp rg T pl aw → (∀ f ∈ fs, fm f r T pl aw) → ∀ f ∈ fn pl.length g fs, fm f r (T ++ [g]) (pl ++ [T.length]) (aw ++ [c])
/-- does a cell's first value have its type -/
def xTyD (ty : xT) (c : rvV) : Bool := match ty, c with
  | .inl t, .inl a => decide (a.1 = a.2) && (decide (t.1 ≤ a.1) && (decide (a.1 ≤ t.2) && (decide (-2147483648 ≤ a.1) && decide (a.1 ≤ 2147483647))))
  | .inr (1, 0), .inr (1, _) => true
  | .inr (6, _), .inr (0, _) => true
  | .inr (21, _), .inr (0, _) => true
  | _, _ => false
theorem xTyD_ok {T pl : List Nat} {ty : xT} {c : rvV} (h : xTyD ty c = true) : xTy T pl ty c := by
  unfold xTyD at h
  split at h
  · rename_i t a
    obtain ⟨a1, a2⟩ := a
    obtain ⟨h1, h2⟩ := rv_and h
    obtain ⟨h2, h3⟩ := rv_and h2
    obtain ⟨h3, h4⟩ := rv_and h3
    obtain ⟨h4, h5⟩ := rv_and h4
    have h1 : a1 = a2 := of_decide_eq_true h1
    subst h1
    exact ⟨a1, of_decide_eq_true h2, of_decide_eq_true h3, ⟨of_decide_eq_true h4, of_decide_eq_true h5⟩, rfl⟩
  · exact ⟨_, rfl⟩
  · exact Or.inr (Or.inl ⟨_, rfl⟩)
  · exact Or.inl ⟨_, rfl⟩
  · cases h
def xOf (c : rvV) : xV := match c with
  | .inl a => bif decide (a.1 = a.2) && (decide (-2147483648 ≤ a.1) && decide (a.1 ≤ 2147483647)) then xKv a.1 else .inr (9, 0)
  | .inr (1, _) => .inr (1, 0)
  | .inr (0, _) => .inr (0, 0)
  | _ => .inr (9, 0)
theorem xOf_ok (r : List Int) (T pl : List Nat) (c : rvV) : xR r T pl (xOf c) c := by
  unfold xOf
  split
  · rename_i a
    obtain ⟨a1, a2⟩ := a
    cases hb : (decide (a1 = a2) && (decide (-2147483648 ≤ a1) && decide (a1 ≤ 2147483647))) with
    | false => exact trivial
    | true =>
      obtain ⟨h1, h2⟩ := rv_and hb
      obtain ⟨h2, h3⟩ := rv_and h2
      have h1 : a1 = a2 := of_decide_eq_true h1
      subst h1
      exact xR_K r T pl ⟨of_decide_eq_true h2, of_decide_eq_true h3⟩
  · exact ⟨_, rfl⟩
  · exact ⟨_, rfl⟩
  · exact trivial
theorem xG_new {r : List Int} {T pl : List Nat} (g i : Nat) : xGrow r r T (T ++ [g]) pl (pl ++ [i]) := ⟨⟨[], (List.append_nil r).symm⟩, ⟨[g], rfl⟩, ⟨[i], rfl⟩⟩
theorem xSt_new {r : List Int} {T pl : List Nat} {ah : List xC} {aw : rvH} {g : Nat} {c : rvC} {ov : List ((Nat × Int × Int) × xV)} (hS : xSt r T pl ah aw) (hl : aw.length = T.length) (ho : ∀ q ∈ ov, xOv r (T ++ [g]) (pl ++ [T.length]) c q) : xSt r (T ++ [g]) (pl ++ [T.length]) (ah ++ [(g, ov)]) (aw ++ [c]) := by
  refine ⟨by simp [hS.1], fun k s hs => ?_⟩
  by_cases hk : k < ah.length
  · rw [List.getElem?_append_left hk] at hs
    obtain ⟨i, b, h1, h2, h3, h4⟩ := hS.2 k s hs
    exact ⟨i, b, x_get_app h1, x_get_app h2, x_get_app h3, fun q hq => xOv_grow (xG_new g T.length) (h4 q hq)⟩
  · have hlt := (List.getElem?_eq_some_iff.mp hs).1
    have hk2 : k = ah.length := by simp at hlt; omega
    subst hk2
    rw [List.getElem?_append_right (Nat.le_refl _)] at hs
    simp at hs
    subst hs
    refine ⟨T.length, c, ?_, ?_, ?_, ho⟩
    · rw [hS.1, List.getElem?_append_right (Nat.le_refl _)]; simp
    · rw [List.getElem?_append_right (Nat.le_refl _)]; simp
    · rw [← hl, List.getElem?_append_right (Nat.le_refl _)]; simp
theorem xHp_new {rg : Nat → xG} {T pl : List Nat} {aw : rvH} {g i : Nat} {c : rvC} (hP : xHp rg T pl aw) (hc : xCell (T ++ [g]) (pl ++ [i]) (rg g) c) : xHp rg (T ++ [g]) (pl ++ [i]) (aw ++ [c]) := by
  refine ⟨by simp [hP.1], fun k h b hT hb => ?_⟩
  by_cases hk : k < T.length
  · rw [List.getElem?_append_left hk] at hT
    rw [List.getElem?_append_left (by rw [hP.1]; exact hk)] at hb
    exact xCell_grow (r := []) (xG_new g i) (hP.2 k h b hT hb)
  · have hlt := (List.getElem?_eq_some_iff.mp hT).1
    have hk2 : k = T.length := by simp at hlt; omega
    subst hk2
    rw [List.getElem?_append_right (Nat.le_refl _)] at hT
    rw [← hP.1, List.getElem?_append_right (Nat.le_refl _)] at hb
    simp at hT hb
    subst hT; subst hb
    exact hc
def xNewo (rg : Nat → xG) (fn : Nat → Nat → List xF → List xF) (BC BS g a1 : Nat) (S : xS) : Option (List xS) := match S with
  | (pc, al, st, ah, fs, Q, kc, ks) => (match rg g with
    | .inl (ci, fts) => bif Nat.beq ci a1 && (Nat.beq fts.length (rvNf a1) && ((List.range (rvNf a1)).all (fun k => xTyD (fts.getD k (.inr (9, 0))) (rvDef (rvTy a1 k))) && (Nat.ble (kc + 1) BC && Nat.ble (ks + rvNf a1) BS))) then
        some [(pc + 3, al, .inr (2, ah.length) :: st, ah ++ [(g, (List.range (rvNf a1)).map (fun k : Nat => ((0, 0, (k : Int)), xOf (rvDef (rvTy a1 k)))))], fn ah.length g fs, Q, kc + 1, ks + rvNf a1)] else none
    | .inr _ => none)
/-- m: how many of the row's first slots are told -/
def xNewa (rg : Nat → xG) (fn : Nat → Nat → List xF → List xF) (BC BS g m a1 : Nat) (S : xS) : Option (List xS) := match S with
  | (pc, al, st, ah, fs, Q, kc, ks) => (match st with
    | .inl x :: st => (match rg g, xItv Q x with
      | .inr (q, n, p, sg), some a => bif Nat.beq q a1 && (decide (a.1 = (n : Int)) && (decide (a.2 = (n : Int)) && (Nat.blt 0 p && (Nat.ble n 100000 && ((List.range p).all (fun k => xTyD (xAt sg k) (bif Nat.beq a1 3 then rvL0 else rvK 0)) && (Nat.ble m n && (Nat.ble (kc + 1) BC && Nat.ble (ks + n) BS))))))) then
          some [(pc + 2, al, .inr (2, ah.length) :: st, ah ++ [(g, (List.range m).map (fun k : Nat => ((0, 0, (k : Int)), xOf (bif Nat.beq a1 3 then rvL0 else rvK 0))))], fn ah.length g fs, Q, kc + 1, ks + n)] else none
      | _, _ => none)
    | _ => none)
theorem xSm_nat (r : List Int) (k : Nat) : xWf r.length (xSm (0, 0, (k : Int))).1 ∧ xVal r (xSm (0, 0, (k : Int))) = (k : Int) := by
  refine ⟨(fun q hq => by cases hq), ?_⟩
  rw [xSm_val]
  show 0 * _ + (k : Int) = k
  omega
set_option maxHeartbeats 1000000 in
theorem xp_new {rg : Nat → xG} {fm : xF → List Int → List Nat → List Nat → rvH → Prop} {fn : Nat → Nat → List xF → List xF} {sc : List (Int × Int)} {BC BS mL a1 a2 a3 pc kc ks g n : Nat} {al st : List xV} {ah : List xC} {fs : List xF} {Q : xQ} {Ss : List xS} {o : rvS} (hk0 : xFn rg fm fn) (hs : xNewo rg fn BC BS g a1 (pc, al, st, ah, fs, Q, kc, ks) = some Ss) (h : xRel rg fm (pc, al, st, ah, fs, Q, kc, ks) o) :
    xOk rg fm Ss (rvStep rvTy rvNf rvTxt sc BC BS mL (.new n) a1 a2 a3 o.1 o.2.1 o.2.2.1 o.2.2.2.1 o.2.2.2.2.1 o.2.2.2.2.2) := by
  obtain ⟨r, T, pl, cl, cs, aw, rfl, hl, hst, hS, hP, hF, hQ⟩ := xRel_out h
  dsimp only at hl hst hS hF hQ ⊢
  simp only [xNewo] at hs
  split at hs
  · rename_i ci fts hg
    obtain ⟨hb, rfl⟩ := rv_bif hs
    obtain ⟨d1, e2⟩ := rv_and hb
    obtain ⟨d2, e3⟩ := rv_and e2
    obtain ⟨b3, b4⟩ := rv_and e3
    have b1 := rv_beq d1
    subst b1
    have b2 := rv_beq d2
    have gr := xG_new (r := r) (T := T) (pl := pl) g T.length
    have hcell : xCell (T ++ [g]) (pl ++ [T.length]) (rg g) (.inl (ci, (List.range (rvNf ci)).map (fun k => rvDef (rvTy ci k)))) := by
      rw [hg]
      refine ⟨rfl, by simp [b2], fun f ty v h1 h2 => ?_⟩
      have hf9 := (List.getElem?_eq_some_iff.mp h1).1
      rw [b2] at hf9
      have h3 := List.all_eq_true.mp b3 f (List.mem_range.mpr hf9)
      rw [List.getD_eq_getElem?_getD, h1] at h3
      rw [List.getElem?_map, List.getElem?_range hf9] at h2
      simp at h2
      subst h2
      exact xTyD_ok h3
    have hlen : ah.length = pl.length := hS.1
    refine Or.inl ⟨(pc + 3, cl, .inr (2, aw.length) :: cs, aw ++ [.inl (ci, (List.range (rvNf ci)).map (fun k => rvDef (rvTy ci k)))], kc + 1, ks + rvNf ci), _, (by simp only [rvStep, b4, cond_true] <;> rfl), List.mem_singleton.mpr rfl, r, T ++ [g], pl ++ [T.length], rfl, xRs_grow gr hl, ⟨⟨T.length, ?_, ?_⟩, xRs_grow gr hst⟩, xSt_new hS hP.1 ?_, xHp_new hP hcell, ?_, hQ, rfl, rfl⟩
    · rw [hlen, List.getElem?_append_right (Nat.le_refl _)]; simp
    · rw [hP.1]
    · intro q hq
      obtain ⟨k, hk, rfl⟩ := List.mem_map.mp hq
      obtain ⟨w1, w2⟩ := xSm_nat r k
      refine ⟨w1, k, rvDef (rvTy ci k), w2, ?_, xOf_ok _ _ _ _⟩
      show ((List.range (rvNf ci)).map (fun k => rvDef (rvTy ci k)))[k]? = _
      rw [List.getElem?_map, List.getElem?_range (List.mem_range.mp hk)]
      rfl
    · intro f hf9
      have hf9 : f ∈ fn ah.length g fs := hf9
      rw [hlen] at hf9
      exact hk0 fs g r T pl aw _ hP hF f hf9
  · cases hs
set_option maxHeartbeats 1000000 in
theorem xp_newarray {rg : Nat → xG} {fm : xF → List Int → List Nat → List Nat → rvH → Prop} {fn : Nat → Nat → List xF → List xF} {sc : List (Int × Int)} {BC BS mL a1 a2 a3 pc kc ks g m : Nat} {t : ArrayType} {al st : List xV} {ah : List xC} {fs : List xF} {Q : xQ} {Ss : List xS} {o : rvS} (hk0 : xFn rg fm fn) (hs : xNewa rg fn BC BS g m a1 (pc, al, st, ah, fs, Q, kc, ks) = some Ss) (h : xRel rg fm (pc, al, st, ah, fs, Q, kc, ks) o) :
    xOk rg fm Ss (rvStep rvTy rvNf rvTxt sc BC BS mL (.newarray t) a1 a2 a3 o.1 o.2.1 o.2.2.1 o.2.2.2.1 o.2.2.2.2.1 o.2.2.2.2.2) := by
  obtain ⟨r, T, pl, cl, cs, aw, rfl, hl, hst, hS, hP, hF, hQ⟩ := xRel_out h
  dsimp only at hl hst hS hF hQ ⊢
  simp only [xNewa] at hs
  split at hs
  · rename_i x st
    obtain ⟨c0, ds, rfl, hx, hst3⟩ := xRs_cons hst
    obtain ⟨z, rfl, ez, z32, wx⟩ := xR_pt hx
    split at hs
    · rename_i q n p sg a hg ha
      obtain ⟨i1, i2⟩ := xItv_ok hQ ha
      rw [← ez] at i1 i2
      obtain ⟨hb, rfl⟩ := rv_bif hs
      obtain ⟨d1, e2⟩ := rv_and hb
      obtain ⟨d2, e3⟩ := rv_and e2
      obtain ⟨d3, e4⟩ := rv_and e3
      obtain ⟨d4, e5⟩ := rv_and e4
      obtain ⟨d5, e6⟩ := rv_and e5
      obtain ⟨b6, e7⟩ := rv_and e6
      obtain ⟨d7, b8⟩ := rv_and e7
      have b1 := rv_beq d1
      subst b1
      have b2 := of_decide_eq_true d2
      have b3 := of_decide_eq_true d3
      have b4 := rv_blt d4
      have b5 := rv_ble d5
      have b7 := rv_ble d7
      have hz : z = (n : Int) := by omega
      subst hz
      have gr := xG_new (r := r) (T := T) (pl := pl) g T.length
      have hlen : ah.length = pl.length := hS.1
      have hcell : xCell (T ++ [g]) (pl ++ [T.length]) (rg g) (.inr (q, n, (bif Nat.beq q 3 then rvL0 else rvK 0), [])) := by
        rw [hg]
        refine ⟨rfl, rfl, fun j hj => ?_⟩
        have h3 := List.all_eq_true.mp b6 (j % p) (List.mem_range.mpr (Nat.mod_lt _ b4))
        exact xTyD_ok h3
      have hcond : (rvOne ((n : Int), (n : Int)) && (decide (0 ≤ (n : Int)) && (decide ((n : Int) ≤ 100000) && (Nat.ble (kc + 1) BC && Nat.ble (ks + (n : Int).toNat) BS)))) = true := by
        rw [rvOne_pt]
        have h1 : decide (0 ≤ (n : Int)) = true := decide_eq_true (by omega)
        have h2 : decide ((n : Int) ≤ 100000) = true := decide_eq_true (by omega)
        rw [h1, h2]
        exact b8
      refine Or.inl ⟨(pc + 2, cl, .inr (2, aw.length) :: ds, aw ++ [.inr (q, n, (bif Nat.beq q 3 then rvL0 else rvK 0), [])], kc + 1, ks + n), _, (by simp only [rvStep, hcond, cond_true] <;> rfl), List.mem_singleton.mpr rfl, r, T ++ [g], pl ++ [T.length], rfl, xRs_grow gr hl, ⟨⟨T.length, ?_, ?_⟩, xRs_grow gr hst3⟩, xSt_new hS hP.1 ?_, xHp_new hP hcell, ?_, hQ, rfl, rfl⟩
      · rw [hlen, List.getElem?_append_right (Nat.le_refl _)]; simp
      · rw [hP.1]
      · intro b hb9
        obtain ⟨k, hk, rfl⟩ := List.mem_map.mp hb9
        have hk := List.mem_range.mp hk
        obtain ⟨w1, w2⟩ := xSm_nat r k
        refine ⟨w1, k, (bif Nat.beq q 3 then rvL0 else rvK 0), w2, ?_, xOf_ok _ _ _ _⟩
        show (bif Nat.blt k n then some _ else none) = _
        have hbl : Nat.blt k n = true := Nat.ble_eq_true_of_le (by omega)
        rw [hbl]
        rfl
      · intro f hf9
        have hf9 : f ∈ fn ah.length g fs := hf9
        rw [hlen] at hf9
        exact hk0 fs g r T pl aw _ hP hF f hf9
    · cases hs
  · cases hs
