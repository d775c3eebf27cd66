/-! All the steps that no instruction takes, in one. -/
abbrev xOp : Type := Nat × List Nat × List Int
/-- ranges are cut by all constraints -/
def xGclip (S : xS) : List xS := bif xBad (S.2.2.2.2.2.1.2.foldl (fun N c => xClip c N) S.2.2.2.2.2.1.1) then [] else [xWq S (S.2.2.2.2.2.1.2.foldl (fun N c => xClip c N) S.2.2.2.2.2.1.1, S.2.2.2.2.2.1.2)]
theorem xClips_ok {r : List Int} : ∀ (C : List xL) {N : xN}, xCs C r → xRg N r → xRg (C.foldl (fun N c => xClip c N) N) r ∧ (C.foldl (fun N c => xClip c N) N).length = N.length
  | [], _, _, h => ⟨h, rfl⟩
  | c :: C, N, hc, h => by
      obtain ⟨h1, h2⟩ := xClips_ok C (N := xClip c N) (fun x hx => hc x (List.mem_cons_of_mem _ hx)) (xClip_ok (hc c List.mem_cons_self) c.1 h)
      exact ⟨h1, by show (C.foldl (fun N c => xClip c N) (xClip c N)).length = N.length; rw [h2]; exact xClip_len c c.1 N⟩
theorem xGclip_ok {rg : Nat → xG} {fm : xF → List Int → List Nat → List Nat → rvH → Prop} {S : xS} {o : rvS} (h : xRel rg fm S o) : ∃ S' ∈ xGclip S, xRel rg fm S' o := by
  obtain ⟨r, T, pl, h1, h2, h3, h4, h5, h6, h7, h8, h9⟩ := h
  obtain ⟨k1, k2⟩ := xClips_ok S.2.2.2.2.2.1.2 h7.2.1 h7.1
  unfold xGclip
  rw [xBad_ok k1]
  refine ⟨_, List.mem_singleton.mpr rfl, r, T, pl, h1, h2, h3, h4, h5, h6, ⟨k1, h7.2.1, fun c hc => ?_⟩, h8, h9⟩
  show xWf (S.2.2.2.2.2.1.2.foldl (fun N c => xClip c N) S.2.2.2.2.2.1.1).length c.1
  rw [k2]
  exact h7.2.2 c hc
/-- constraints that can't hold together: nothing is left -/
noncomputable def xGno (d : Nat) (S : xS) : List xS := bif S.2.2.2.2.2.1.2.any (fun c => xEnt S.2.2.2.2.2.1.1 S.2.2.2.2.2.1.2 d (xSub (xK (-1)) c)) then [] else [S]
theorem xGno_ok {rg : Nat → xG} {fm : xF → List Int → List Nat → List Nat → rvH → Prop} {d : Nat} {S : xS} {o : rvS} (h : xRel rg fm S o) : ∃ S' ∈ xGno d S, xRel rg fm S' o := by
  unfold xGno
  cases hb : S.2.2.2.2.2.1.2.any (fun c => xEnt S.2.2.2.2.2.1.1 S.2.2.2.2.2.1.2 d (xSub (xK (-1)) c)) with
  | true =>
    obtain ⟨r, T, pl, h1, h2, h3, h4, h5, h6, h7, h8, h9⟩ := h
    obtain ⟨c, hc, he⟩ := List.any_eq_true.mp hb
    have k := xEnt_ok h7.1 h7.2.1 d he
    rw [xSub_ok, xK_ok] at k
    have k0 := h7.2.1 c hc
    exfalso
    omega
  | false => exact ⟨S, List.mem_singleton.mpr rfl, h⟩
def xL1 (o : Option xS) : Option (List xS) := match o with
  | some S => some [S]
  | none => none
noncomputable def xGh (d : Nat) (op : xOp) (S : xS) : Option (List xS) := match op with
  | (0, [a, b, c], is) => xGsplit (a, b, c) is S
  | (1, ns, _) => some [xGdropF ns S]
  | (2, [k], is) => some [xGdropS k is S]
  | (3, [k, j], _) => xL1 (xGrec xRgn k j S)
  | (4, [g, a, b, c], _) => xGopen d g (a, b, c) S
  | (5, [g, b], _) => xL1 (xGext d g b S)
  | (6, [g], _) => some [xGest g S]
  | (7, [g, a, b, c], _) => xL1 (xGwk d g (a, b, c) S)
  | (8, [n], _) => xL1 (xG5 d n S)
  | (9, [n], _) => xL1 (xG6 n S)
  | (10, [n], _) => xL1 (xG7 d n S)
  | (11, [n], _) => xG8 d n S
  | (12, [h], _) => xL1 (xG9 h none S)
  | (12, [h, n], _) => xL1 (xG9 h (some n) S)
  | (13, [h], _) => xL1 (xG11 d h S)
  | (14, [h], _) => xGbk h S
  | (15, [k, j], _) => xGnul xRgn k j S
  | (16, [k, g], _) => xL1 (xGpub xRgn d k g S)
  | (17, _, _) => xL1 (xGfoc S)
  | (18, [k, q, off, a, b, c], _) => xL1 (xGrcl xRgn d k q off (a, b, c) S)
  | (19, _, _) => some (xGclip S)
  | (20, _, _) => some (xGno d S)
  | _ => none
theorem xL1_ok {P : xP} {x : Option xS} {Ss : List xS} {o : rvS} (hs : xL1 x = some Ss) (h : ∀ S, x = some S → xRel xRgn (xFM P) S o) : ∃ S' ∈ Ss, xRel xRgn (xFM P) S' o := by
  unfold xL1 at hs
  split at hs
  · rename_i S
    cases hs
    exact ⟨S, List.mem_singleton.mpr rfl, h S rfl⟩
  · cases hs
theorem xGh_ok {P : xP} {d : Nat} {op : xOp} {S : xS} {Ss : List xS} {o : rvS} (hs : xGh d op S = some Ss) (h : xRel xRgn (xFM P) S o) : ∃ S' ∈ Ss, xRel xRgn (xFM P) S' o := by
  have hf := xFM_app P
  unfold xGh at hs
  split at hs
  · exact xGsplit_ok hs h
  · cases hs; exact ⟨_, List.mem_singleton.mpr rfl, xGdropF_ok h⟩
  · cases hs; exact ⟨_, List.mem_singleton.mpr rfl, xGdropS_ok h⟩
  · exact xL1_ok hs (fun S' e => xGrec_ok hf e h)
  · exact xGopen_ok hs h
  · exact xL1_ok hs (fun S' e => xGext_ok e h)
  · cases hs; exact ⟨_, List.mem_singleton.mpr rfl, xGest_ok h⟩
  · exact xL1_ok hs (fun S' e => xGwk_ok e h)
  · exact xL1_ok hs (fun S' e => xG5_ok e h)
  · exact xL1_ok hs (fun S' e => xG6_ok e h)
  · exact xL1_ok hs (fun S' e => xG7_ok e h)
  · exact xG8_ok hs h
  · exact xL1_ok hs (fun S' e => xG9_ok e h)
  · exact xL1_ok hs (fun S' e => xG9_ok e h)
  · exact xL1_ok hs (fun S' e => xG11_ok e h)
  · exact xGbk_ok hs h
  · exact xGnul_ok hs h
  · exact xL1_ok hs (fun S' e => xGpub_ok e h)
  · exact xL1_ok hs (fun S' e => xGfoc_ok e h)
  · exact xL1_ok hs (fun S' e => xGrcl_ok hf e h)
  · cases hs; exact xGclip_ok h
  · cases hs; exact xGno_ok h
  · cases hs
noncomputable def xGhL (d : Nat) (op : xOp) (Ss : List xS) : Option (List xS) := xCat (Ss.map (xGh d op))
theorem xGhL_ok {P : xP} {d : Nat} {op : xOp} {Ss Rs : List xS} {o : rvS} (hs : xGhL d op Ss = some Rs) (h : ∃ S ∈ Ss, xRel xRgn (xFM P) S o) : ∃ S' ∈ Rs, xRel xRgn (xFM P) S' o := by
  obtain ⟨S, m, h⟩ := h
  obtain ⟨a, e, ha⟩ := xCat_ok (a := []) hs (xGh d op S) (List.mem_map.mpr ⟨S, m, rfl⟩)
  obtain ⟨S', m', h'⟩ := xGh_ok e h
  exact ⟨S', ha S' m', h'⟩
noncomputable def xGhs (d : Nat) : List xOp → List xS → Option (List xS)
  | [], Ss => some Ss
  | op :: ops, Ss => (match xGhL d op Ss with
    | some Rs => xGhs d ops Rs
    | none => none)
theorem xGhs_ok {P : xP} {d : Nat} {o : rvS} : ∀ (ops : List xOp) {Ss Rs : List xS}, xGhs d ops Ss = some Rs → (∃ S ∈ Ss, xRel xRgn (xFM P) S o) → ∃ S' ∈ Rs, xRel xRgn (xFM P) S' o
  | [], Ss, Rs, hs, h => by cases hs; exact h
  | op :: ops, Ss, Rs, hs, h => by
      unfold xGhs at hs
      split at hs
      · rename_i Rs2 h2
        exact xGhs_ok ops hs (xGhL_ok h2 h)
      · cases hs
