/-! What every method leaves: the kinds of cells (by hand). -/
def shp (c c' : rvC) : Prop := match c, c' with
  | .inl (ci, fs), .inl (ci', fs') => ci' = ci ∧ fs'.length = fs.length
  | .inr (q, n, _, _), .inr (q', n', _, _) => q' = q ∧ n' = n
  | _, _ => False
def Fw (aw aw' : rvH) : Prop := aw.length ≤ aw'.length ∧ (∀ (k : Nat) (c : rvC), aw[k]? = some c → ∃ c', aw'[k]? = some c' ∧ shp c c') ∧ ∀ (k : Nat) (fs : List rvV), aw'[k]? = some (.inl (11, fs)) → k < aw.length
theorem shp_refl (c : rvC) : shp c c := by
  rcases c with ⟨ci, fs⟩ | ⟨q, n, d, ov⟩
  · exact ⟨rfl, rfl⟩
  · exact ⟨rfl, rfl⟩
theorem shp_trans {c c' c'' : rvC} (h : shp c c') (h' : shp c' c'') : shp c c'' := by
  rcases c with ⟨ci, fs⟩ | ⟨q, n, d, ov⟩
  · rcases c' with ⟨ci', fs'⟩ | ⟨q', n', d', ov'⟩
    · rcases c'' with ⟨ci'', fs''⟩ | ⟨q'', n'', d'', ov''⟩
      · exact ⟨h'.1.trans h.1, h'.2.trans h.2⟩
      · exact absurd h' id
    · exact absurd h id
  · rcases c' with ⟨ci', fs'⟩ | ⟨q', n', d', ov'⟩
    · exact absurd h id
    · rcases c'' with ⟨ci'', fs''⟩ | ⟨q'', n'', d'', ov''⟩
      · exact absurd h' id
      · exact ⟨h'.1.trans h.1, h'.2.trans h.2⟩
theorem Fw_refl (aw : rvH) : Fw aw aw := ⟨Nat.le_refl _, fun _ c h => ⟨c, h, shp_refl c⟩, fun k fs h => (List.getElem?_eq_some_iff.mp h).1⟩
theorem Fw_trans {aw aw' aw'' : rvH} (h : Fw aw aw') (h' : Fw aw' aw'') : Fw aw aw'' := by
  refine ⟨Nat.le_trans h.1 h'.1, fun k c e => ?_, fun k fs e => ?_⟩
  · obtain ⟨c', e', k1⟩ := h.2.1 k c e
    obtain ⟨c'', e'', k2⟩ := h'.2.1 k c' e'
    exact ⟨c'', e'', shp_trans k1 k2⟩
  · have hl := h'.2.2 k fs e
    have e1 := List.getElem?_eq_getElem hl
    obtain ⟨c'', e'', k2⟩ := h'.2.1 k _ e1
    rw [e] at e''
    have e'' := Option.some.inj e''
    rw [← e''] at k2
    cases hc : aw'[k] with
    | inl x =>
      rw [hc] at k2 e1
      obtain ⟨ci, gs⟩ := x
      have : ci = 11 := k2.1.symm
      subst this
      exact h.2.2 k gs e1
    | inr x =>
      rw [hc] at k2
      exact absurd k2 id
theorem Fw_set {aw : rvH} {k : Nat} {c c' : rvC} (e : aw[k]? = some c) (h : shp c c') : Fw aw (aw.set k c') := by
  refine ⟨by rw [List.length_set]; exact Nat.le_refl _, fun m d hd => ?_, fun m fs hm => ?_⟩
  · by_cases hm : k = m
    · subst hm
      rw [e] at hd
      have hd := Option.some.inj hd
      subst hd
      have hl := (List.getElem?_eq_some_iff.mp e).1
      exact ⟨c', by rw [List.getElem?_set_self hl], h⟩
    · exact ⟨d, by rw [List.getElem?_set_ne hm]; exact hd, shp_refl d⟩
  · have := (List.getElem?_eq_some_iff.mp hm).1
    rw [List.length_set] at this
    exact this
theorem Fw_app {aw : rvH} {c : rvC} (hc : no11 c = true) : Fw aw (aw ++ [c]) := by
  obtain ⟨h1, h2, h3⟩ := Fr_app (aw := aw) hc
  refine ⟨h1, fun k d hd => ⟨d, ?_, shp_refl d⟩, h3⟩
  rw [List.getElem?_append_left (List.getElem?_eq_some_iff.mp hd).1]
  exact hd
def nw11 (i : Instr) (a1 : Nat) : Bool := match i with
  | .new _ => !Nat.beq a1 11
  | _ => true
theorem fwStep {sc : List (Int × Int)} {BC BS mL a1 a2 a3 pc kc ks : Nat} {i : Instr} {al st : List rvV} {aw : rvH} {o : rvS} (hm : nw11 i a1 = true) (h : rvStep rvTy rvNf rvTxt sc BC BS mL i a1 a2 a3 pc al st aw kc ks = some o) : Fw aw o.2.2.2.1 := by
  by_cases hb : hpB i = true
  · rw [(tStep h).2.2 hb]
    exact Fw_refl _
  · cases i
    case putfield idx =>
      simp only [rvStep] at h
      split at h
      · split at h
        · rename_i ci fs e
          obtain ⟨hc, rfl⟩ := rv_bif h
          exact Fw_set e ⟨rfl, List.length_set⟩
        · cases h
      · cases h
    case iastore =>
      simp only [rvStep] at h
      split at h
      · split at h
        · rename_i n d ov e
          split at h
          · cases h
            exact Fw_set e ⟨rfl, rfl⟩
          · cases h
        · cases h
      · cases h
    case bastore =>
      simp only [rvStep] at h
      split at h
      · split at h
        · rename_i n d ov e
          split at h
          · obtain ⟨hc, rfl⟩ := rv_bif h
            exact Fw_set e ⟨rfl, rfl⟩
          · cases h
        · rename_i n d ov e
          split at h
          · obtain ⟨hc, rfl⟩ := rv_bif h
            exact Fw_set e ⟨rfl, rfl⟩
          · cases h
        · cases h
      · cases h
    case lastore =>
      simp only [rvStep] at h
      split at h
      · split at h
        · rename_i n d ov e
          split at h
          · cases h
            exact Fw_set e ⟨rfl, rfl⟩
          · cases h
        · cases h
      · cases h
    case aastore =>
      simp only [rvStep] at h
      split at h
      · split at h
        · rename_i q n d ov e
          split at h
          · split at h
            · obtain ⟨hc, rfl⟩ := rv_bif h
              exact Fw_set e ⟨rfl, rfl⟩
            · split at h
              · obtain ⟨hc, rfl⟩ := rv_bif h
                exact Fw_set e ⟨rfl, rfl⟩
              · cases h
            · cases h
          · cases h
        · cases h
      · cases h
    case new idx =>
      obtain ⟨hc, rfl⟩ := rv_bif h
      exact Fw_app hm
    case newarray t =>
      simp only [rvStep] at h
      split at h
      · obtain ⟨hc, rfl⟩ := rv_bif h
        exact Fw_app rfl
      · cases h
    case anewarray t =>
      simp only [rvStep] at h
      split at h
      · obtain ⟨hc, rfl⟩ := rv_bif h
        exact Fw_app rfl
      · cases h
    all_goals exact absurd rfl hb
theorem fwCopy {BF BL pc kc ks : Nat} {al st : List rvV} {aw : rvH} {o : rvS} (h : rvCopy BF BL pc al st aw kc ks = some o) : Fw aw o.2.2.2.1 := by
  unfold rvCopy at h
  split at h
  · split at h
    · rename_i m d ov m' d' ov' e1 e2
      obtain ⟨hc, rfl⟩ := rv_bif h
      exact Fw_set e2 ⟨rfl, rfl⟩
    · cases h
  · cases h
theorem Ev_kinds {tab : Nat → Nat → Option rvE} {info : Nat → rvM} {rets : Nat → Option FieldType} {NM : Nat} {mth : Nat → Option Nat} (hS : ∀ (j pc : Nat) (i : Instr) (len a1 a2 a3 wi : Nat), j < NM → tab j pc = some (i, len, a1, a2, a3, wi) → nw11 i a1 = true) {j : Nat} {as : List rvV} {aw : rvH} {P : xRes2 → Prop} (h : EvM tab info rets NM mth j as aw P) : EvM tab info rets NM mth j as aw (fun res => P res ∧ Fw aw res.2) := by
  have hE := Ev_clo tab info rets NM mth
  refine (h (fun j P o => Ev tab info rets NM mth j P o ∧ ∀ aw0, Fw aw0 o.2.2.2.1 → Ev tab info rets NM mth j (fun res => P res ∧ Fw aw0 res.2) o) (fun j as aw P => EvM tab info rets NM mth j as aw P ∧ EvM tab info rets NM mth j as aw (fun res => P res ∧ Fw aw res.2)) ⟨?_, ?_, ?_, ?_, ?_, ?_, ?_, ?_⟩).2
  · intro j P o o' i len a1 a2 a3 wi h1 h2 h3 h4
    refine ⟨hE.1 j P o o' i len a1 a2 a3 wi h1 h2 h3 h4.1, fun aw0 hf => ?_⟩
    exact hE.1 j _ o o' i len a1 a2 a3 wi h1 h2 h3 (h4.2 aw0 (Fw_trans hf (fwStep (hS j _ i len a1 a2 a3 wi h1 h2) h3)))
  · intro j P o o' idx len a1 a2 a3 wi h1 h2 h3 h4 h5
    refine ⟨hE.2.1 j P o o' idx len a1 a2 a3 wi h1 h2 h3 h4 h5.1, fun aw0 hf => ?_⟩
    exact hE.2.1 j _ o o' idx len a1 a2 a3 wi h1 h2 h3 h4 (h5.2 aw0 (Fw_trans hf (fwCopy h4)))
  · intro j P pc al i rest aw kc ks idx len a1 a2 a3 wi h1 h2 h3 h4 h5
    exact ⟨hE.2.2.1 j P pc al i rest aw kc ks idx len a1 a2 a3 wi h1 h2 h3 h4 h5.1, fun aw0 hf => hE.2.2.1 j _ pc al i rest aw kc ks idx len a1 a2 a3 wi h1 h2 h3 h4 (h5.2 aw0 hf)⟩
  · intro j P Q pc al st aw kc ks j2 as rest h1 h2 h3 h4
    exact ⟨hE.2.2.2.1 j P Q pc al st aw kc ks j2 as rest h1 h2 h3.1 (fun res hr => (h4 res hr).1), fun aw0 hf => hE.2.2.2.1 j _ _ pc al st aw kc ks j2 as rest h1 h2 h3.2 (fun res hr => (h4 res hr.1).2 aw0 (Fw_trans hf hr.2))⟩
  · intro j P pc al st aw kc ks i len a1 a2 a3 wi h1 h2 h3 h4 h5 h6
    exact ⟨hE.2.2.2.2.1 j P pc al st aw kc ks i len a1 a2 a3 wi h1 h2 h3 h4 h5 h6, fun aw0 hf => hE.2.2.2.2.1 j _ pc al st aw kc ks i len a1 a2 a3 wi h1 h2 h3 h4 h5 ⟨h6, hf⟩⟩
  · intro j P pc al k x y rest aw kc ks idx len a1 a2 a3 wi h1 h2 h3 h4 h5 h6 h7 h8 h9 ha hb hd
    exact ⟨hE.2.2.2.2.2.1 j P pc al k x y rest aw kc ks idx len a1 a2 a3 wi h1 h2 h3 h4 h5 h6 h7 h8 h9 ha hb hd.1, fun aw0 hf => hE.2.2.2.2.2.1 j _ pc al k x y rest aw kc ks idx len a1 a2 a3 wi h1 h2 h3 h4 h5 h6 h7 h8 h9 ha hb (hd.2 aw0 hf)⟩
  · intro j P pc al x rest aw kc ks idx len a1 a2 a3 wi h1 h2 h3 h4 h5 h6 h7 h8 h9 hd
    exact ⟨hE.2.2.2.2.2.2.1 j P pc al x rest aw kc ks idx len a1 a2 a3 wi h1 h2 h3 h4 h5 h6 h7 h8 h9 (fun n n1 n2 => (hd n n1 n2).1), fun aw0 hf => hE.2.2.2.2.2.2.1 j _ pc al x rest aw kc ks idx len a1 a2 a3 wi h1 h2 h3 h4 h5 h6 h7 h8 h9 (fun n n1 n2 => (hd n n1 n2).2 aw0 hf)⟩
  · intro j P as aw h1 h2 h3 h4
    exact ⟨hE.2.2.2.2.2.2.2 j P as aw h1 h2 h3 h4.1, hE.2.2.2.2.2.2.2 j _ as aw h1 h2 h3 (h4.2 aw (Fw_refl aw))⟩
def nwTb (j : Nat) : Bool := (rvEn j).all (fun ch => ch.2.all (fun q => nw11 q.2.1 q.2.2.2.1))
theorem nwTb_all : (List.range 316).all nwTb = true := by decide +kernel
theorem sp_kinds (j : Nat) (as : List rvV) (aw : rvH) : PCM rvTab rvInf rvRet 316 rvMth j as aw (fun res => Fw aw res.2) := fun P hP => Ev_kinds (fun j pc i len a1 a2 a3 wi hj ht => rows_all (f := fun _ e => nw11 e.1 e.2.2.1) (List.all_eq_true.mp nwTb_all j (List.mem_range.mpr hj)) ht) hP
theorem PCM_and {j : Nat} {as : List rvV} {aw : rvH} {Q Q' : xRes2 → Prop} (h : PCM rvTab rvInf rvRet 316 rvMth j as aw Q) (h' : PCM rvTab rvInf rvRet 316 rvMth j as aw Q') : PCM rvTab rvInf rvRet 316 rvMth j as aw (fun res => Q res ∧ Q' res) := fun P hP => EvM_mono (fun res hr => ⟨hr.1.1, hr.1.2, hr.2⟩) (h' _ (h P hP))
theorem PCM_mono {j : Nat} {as : List rvV} {aw : rvH} {Q Q' : xRes2 → Prop} (hq : ∀ res, Q res → Q' res) (h : PCM rvTab rvInf rvRet 316 rvMth j as aw Q) : PCM rvTab rvInf rvRet 316 rvMth j as aw Q' := fun P hP => EvM_mono (fun res hr => ⟨hr.1, hq res hr.2⟩) (h P hP)
/-! What holds of the class's cells at the loop's head. -/
def Zs (z : Nat) : Prop := ∃ i, i < 8 ∧ z = 49 + 6 * i
/-- a slot that only district, image and restore may change -/
def okE (k j : Nat) : Prop := ¬ (k = 47 ∧ j = 1) ∧ k ≠ 48 ∧ ¬ ((k = 35 ∨ k = 41 ∨ Zs k) ∧ j = 0)
def Eh (aw : rvH) (k j : Nat) (v : rvV) : Prop := okE k j ∧ hV aw k j v
def hcL : List (Nat × Nat × Nat) := [(0, 0, 1), (0, 1, 35), (0, 2, 41), (0, 3, 47), (0, 4, 8), (0, 5, 9), (0, 6, 10), (0, 7, 11), (47, 0, 48), (8, 0, 97), (8, 1, 103)]
def HC (aw : rvH) : Prop := ∀ q ∈ hcL, hV aw q.1 q.2.1 (rf q.2.2)
theorem Zs_no {k : Nat} (h : Zs k) : 49 ≤ k ∧ k ≤ 91 ∧ k ≠ 97 ∧ k ≠ 103 := by
  obtain ⟨i, h1, h2⟩ := h
  omega
theorem okE_hc : ∀ q ∈ hcL, okE q.1 q.2.1 := by
  unfold hcL
  simp only [List.forall_mem_cons]
  have key : ∀ k j, (k < 35 ∨ (k = 47 ∧ j = 0)) → okE k j := by
    intro k j h
    refine ⟨fun q => by omega, fun q => by omega, fun q => ?_⟩
    rcases q with ⟨q | q | q, -⟩
    · omega
    · omega
    · have := Zs_no q; omega
  refine ⟨key _ _ (by omega), key _ _ (by omega), key _ _ (by omega), key _ _ (by omega), key _ _ (by omega), key _ _ (by omega), key _ _ (by omega), key _ _ (by omega), key _ _ (by omega), key _ _ (by omega), key _ _ (by omega), fun q hq => by cases hq⟩
theorem SC_h {aw : rvH} (h : HC aw) : SC 35 41 47 48 Zs (Eh aw) := by
  refine ⟨by decide, fun q => by have := Zs_no q; omega, fun q => by have := Zs_no q; omega, by decide, by decide, by decide, fun q => by have := Zs_no q; omega, ⟨okE_hc (47, 0, 48) (by decide), h (47, 0, 48) (by decide)⟩, fun k j v e => ?_⟩
  obtain ⟨⟨e1, e2, e3⟩, -⟩ := e
  exact ⟨e1, e2, fun q => e3 ⟨Or.inl q.1, q.2⟩, fun q => e3 ⟨Or.inr (Or.inl q.1), q.2⟩, fun q => e3 ⟨Or.inr (Or.inr q.1), q.2⟩⟩
theorem hX_h {aw : rvH} (h : HC aw) : ∀ r, 1 ≤ r → r ≤ 3 → Eh aw 0 r (rf (adX 0 35 41 47 r)) := by
  intro r h1 h2
  have : r = 1 ∨ r = 2 ∨ r = 3 := by omega
  rcases this with rfl | rfl | rfl
  · exact ⟨okE_hc (0, 1, 35) (by decide), h (0, 1, 35) (by decide)⟩
  · exact ⟨okE_hc (0, 2, 41) (by decide), h (0, 2, 41) (by decide)⟩
  · exact ⟨okE_hc (0, 3, 47) (by decide), h (0, 3, 47) (by decide)⟩
/-- what holds at the head, of the town t0 -/
def HF (t0 : Nat) (aw : rvH) : Prop := HC aw ∧ K5 aw 10 ∧ (∀ (k : Nat) (fs : List rvV), aw[k]? = some (.inl (11, fs)) → k = 0) ∧ TI 35 41 47 48 Zs (Eh aw) t0 false aw
/-- a heap behind it that has the same towns -/
def SameT (t0 : Nat) (aw0 aw : rvH) : Prop := TI 35 41 47 48 Zs (Eh aw0) t0 false aw ∧ Fw aw0 aw
theorem SameT_refl {t0 : Nat} {aw : rvH} (h : HF t0 aw) : SameT t0 aw aw := ⟨h.2.2.2, Fw_refl _⟩
theorem K5_Fw {aw aw' : rvH} {p : Nat} (h : Fw aw aw') (hk : K5 aw p) : K5 aw' p := by
  obtain ⟨n, d, ov, e⟩ := hk
  obtain ⟨c', e', k⟩ := h.2.1 p _ e
  rcases c' with ⟨ci, fs⟩ | ⟨q, n', d', ov'⟩
  · exact absurd k id
  · obtain ⟨rfl, rfl⟩ := k
    exact ⟨_, _, _, e'⟩
theorem one_Fw {aw aw' : rvH} (h : Fw aw aw') (hk : ∀ (k : Nat) (fs : List rvV), aw[k]? = some (.inl (11, fs)) → k = 0) : ∀ (k : Nat) (fs : List rvV), aw'[k]? = some (.inl (11, fs)) → k = 0 := by
  intro k fs e
  have hl := h.2.2 k fs e
  have e1 := List.getElem?_eq_getElem hl
  obtain ⟨c', e', sh⟩ := h.2.1 k _ e1
  rw [e] at e'
  have e' := Option.some.inj e'
  rw [← e'] at sh
  cases hc : aw[k] with
  | inl x =>
    rw [hc] at sh e1
    obtain ⟨ci, gs⟩ := x
    have : ci = 11 := sh.1.symm
    subst this
    exact hk k gs e1
  | inr x =>
    rw [hc] at sh
    exact absurd sh id
theorem HF_same {t0 : Nat} {aw0 aw : rvH} (h : HF t0 aw0) (hs : SameT t0 aw0 aw) : HF t0 aw := by
  obtain ⟨h1, h2, h3, -⟩ := h
  obtain ⟨⟨g1, g2, g3, g4, g5⟩, hw⟩ := hs
  exact ⟨fun q hq => g1 _ _ _ ⟨okE_hc q hq, h1 q hq⟩, K5_Fw hw h2, one_Fw hw h3, fun k j v e => e.2, g2, g3, g4, g5⟩
theorem SameT_Fr {t0 : Nat} {aw0 aw aw' : rvH} (hs : SameT t0 aw0 aw) (hf : Fr aw aw') (hw : Fw aw aw') : SameT t0 aw0 aw' := ⟨TI_Fr hs.1 hf, Fw_trans hs.2 hw⟩
theorem sm_neutral {t0 : Nat} {aw0 aw : rvH} {j : Nat} (hj : ntS j = true) (hs : SameT t0 aw0 aw) (as : List rvV) : PCM rvTab rvInf rvRet 316 rvMth j as aw (fun res => SameT t0 aw0 res.2) := PCM_mono (fun res hr => SameT_Fr hs hr.1 hr.2) (PCM_and (sp_neutral hj as aw) (sp_kinds j as aw))
def mvS (n : Nat) : Bool := [255, 270, 301, 58, 75, 86, 272, 303, 254, 259, 261, 265, 268].any (Nat.beq n)
theorem sm_mv {t0 : Nat} {aw0 aw : rvH} {j : Nat} (hj : mvS j = true) (h : HF t0 aw0) (hs : SameT t0 aw0 aw) (as : List rvV) : PCM rvTab rvInf rvRet 316 rvMth j (rf 0 :: as) aw (fun res => SameT t0 aw0 res.2) := by
  refine PCM_mono (fun res hr => ⟨hr.1, Fw_trans hs.2 hr.2⟩) (PCM_and ?_ (sp_kinds j _ aw))
  have s := SC_h h.1
  have x := hX_h h.1
  unfold mvS at hj
  simp only [List.any_cons, List.any_nil, Bool.or_eq_true, Bool.or_false] at hj
  rcases hj with e | e | e | e | e | e | e | e | e | e | e | e | e
  all_goals
    have e := rv_beq e
    subst e
  · exact mv_255 s x hs.1
  · exact mv_270 s x hs.1
  · exact mv_301 s x hs.1
  · exact mv_58 s x hs.1
  · exact mv_75 s x hs.1
  · exact mv_86 s x hs.1
  · exact mv_272 s x hs.1
  · exact mv_303 s x hs.1
  · exact mv_254 s x hs.1
  · exact mv_259 s x hs.1
  · exact mv_261 s x hs.1
  · exact mv_265 s x hs.1
  · exact mv_268 s x hs.1
/-- any call of the law but district's, image's, restore's -/
theorem sm_call {t0 : Nat} {aw0 aw : rvH} {tab : Nat → Nat → Option rvE} {j pc kc ks j2 : Nat} {st as rest : List rvV} (hj : (ntS j2 || mvS j2) = true) (h : HF t0 aw0) (hs : SameT t0 aw0 aw) (hi : xInv tab rvInf j pc st aw kc ks j2 as rest) (hv : ∀ i len a2 a3 wi, mvS j2 = true → tab j pc = some (i, len, j2, a2, a3, wi) → ¬ ∃ x, i = .invokestatic x) : PCM rvTab rvInf rvRet 316 rvMth j2 as aw (fun res => SameT t0 aw0 res.2) := by
  rcases rv_or' hj with hj | hj
  · exact sm_neutral hj hs as
  · obtain ⟨i, len, a2, a3, wi, as0, rest0, ht, hp, -, -, -, -, -, hc⟩ := hi
    rcases hc with ⟨hc, -⟩ | ⟨-, v, -, e2, hc⟩
    · exact absurd hc (hv i len a2 a3 wi hj ht)
    · have hcls : (rvInf j2).2.2.2.2.2 = 11 := by
        unfold mvS at hj
        simp only [List.any_cons, List.any_nil, Bool.or_eq_true, Bool.or_false] at hj
        rcases hj with e | e | e | e | e | e | e | e | e | e | e | e | e
        all_goals
          have e := rv_beq e
          subst e
          rfl
      rw [hcls] at hc
      rcases hc with ⟨k, fl, rfl, hk⟩ | ⟨k, -, -, hk⟩
      · have : k = 0 := one_Fw hs.2 h.2.2.1 k fl hk
        subst this
        rw [e2]
        exact sm_mv hj h hs as0
      · cases hk
