/-! A slot that stays (by hand). -/
def FB (k ci f : Nat) (v : Int) (aw : rvH) : Prop := ∀ (fs : List rvV) (z : Int), aw[k]? = some (.inl (ci, fs)) → fs[f]? = some (pt z) → z = v
def KL (ci f : Nat) (aw aw' : rvH) : Prop := aw.length ≤ aw'.length ∧ ∀ (k : Nat) (fs' : List rvV), k < aw.length → aw'[k]? = some (.inl (ci, fs')) → ∃ fs, aw[k]? = some (.inl (ci, fs)) ∧ fs'[f]? = fs[f]?
theorem FB_KL {k ci f : Nat} {v : Int} {aw aw' : rvH} (h : FB k ci f v aw) (hl : k < aw.length) (hk : KL ci f aw aw') : FB k ci f v aw' := by
  intro fs z e1 e2
  obtain ⟨gs, a1, a2⟩ := hk.2 k fs hl e1
  exact h gs z a1 (by rw [← a2]; exact e2)
theorem RH_FB {g : Nat → Nat} {aw : rvH} {H : hH} {k ci f : Nat} (hR : RH g aw H) : FB (g k) ci f (H.1 k f) aw := fun fs z e1 e2 => (hR.2.1 k f z ⟨_, e1, e2⟩).symm
theorem KL_refl {ci f : Nat} (aw : rvH) : KL ci f aw aw := ⟨Nat.le_refl _, fun _ fs' _ h => ⟨fs', h, rfl⟩⟩
theorem KL_trans {ci f : Nat} {aw aw' aw'' : rvH} (h : KL ci f aw aw') (h' : KL ci f aw' aw'') : KL ci f aw aw'' := by
  refine ⟨Nat.le_trans h.1 h'.1, fun k fs'' hk e => ?_⟩
  obtain ⟨fs', e1, e2⟩ := h'.2 k fs'' (Nat.lt_of_lt_of_le hk h.1) e
  obtain ⟨fs, e3, e4⟩ := h.2 k fs' hk e1
  exact ⟨fs, e3, e2.trans e4⟩
theorem KL_set {ci f : Nat} {aw : rvH} {k : Nat} {c c' : rvC} (e : aw[k]? = some c) (h : ∀ fs', c' = .inl (ci, fs') → ∃ fs, c = .inl (ci, fs) ∧ fs'[f]? = fs[f]?) : KL ci f aw (aw.set k c') := by
  refine ⟨by rw [List.length_set]; exact Nat.le_refl _, fun m fs' hm he => ?_⟩
  by_cases hk : k = m
  · subst hk
    rw [List.getElem?_set_self hm] at he
    obtain ⟨fs, q1, q2⟩ := h fs' (Option.some.inj he)
    exact ⟨fs, by rw [e, q1], q2⟩
  · rw [List.getElem?_set_ne hk] at he
    exact ⟨fs', he, rfl⟩
theorem KL_app {ci f : Nat} {aw : rvH} {c : rvC} : KL ci f aw (aw ++ [c]) := by
  refine ⟨by rw [List.length_append]; exact Nat.le_add_right _ _, fun m fs' hm he => ?_⟩
  rw [List.getElem?_append_left hm] at he
  exact ⟨fs', he, rfl⟩
def klB (ci f : Nat) (i : Instr) (a1 a2 : Nat) : Bool := match i with
  | .putfield _ => !(Nat.beq a1 ci && Nat.beq a2 f)
  | _ => true
theorem klStep {ci f : Nat} {sc : List (Int × Int)} {BC BS mL a1 a2 a3 pc kc ks : Nat} {i : Instr} {al st : List rvV} {aw : rvH} {o : rvS} (hm : klB ci f i a1 a2 = true) (h : rvStep rvTy rvNf rvTxt sc BC BS mL i a1 a2 a3 pc al st aw kc ks = some o) : KL ci f aw o.2.2.2.1 := by
  by_cases hb : hpB i = true
  · rw [(tStep h).2.2 hb]
    exact KL_refl _
  · cases i
    case putfield idx =>
      simp only [rvStep] at h
      split at h
      · split at h
        · rename_i ci0 fs e
          obtain ⟨hc, rfl⟩ := rv_bif h
          have hc := rv_beq (rv_and hc).1
          refine KL_set e (fun gs q => ?_)
          obtain ⟨q1, q2⟩ := Prod.mk.inj (Sum.inl.inj q)
          subst q1; subst q2
          refine ⟨_, rfl, List.getElem?_set_ne (fun e2 => ?_)⟩
          have hm : (!(Nat.beq a1 ci0 && Nat.beq a2 f)) = true := hm
          rw [← hc, e2, Nat.beq_refl, Nat.beq_refl] at hm
          cases hm
        · cases h
      · cases h
    case iastore =>
      simp only [rvStep] at h
      split at h
      · split at h
        · rename_i n d ov e
          split at h
          · cases h
            exact KL_set e (fun gs q => by cases q)
          · cases h
        · cases h
      · cases h
    case bastore =>
      simp only [rvStep] at h
      split at h
      · split at h
        · rename_i n d ov e
          split at h
          · obtain ⟨hc, rfl⟩ := rv_bif h
            exact KL_set e (fun gs q => by cases q)
          · cases h
        · rename_i n d ov e
          split at h
          · obtain ⟨hc, rfl⟩ := rv_bif h
            exact KL_set e (fun gs q => by cases q)
          · cases h
        · cases h
      · cases h
    case lastore =>
      simp only [rvStep] at h
      split at h
      · split at h
        · rename_i n d ov e
          split at h
          · cases h
            exact KL_set e (fun gs q => by cases q)
          · cases h
        · cases h
      · cases h
    case aastore =>
      simp only [rvStep] at h
      split at h
      · split at h
        · rename_i q n d ov e
          split at h
          · split at h
            · obtain ⟨hc, rfl⟩ := rv_bif h
              exact KL_set e (fun gs q => by cases q)
            · split at h
              · obtain ⟨hc, rfl⟩ := rv_bif h
                exact KL_set e (fun gs q => by cases q)
              · cases h
            · cases h
          · cases h
        · cases h
      · cases h
    case new idx =>
      obtain ⟨hc, rfl⟩ := rv_bif h
      exact KL_app
    case newarray t =>
      simp only [rvStep] at h
      split at h
      · obtain ⟨hc, rfl⟩ := rv_bif h
        exact KL_app
      · cases h
    case anewarray t =>
      simp only [rvStep] at h
      split at h
      · obtain ⟨hc, rfl⟩ := rv_bif h
        exact KL_app
      · cases h
    all_goals exact absurd rfl hb
theorem klCopy {ci f : Nat} {BF BL pc kc ks : Nat} {al st : List rvV} {aw : rvH} {o : rvS} (h : rvCopy BF BL pc al st aw kc ks = some o) : KL ci f aw o.2.2.2.1 := by
  unfold rvCopy at h
  split at h
  · split at h
    · rename_i m d ov m' d' ov' e1 e2
      obtain ⟨hc, rfl⟩ := rv_bif h
      exact KL_set e2 (fun gs q => by cases q)
    · cases h
  · cases h
def klTb (ci f : Nat) (S : Nat → Bool) (j : Nat) : Bool := (rvEn j).all (fun ch => ch.2.all (fun q => klB ci f q.2.1 q.2.2.2.1 q.2.2.2.2.1 && clRow S q.2))
theorem sp_klS {ci f : Nat} {L : List Nat} (hL : L.all (klTb ci f (fun n => L.any (Nat.beq n))) = true) {j : Nat} (hj : L.any (Nat.beq j) = true) (as : List rvV) (aw : rvH) : PCM rvTab rvInf rvRet 316 rvMth j as aw (fun res => KL ci f aw res.2) := fun P hP => Ev_rel (Rl := KL ci f) (S := fun n => L.any (Nat.beq n)) KL_refl KL_trans (fun j pc i len a1 a2 a3 wi _ hs ht => by
  have h := rows_all (f := fun _ e => klB ci f e.1 e.2.2.1 e.2.2.2.1 && clRow (fun n => L.any (Nat.beq n)) e) (List.all_eq_true.mp hL j (any_mem hs)) ht
  obtain ⟨h1, h3⟩ := rv_and h
  exact ⟨fun h => klStep h1 h, fun hc hm => clRow_ok h3 hc hm, fun hc _ _ _ _ _ _ _ _ _ h => klCopy h⟩) hj hP
/-- the rest of a method leaves the slot -/
def klRow (ci f : Nat) (L : List Nat) (p0 pc : Nat) (e : rvE) : Bool := Nat.blt pc p0 || (klB ci f e.1 e.2.2.1 e.2.2.2.1 && (clRow (fun n => L.any (Nat.beq n)) e && (match e.1 with
  | .ireturn => true
  | .lreturn => true
  | .return_ => true
  | .invokevirtual _ => Nat.ble p0 (pc + 3)
  | .invokestatic _ => Nat.ble p0 (pc + 3)
  | .invokespecial _ => false
  | i => sqB i pc (fun t => Nat.ble p0 t))))
theorem kl_run {ci f : Nat} {L : List Nat} {j p0 : Nat} (hL : L.all (klTb ci f (fun n => L.any (Nat.beq n))) = true) (hk : (rvEn j).all (fun ch => ch.2.all (fun q => klRow ci f L p0 q.1 q.2)) = true) (hx : (rvEn j).all (fun ch => ch.2.all (fun q => noX q.2)) = true) {al st : List rvV} {aw : rvH} {Post : xRes2 → Prop} (hP : ∀ r aw', KL ci f aw aw' → Post (r, aw')) : Pr rvTab rvInf rvRet 316 rvMth j Post p0 al st aw := by
  intro kc ks
  have hrow : ∀ {pc : Nat} {e : rvE}, rvTab j pc = some e → klRow ci f L p0 pc e = true := fun ht => rows_all (f := klRow ci f L p0) hk ht
  refine T_run (R := fun o => p0 ≤ o.1 ∧ KL ci f aw o.2.2.2.1) (noX_ok hx) ?_ ?_ ?_ ?_ _ ⟨Nat.le_refl _, KL_refl _⟩
  · intro o o' i len a1 a2 a3 wi ht hs hr
    rcases rv_or' (hrow ht) with h | h
    · have := rv_blt h
      have := hr.1
      omega
    · obtain ⟨h1, h⟩ := rv_and h
      obtain ⟨-, h⟩ := rv_and h
      have hf := KL_trans hr.2 (klStep h1 hs)
      cases i
      case invokevirtual x => exact absurd hs (fun q => ev_no (Or.inr (Or.inl ⟨_, rfl⟩)) q)
      case invokestatic x => exact absurd hs (fun q => ev_no (Or.inl ⟨_, rfl⟩) q)
      case invokespecial x => exact absurd hs (fun q => ev_no (Or.inr (Or.inr (Or.inl ⟨_, rfl⟩))) q)
      case ireturn => exact absurd hs (fun q => ev_no (Or.inr (Or.inr (Or.inr (Or.inl rfl)))) q)
      case lreturn => exact absurd hs (fun q => ev_no (Or.inr (Or.inr (Or.inr (Or.inr (Or.inl rfl))))) q)
      case return_ => exact absurd hs (fun q => ev_no (Or.inr (Or.inr (Or.inr (Or.inr (Or.inr rfl))))) q)
      all_goals exact ⟨rv_ble ((tStep hs).1 _ h), hf⟩
  · intro o o' idx len a1 a2 a3 wi ht h8 hs hr
    rcases rv_or' (hrow ht) with h | h
    · have := rv_blt h
      have := hr.1
      omega
    · obtain ⟨h1, h⟩ := rv_and h
      obtain ⟨-, h⟩ := rv_and h
      obtain ⟨-, f2, f3⟩ := frCopy hs
      exact ⟨by rw [f2]; exact rv_ble h, KL_trans hr.2 (klCopy hs)⟩
  · intro pc al st aw' kc ks j2 as rest hr hi hm
    obtain ⟨i, len, a2, a3, wi, ht, hc⟩ := xInv_cr hi
    rcases rv_or' (hrow ht) with h | h
    · have := rv_blt h
      have := hr.1
      omega
    · obtain ⟨-, h⟩ := rv_and h
      obtain ⟨h1, h⟩ := rv_and h
      have hS := clRow_ok h1 (by
        rcases hc with ⟨⟨x, rfl⟩, hc⟩ | ⟨x, rfl⟩ | ⟨⟨x, rfl⟩, hc⟩
        · exact Or.inl ⟨⟨_, rfl⟩, hc⟩
        · exact Or.inr (Or.inl ⟨_, rfl⟩)
        · exact Or.inr (Or.inr ⟨⟨_, rfl⟩, hc⟩)) hm
      rcases hc with ⟨⟨x, rfl⟩, hc⟩ | ⟨x, rfl⟩ | ⟨⟨x, rfl⟩, hc⟩
      · exact ⟨_, sp_klS hL hS as aw', fun res hres kc' ks' => ⟨rv_ble h, KL_trans hr.2 hres⟩⟩
      · exact ⟨_, sp_klS hL hS as aw', fun res hres kc' ks' => ⟨rv_ble h, KL_trans hr.2 hres⟩⟩
      · cases h
  · intro o i len a1 a2 a3 wi ht hi hr
    exact hP _ _ hr.2
theorem J_PCMb {g : Nat → Nat} {j : Nat} {as : List rvV} {H : hH} {Post : xRes2 → Prop} (hj : j < 316) (hl : rvLen (rvEnt as) ≤ (rvInf j).1) (h : J g rvTab rvInf rvRet 316 rvMth j Post 0 (rvEnt as ++ List.replicate ((rvInf j).1 - rvLen (rvEnt as)) rvU) [] H) : ∀ aw : rvH, RH g aw H → exL as → PCM rvTab rvInf rvRet 316 rvMth j as aw Post := by
  intro aw hR ha P hE
  obtain ⟨hm, hE⟩ := EvM_none hE
  refine (Ev_clo rvTab rvInf rvRet 316 rvMth).2.2.2.2.2.2.2 j _ as aw hj hm hl (h aw 0 0 hR (ex_app (ex_ent ha) (fun v hv => ?_)) (fun v hv => by cases hv) P hE)
  rw [(List.mem_replicate.mp hv).2]
  exact exV_U
def klSX : List Nat := [1, 13, 14, 15, 16, 31, 34, 38, 39, 40, 41, 89, 141, 150, 151, 152, 179, 180, 185, 204, 206, 213, 236, 256, 257]
def klSM : List Nat := [0, 29, 30, 32, 35, 37, 42, 43, 44, 76, 77, 162, 173, 175, 176, 177, 178, 215, 216, 217, 218]
theorem klX_all : klSX.all (klTb 11 14 (fun n => klSX.any (Nat.beq n))) = true := by decide +kernel
theorem klM_all : klSM.all (klTb 12 15 (fun n => klSM.any (Nat.beq n))) = true := by decide +kernel
theorem bkX_row : (rvEn 303).all (fun ch => ch.2.all (fun q => klRow 11 14 klSX 43 q.1 q.2)) = true := by decide +kernel
theorem bkX_nx : (rvEn 303).all (fun ch => ch.2.all (fun q => noX q.2)) = true := by decide +kernel
theorem bkM_row : (rvEn 90).all (fun ch => ch.2.all (fun q => klRow 12 15 klSM 83 q.1 q.2)) = true := by decide +kernel
theorem bkM_nx : (rvEn 90).all (fun ch => ch.2.all (fun q => noX q.2)) = true := by decide +kernel
theorem dsX_row : (rvEn 235).all (fun ch => ch.2.all (fun q => klRow 11 14 klSX 23 q.1 q.2)) = true := by decide +kernel
theorem dsX_nx : (rvEn 235).all (fun ch => ch.2.all (fun q => noX q.2)) = true := by decide +kernel
theorem bk_in {a1 : Int} (h : a1 = 0 ∨ a1 = 1) : ¬ f_X12_isIn a1 0 1 = 0 := by
  rcases h with rfl | rfl <;> decide
