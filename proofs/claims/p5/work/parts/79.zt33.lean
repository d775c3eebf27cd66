/-! The class's image leaves the reference's cells (by hand). -/
def K12 (aw aw' : rvH) : Prop := ∀ (k : Nat) (fs : List rvV), aw[k]? = some (.inl (12, fs)) → aw'[k]? = some (.inl (12, fs))
theorem K12_refl (aw : rvH) : K12 aw aw := fun _ _ h => h
theorem K12_trans {aw aw' aw'' : rvH} (h : K12 aw aw') (h' : K12 aw' aw'') : K12 aw aw'' := fun k fs e => h' k fs (h k fs e)
theorem K12_set {aw : rvH} {k : Nat} {c c' : rvC} (e : aw[k]? = some c) (h : ∀ fs, c ≠ .inl (12, fs)) : K12 aw (aw.set k c') := fun m fs hm => by
  by_cases hk : k = m
  · subst hk
    rw [e] at hm
    exact absurd (Option.some.inj hm) (h fs)
  · rw [List.getElem?_set_ne hk]
    exact hm
theorem K12_app {aw : rvH} {c : rvC} : K12 aw (aw ++ [c]) := fun m fs hm => by
  rw [List.getElem?_append_left (List.getElem?_eq_some_iff.mp hm).1]
  exact hm
def n12 (i : Instr) (a1 : Nat) : Bool := match i with
  | .putfield _ => !Nat.beq a1 12
  | _ => true
theorem k12Step {sc : List (Int × Int)} {BC BS mL a1 a2 a3 pc kc ks : Nat} {i : Instr} {al st : List rvV} {aw : rvH} {o : rvS} (hm : n12 i a1 = true) (h : rvStep rvTy rvNf rvTxt sc BC BS mL i a1 a2 a3 pc al st aw kc ks = some o) : K12 aw o.2.2.2.1 := by
  by_cases hb : hpB i = true
  · rw [(tStep h).2.2 hb]
    exact K12_refl _
  · cases i
    case putfield idx =>
      simp only [rvStep] at h
      split at h
      · split at h
        · rename_i ci fs e
          obtain ⟨hc, rfl⟩ := rv_bif h
          have hc := rv_beq (rv_and hc).1
          have hm : (!Nat.beq a1 12) = true := hm
          refine K12_set e (fun gs q => ?_)
          have q1 : ci = 12 := (Prod.mk.inj (Sum.inl.inj q)).1
          rw [← hc, q1] at hm
          cases hm
        · cases h
      · cases h
    case iastore =>
      simp only [rvStep] at h
      split at h
      · split at h
        · rename_i n d ov e
          split at h
          · cases h
            exact K12_set e (fun gs q => by cases q)
          · cases h
        · cases h
      · cases h
    case bastore =>
      simp only [rvStep] at h
      split at h
      · split at h
        · rename_i n d ov e
          split at h
          · obtain ⟨hc, rfl⟩ := rv_bif h
            exact K12_set e (fun gs q => by cases q)
          · cases h
        · rename_i n d ov e
          split at h
          · obtain ⟨hc, rfl⟩ := rv_bif h
            exact K12_set e (fun gs q => by cases q)
          · cases h
        · cases h
      · cases h
    case lastore =>
      simp only [rvStep] at h
      split at h
      · split at h
        · rename_i n d ov e
          split at h
          · cases h
            exact K12_set e (fun gs q => by cases q)
          · cases h
        · cases h
      · cases h
    case aastore =>
      simp only [rvStep] at h
      split at h
      · split at h
        · rename_i q n d ov e
          split at h
          · split at h
            · obtain ⟨hc, rfl⟩ := rv_bif h
              exact K12_set e (fun gs q => by cases q)
            · split at h
              · obtain ⟨hc, rfl⟩ := rv_bif h
                exact K12_set e (fun gs q => by cases q)
              · cases h
            · cases h
          · cases h
        · cases h
      · cases h
    case new idx =>
      obtain ⟨hc, rfl⟩ := rv_bif h
      exact K12_app
    case newarray t =>
      simp only [rvStep] at h
      split at h
      · obtain ⟨hc, rfl⟩ := rv_bif h
        exact K12_app
      · cases h
    case anewarray t =>
      simp only [rvStep] at h
      split at h
      · obtain ⟨hc, rfl⟩ := rv_bif h
        exact K12_app
      · cases h
    all_goals exact absurd rfl hb
theorem k12Copy {BF BL pc kc ks : Nat} {al st : List rvV} {aw : rvH} {o : rvS} (h : rvCopy BF BL pc al st aw kc ks = some o) : K12 aw o.2.2.2.1 := by
  unfold rvCopy at h
  split at h
  · split at h
    · rename_i m d ov m' d' ov' e1 e2
      obtain ⟨hc, rfl⟩ := rv_bif h
      exact K12_set e2 (fun gs q => by cases q)
    · cases h
  · cases h
def k12S (n : Nat) : Bool := [310, 149, 185].any (Nat.beq n)
def k12Tb (j : Nat) : Bool := (rvEn j).all (fun ch => ch.2.all (fun q => n12 q.2.1 q.2.2.2.1 && clRow k12S q.2))
theorem k12Tb_all : [310, 149, 185].all k12Tb = true := by decide +kernel
theorem sp_k12 {j : Nat} (hj : k12S j = true) (as : List rvV) (aw : rvH) : PCM rvTab rvInf rvRet 316 rvMth j as aw (fun res => K12 aw res.2) := fun P hP => Ev_rel (Rl := K12) (S := k12S) K12_refl K12_trans (fun j pc i len a1 a2 a3 wi _ hs ht => by
  have h := rows_all (f := fun _ e => n12 e.1 e.2.2.1 && clRow k12S e) (List.all_eq_true.mp k12Tb_all j (any_mem hs)) ht
  obtain ⟨h1, h3⟩ := rv_and h
  exact ⟨fun h => k12Step h1 h, fun hc hm => clRow_ok h3 hc hm, fun hc _ _ _ _ _ _ _ _ _ h => k12Copy h⟩) hj hP
