/-! A state fits a template: what is known of cells, variables and facts. -/
def xEqs (s : List xL) (Q : xQ) : List (Nat × Int × Int) → List (Nat × Int × Int) → Bool
  | [], [] => true
  | a :: as, b :: bs => (match xSb s (xSm a) with
    | some m => xZ Q (xSub m (xSm b))
    | none => false) && xEqs s Q as bs
  | _, _ => false
theorem xEqs_ok {s : List xL} {Q : xQ} {r : List Int} (hQ : xQs Q r) : ∀ {as bs : List (Nat × Int × Int)}, xEqs s Q as bs = true → as.map (fun v => xVal (s.map (xVal r)) (xSm v)) = bs.map (fun v => xVal r (xSm v)) ∧ ∀ v ∈ as, xWf s.length (xSm v).1
  | [], [], _ => ⟨rfl, (fun v hv => by cases hv)⟩
  | [], _ :: _, h => by cases h
  | _ :: _, [], h => by cases h
  | a :: as, b :: bs, h => by
      unfold xEqs at h
      obtain ⟨h1, h2⟩ := rv_and h
      obtain ⟨k1, k2⟩ := xEqs_ok hQ h2
      split at h1
      · rename_i m hm
        obtain ⟨e1, e2⟩ := xSb_ok (r := r) hm
        have h3 := xZ_ok hQ h1
        rw [xSub_ok] at h3
        refine ⟨?_, fun v hv => ?_⟩
        · rw [List.map_cons, List.map_cons, k1]
          congr 1
          omega
        · rcases List.mem_cons.mp hv with e | hv
          · rw [e]; exact e2
          · exact k2 v hv
      · cases h1
def xFitF (s : List xL) (S : xS) (n : Nat) (f : xF) : Bool := match f.1 with
  | 0 => true
  | 1 => false
  | 2 => (match xHas S.2.2.2.2.1 2 [] with
    | some _ => true
    | none => false)
  | 3 => false
  | _ => S.2.2.2.2.1.any (fun g => Nat.beq g.1 f.1 && (decide (g.2.1 = f.2.1) && xEqs s S.2.2.2.2.2.1 f.2.2 g.2.2)) && (xRds f.1 f.2.1 f.2.2).all (fun q => Nat.blt q.1 n)
theorem xFitF_ok {P P' : xP} {s : List xL} {S : xS} {n : Nat} {f : xF} {r : List Int} {T pl : List Nat} {aw : rvH} (hQ : xQs S.2.2.2.2.2.1 r) (hF : ∀ f ∈ S.2.2.2.2.1, xFM P f r T pl aw) (h0 : f.1 ≠ 0) (h : xFitF s S n f = true) : xFM P' f (s.map (xVal r)) T (pl.take n) aw := by
  obtain ⟨kd, ns, vs⟩ := f
  match kd, h0, h with
  | 0, h0, _ => exact absurd rfl h0
  | 1, _, h => cases h
  | 2, _, h =>
    have h : (match xHas S.2.2.2.2.1 2 [] with
      | some _ => true
      | none => false) = true := h
    split at h
    · rename_i v hh
      exact hF _ (xHas_ok hh)
    · cases h
  | 3, _, h => cases h
  | kd + 4, _, h =>
    obtain ⟨h1, h2⟩ := rv_and h
    obtain ⟨g, hg, h3⟩ := List.any_eq_true.mp h1
    obtain ⟨b1, e2⟩ := rv_and h3
    obtain ⟨b2, b3⟩ := rv_and e2
    obtain ⟨gk, gn, gv⟩ := g
    have c1 : gk = kd + 4 := rv_beq b1
    have c2 : gn = ns := of_decide_eq_true b2
    subst c1; subst c2
    obtain ⟨k1, k2⟩ := xEqs_ok hQ b3
    obtain ⟨-, hf⟩ := hF _ hg
    have hf : xFv (kd + 4) gn (gv.map (fun v => xVal r (xSm v))) (xRd pl aw) := hf
    have k1 : vs.map (fun v => xVal (s.map (xVal r)) (xSm v)) = gv.map (fun v => xVal r (xSm v)) := k1
    rw [← k1] at hf
    refine ⟨fun v hv => by rw [List.length_map]; exact k2 v hv, xFv_loc (fun q hq j j1 j2 z hz => ?_) hf⟩
    have hlt := rv_blt (List.all_eq_true.mp h2 q hq)
    unfold xRd at hz ⊢
    split at hz
    · rename_i i hi
      rw [x_take hlt hi]
      exact hz
    · cases hz
noncomputable def xFitN (d : Nat) (Q : xQ) : xN → List xL → Bool
  | [], [] => true
  | a :: N, l :: s => (xEnt Q.1 Q.2 d (xSub l (xK a.1)) && xEnt Q.1 Q.2 d (xSub (xK a.2) l)) && xFitN d Q N s
  | _, _ => false
theorem xFitN_len {d : Nat} {Q : xQ} : ∀ {N : xN} {s : List xL}, xFitN d Q N s = true → N.length = s.length
  | [], [], _ => rfl
  | [], _ :: _, h => by cases h
  | _ :: _, [], h => by cases h
  | _ :: N, _ :: s, h => by
      have := xFitN_len (rv_and h).2
      simp [this]
theorem xFitN_get {d : Nat} {Q : xQ} {r : List Int} (hQ : xQs Q r) : ∀ {N : xN} {s : List xL}, xFitN d Q N s = true → ∀ (x : Nat) (a : Int × Int), N[x]? = some a → a.1 ≤ (s.map (xVal r)).getD x 0 ∧ (s.map (xVal r)).getD x 0 ≤ a.2
  | [], [], _, x, a, ha => by simp at ha
  | [], _ :: _, h, _, _, _ => by cases h
  | _ :: _, [], h, _, _, _ => by cases h
  | b :: N, l :: s, h, x, a, ha => by
      obtain ⟨h1, h2⟩ := rv_and h
      obtain ⟨h3, h4⟩ := rv_and h1
      cases x with
      | zero =>
        have e : b = a := by simpa using ha
        subst e
        have k3 := xEnt_ok hQ.1 hQ.2.1 d h3
        have k4 := xEnt_ok hQ.1 hQ.2.1 d h4
        rw [xSub_ok, xK_ok] at k3 k4
        show b.1 ≤ xVal r l ∧ xVal r l ≤ b.2
        omega
      | succ x => exact xFitN_get hQ h2 x a (by simpa using ha)
def xFitA (s : List xL) (Q : xQ) (ah : List xC) (n : Nat) : List xC → List xC → Bool
  | [], _ => true
  | t :: ts, a :: as => (Nat.beq t.1 a.1 && t.2.all (xFitO s Q ah n a.2)) && xFitA s Q ah n ts as
  | _ :: _, [] => false
theorem xFitA_len {s : List xL} {Q : xQ} {ah : List xC} {n : Nat} : ∀ {ts as : List xC}, xFitA s Q ah n ts as = true → ts.length ≤ as.length
  | [], _, _ => Nat.zero_le _
  | _ :: _, [], h => by cases h
  | _ :: ts, _ :: as, h => by
      have := xFitA_len (rv_and h).2
      simp
      omega
theorem xFitA_get {s : List xL} {Q : xQ} {ah : List xC} {n : Nat} : ∀ {ts as : List xC}, xFitA s Q ah n ts as = true → ∀ (k : Nat) (t : xC), ts[k]? = some t → ∃ a, as[k]? = some a ∧ t.1 = a.1 ∧ t.2.all (xFitO s Q ah n a.2) = true
  | [], _, _, k, t, h => by simp at h
  | _ :: _, [], h, _, _, _ => by cases h
  | t0 :: ts, a0 :: as, h, k, t, ht => by
      obtain ⟨h1, h2⟩ := rv_and h
      obtain ⟨h3, h4⟩ := rv_and h1
      cases k with
      | zero =>
        have e : t0 = t := by simpa using ht
        subst e
        exact ⟨a0, rfl, rv_beq h3, h4⟩
      | succ k =>
        obtain ⟨a, k1, k2⟩ := xFitA_get h2 k t (by simpa using ht)
        exact ⟨a, by simpa using k1, k2⟩
noncomputable def xFitK (d : Nat) (s : List xL) (S Tm : xS) : Bool :=
  xFitN d S.2.2.2.2.2.1 Tm.2.2.2.2.2.1.1 s && (Tm.2.2.2.2.2.1.2.all (fun c => match xSb s c with
    | some m => xEnt S.2.2.2.2.2.1.1 S.2.2.2.2.2.1.2 d m
    | none => false) && (Nat.ble 52 Tm.2.2.2.1.length && (xFitA s S.2.2.2.2.2.1 S.2.2.2.1 Tm.2.2.2.1.length Tm.2.2.2.1 S.2.2.2.1 && Tm.2.2.2.2.1.all (xFitF s S Tm.2.2.2.1.length))))
theorem xFitK_ok {P : xP} {d : Nat} {s : List xL} {S Tm : xS} {r : List Int} {T pl : List Nat} {aw : rvH} (h4 : xSt r T pl S.2.2.2.1 aw) (h5 : xHp xRgn T pl aw) (h6 : ∀ f ∈ S.2.2.2.2.1, xFM P f r T pl aw) (h7 : xQs S.2.2.2.2.2.1 r) (h : xFitK d s S Tm = true) :
    xQs Tm.2.2.2.2.2.1 (s.map (xVal r)) ∧ xSt (s.map (xVal r)) T (pl.take Tm.2.2.2.1.length) Tm.2.2.2.1 aw ∧ xHp xRgn T (pl.take Tm.2.2.2.1.length) aw ∧ ∀ f ∈ Tm.2.2.2.2.1, f.1 ≠ 0 → ∀ P' : xP, xFM P' f (s.map (xVal r)) T (pl.take Tm.2.2.2.1.length) aw := by
  obtain ⟨a1, e2⟩ := rv_and h
  obtain ⟨a2, e3⟩ := rv_and e2
  obtain ⟨a3, e4⟩ := rv_and e3
  obtain ⟨a4, a5⟩ := rv_and e4
  have hl := xFitN_len a1
  refine ⟨⟨⟨by rw [List.length_map]; exact hl, xFitN_get h7 a1⟩, fun c hc => ?_, fun c hc => ?_⟩, ⟨?_, fun k t ht => ?_⟩, xHp_take (rv_ble a3) h5, fun f hf h0 P' => xFitF_ok h7 h6 h0 (List.all_eq_true.mp a5 f hf)⟩
  · have h1 := List.all_eq_true.mp a2 c hc
    split at h1
    · rename_i m hm
      rw [← (xSb_ok (r := r) hm).1]
      exact xEnt_ok h7.1 h7.2.1 d h1
    · cases h1
  · have h1 := List.all_eq_true.mp a2 c hc
    split at h1
    · rename_i m hm
      rw [hl]
      exact (xSb_ok (r := r) hm).2
    · cases h1
  · have := xFitA_len a4
    rw [List.length_take, ← h4.1]
    omega
  · obtain ⟨a, k1, k2, k3⟩ := xFitA_get a4 k t ht
    obtain ⟨i, c, p1, p2, p3, p4⟩ := h4.2 k a k1
    have hk := (List.getElem?_eq_some_iff.mp ht).1
    exact ⟨i, c, x_take hk p1, by rw [k2]; exact p2, p3, fun q hq => xFitO_ok h7 h4 p4 (List.all_eq_true.mp k3 q hq)⟩
