/-! A state is held against a template: the template's variables as sums of the state's. -/
def xSbT (s : List xL) : List (Nat × Int) → Option xL
  | [] => some ([], 0)
  | (x, k) :: t => (match s[x]?, xSbT s t with
    | some l, some m => some (xAdd (xMul k l) m)
    | _, _ => none)
def xSb (s : List xL) (l : xL) : Option xL := match xSbT s l.1 with
  | some m => some (m.1, m.2 + l.2)
  | none => none
theorem xSbT_ok {s : List xL} {r : List Int} : ∀ {t : List (Nat × Int)} {m : xL}, xSbT s t = some m → xVal r m = xEv (s.map (xVal r)) t ∧ xWf s.length t
  | [], m, h => by
      cases h
      exact ⟨rfl, (fun q hq => by cases hq)⟩
  | (x, k) :: t, m, h => by
      unfold xSbT at h
      split at h
      · rename_i l m2 hl hm
        cases h
        obtain ⟨h1, h2⟩ := xSbT_ok hm
        have hx := (List.getElem?_eq_some_iff.mp hl).1
        refine ⟨?_, fun q hq => ?_⟩
        · rw [xAdd_ok, xMul_ok, h1]
          show _ = k * (s.map (xVal r)).getD x 0 + xEv (s.map (xVal r)) t
          congr 2
          rw [List.getD_eq_getElem?_getD, List.getElem?_map, hl]
          rfl
        · rcases List.mem_cons.mp hq with e | hq
          · rw [e]; exact hx
          · exact h2 q hq
      · cases h
theorem xSb_ok {s : List xL} {r : List Int} {l m : xL} (h : xSb s l = some m) : xVal r m = xVal (s.map (xVal r)) l ∧ xWf s.length l.1 := by
  unfold xSb at h
  split at h
  · rename_i m2 hm
    cases h
    obtain ⟨h1, h2⟩ := xSbT_ok (r := r) hm
    refine ⟨?_, h2⟩
    unfold xVal at h1 ⊢
    show xEv r m2.1 + (m2.2 + l.2) = _
    omega
  · cases h
/-- a sum is surely nothing -/
def xZ (Q : xQ) (l : xL) : Bool := xGe Q.1 l && xGe Q.1 (xMul (-1) l)
theorem xZ_ok {Q : xQ} {r : List Int} {l : xL} (h : xQs Q r) (hz : xZ Q l = true) : xVal r l = 0 := by
  obtain ⟨h1, h2⟩ := rv_and hz
  have h1 := xGe_ok h.1 h1
  have h2 := xGe_ok h.1 h2
  rw [xMul_ok] at h2
  omega
theorem xR_any {r r' : List Int} {T pl pl' : List Nat} {t k : Nat} {c : rvV} (ht : Nat.beq t 2 = false) (h : xR r T pl (.inr (t, k)) c) : xR r' T pl' (.inr (t, k)) c := by
  unfold xR at h ⊢
  split at h
  · rename_i heq; cases heq
  · rename_i heq; cases heq; exact h
  · rename_i heq; cases heq; exact h
  · rename_i heq; cases heq; cases ht
  · rename_i heq; cases heq; exact h
  · rename_i heq; cases heq; trivial
  · rename_i heq; cases heq; exact h
  · rename_i heq; cases heq; exact h
  · rename_i heq
    cases heq
    exact h
def xFitV (s : List xL) (Q : xQ) (ah : List xC) (n : Nat) (tv sv : xV) : Bool := match tv, sv with
  | .inl a, .inl b => (match xSb s (xSm a) with
    | some m => xZ Q (xSub m (xSm b))
    | none => false)
  | .inr (9, _), _ => true
  | .inr (2, k), .inr (2, k2) => Nat.beq k k2 && Nat.blt k n
  | .inr (20, g), v => xFitG ah false g v
  | .inr (21, g), v => xFitG ah true g v
  | .inr (1, 0), .inr (1, _) => true
  | .inr (t, k), .inr (t2, k2) => !Nat.beq t 2 && (Nat.beq t t2 && Nat.beq k k2)
  | _, _ => false
theorem x_take {α : Type} {l : List α} {n k : Nat} {a : α} (hk : k < n) (h : l[k]? = some a) : (l.take n)[k]? = some a := by
  rw [List.getElem?_take]
  simp [hk, h]
theorem xFitV_ok {s : List xL} {Q : xQ} {ah : List xC} {n : Nat} {tv sv : xV} {r : List Int} {T pl : List Nat} {aw : rvH} {c : rvV} (hQ : xQs Q r) (hS : xSt r T pl ah aw) (hv : xR r T pl sv c) (h : xFitV s Q ah n tv sv = true) : xR (s.map (xVal r)) T (pl.take n) tv c := by
  unfold xFitV at h
  split at h
  · rename_i a b
    split at h
    · rename_i m hm
      obtain ⟨h1, h2⟩ := xSb_ok (r := r) hm
      have h3 := xZ_ok hQ h
      rw [xSub_ok] at h3
      obtain ⟨z, rfl, ez, z32, -⟩ := xR_pt hv
      have e : xVal (s.map (xVal r)) (xSm a) = z := by omega
      exact ⟨by rw [List.length_map]; exact h2, by rw [e]; exact z32, by rw [e]⟩
    · cases h
  · trivial
  · rename_i k k2
    obtain ⟨h1, h2⟩ := rv_and h
    have h1 := rv_beq h1
    subst h1
    obtain ⟨i, hi, rfl⟩ := hv
    exact ⟨i, x_take (rv_blt h2) hi, rfl⟩
  · rename_i g v
    rcases xFitG_ok hS hv h with ⟨b, -⟩ | ⟨g1, i, g2, rfl⟩
    · cases b
    · exact ⟨g1, i, g2, rfl⟩
  · rename_i g v
    rcases xFitG_ok hS hv h with ⟨-, z, rfl⟩ | ⟨g1, i, g2, rfl⟩
    · exact Or.inl ⟨z, rfl⟩
    · exact Or.inr ⟨g1, i, g2, rfl⟩
  · obtain ⟨z, rfl, -⟩ := xR_lc hv
    exact ⟨z, rfl⟩
  · rename_i t k t2 k2 _ _ _ _ _
    obtain ⟨h0, h1⟩ := rv_and h
    obtain ⟨h1, h2⟩ := rv_and h1
    have h1 := rv_beq h1
    have h2 := rv_beq h2
    subst h1; subst h2
    have h0 : Nat.beq t 2 = false := by
      cases hb : Nat.beq t 2 with
      | false => rfl
      | true => rw [hb] at h0; cases h0
    exact xR_any h0 hv
  · cases h
def xFitVs (s : List xL) (Q : xQ) (ah : List xC) (n : Nat) : List xV → List xV → Bool
  | [], [] => true
  | t :: ts, v :: vs => xFitV s Q ah n t v && xFitVs s Q ah n ts vs
  | _, _ => false
theorem xFitVs_ok {s : List xL} {Q : xQ} {ah : List xC} {n : Nat} {r : List Int} {T pl : List Nat} {aw : rvH} (hQ : xQs Q r) (hS : xSt r T pl ah aw) : ∀ {ts vs : List xV} {cs : List rvV}, xFitVs s Q ah n ts vs = true → xRs r T pl vs cs → xRs (s.map (xVal r)) T (pl.take n) ts cs
  | [], [], [], _, _ => trivial
  | [], [], _ :: _, _, h => h
  | _ :: _, _ :: _, [], _, h => absurd h id
  | _ :: _, _ :: _, _ :: _, h, hv => by
      obtain ⟨h1, h2⟩ := rv_and h
      exact ⟨xFitV_ok hQ hS hv.1 h1, xFitVs_ok hQ hS h2 hv.2⟩
  | [], _ :: _, _, h, _ => by cases h
  | _ :: _, [], _, h, _ => by cases h
def xFitO (s : List xL) (Q : xQ) (ah : List xC) (n : Nat) (ov : List ((Nat × Int × Int) × xV)) (q : (Nat × Int × Int) × xV) : Bool := match xSb s (xSm q.1) with
  | some m => ov.any (fun b => xZ Q (xSub m (xSm b.1)) && xFitV s Q ah n q.2 b.2)
  | none => false
theorem xFitO_ok {s : List xL} {Q : xQ} {ah : List xC} {n : Nat} {ov : List ((Nat × Int × Int) × xV)} {q : (Nat × Int × Int) × xV} {r : List Int} {T pl : List Nat} {aw : rvH} {c : rvC} (hQ : xQs Q r) (hS : xSt r T pl ah aw) (ho : ∀ b ∈ ov, xOv r T pl c b) (h : xFitO s Q ah n ov q = true) : xOv (s.map (xVal r)) T (pl.take n) c q := by
  unfold xFitO at h
  split at h
  · rename_i m hm
    obtain ⟨b, hb, h⟩ := List.any_eq_true.mp h
    obtain ⟨h1, h2⟩ := rv_and h
    obtain ⟨e1, e2⟩ := xSb_ok (r := r) hm
    have h3 := xZ_ok hQ h1
    rw [xSub_ok] at h3
    obtain ⟨-, j, w, k2, k3, k4⟩ := ho b hb
    exact ⟨by rw [List.length_map]; exact e2, j, w, by omega, k3, xFitV_ok hQ hS k4 h2⟩
  · cases h
/-- regions that speak of strong cells speak of the first 52 -/
def xTk (t : xT) : Bool := match t with
  | .inr (2, k) => Nat.blt k 52
  | _ => true
def xGk (g : xG) : Bool := match g with
  | .inl (_, fts) => fts.all xTk
  | .inr (_, _, _, sg) => sg.all (fun q => xTk q.2)
theorem xGk_lt : ∀ g, g < 112 → xGk (xRgn g) = true := by decide +kernel
theorem xGk_all (g : Nat) : xGk (xRgn g) = true := by
  rcases Nat.lt_or_ge g 112 with h | h
  · exact xGk_lt g h
  · have hb : Nat.ble g 111 = false := by
      cases hb : Nat.ble g 111 with
      | false => rfl
      | true => have := rv_ble hb; omega
    unfold xRgn
    rw [hb]
    rfl
theorem xTy_take {T pl : List Nat} {n : Nat} (hn : 52 ≤ n) {t : xT} {c : rvV} (hk : xTk t = true) (h : xTy T pl t c) : xTy T (pl.take n) t c := by
  rcases t with a | ⟨t, k⟩
  · exact h
  · by_cases e : t = 2
    · subst e
      obtain ⟨i, hi, rfl⟩ := h
      have hk : Nat.blt k 52 = true := hk
      have := rv_blt hk
      exact ⟨i, x_take (by omega) hi, rfl⟩
    · refine xR_any (r := []) ?_ h
      cases hb : Nat.beq t 2 with
      | false => rfl
      | true => exact absurd (rv_beq hb) e
theorem xAt_k {sg : List (Nat × xT)} (h : sg.all (fun q => xTk q.2) = true) (j : Nat) : xTk (xAt sg j) = true := by
  induction sg with
  | nil => rfl
  | cons a t ih =>
    obtain ⟨h1, h2⟩ := rv_and h
    unfold xAt
    cases hb : Nat.blt j a.1 with
    | true => exact h1
    | false => exact ih h2
theorem xHp_take {T pl : List Nat} {aw : rvH} {n : Nat} (hn : 52 ≤ n) (h : xHp xRgn T pl aw) : xHp xRgn T (pl.take n) aw := by
  refine ⟨h.1, fun i g c hi hc => ?_⟩
  have h1 := h.2 i g c hi hc
  have h2 := xGk_all g
  cases hg : xRgn g with
  | inl y =>
    obtain ⟨ci, fts⟩ := y
    rw [hg] at h1 h2
    obtain ⟨fl, rfl, hlen, hty⟩ := xCell_obj h1
    exact ⟨rfl, hlen, fun f ty v hf hv => xTy_take hn (List.all_eq_true.mp h2 ty (List.mem_of_getElem? hf)) (hty f ty v hf hv)⟩
  | inr y =>
    obtain ⟨q, m, p, sg⟩ := y
    rw [hg] at h1 h2
    obtain ⟨dv, ov, rfl, hty⟩ := xCell_row h1
    exact ⟨rfl, rfl, fun j hj => xTy_take hn (xAt_k h2 _) (hty j hj)⟩
