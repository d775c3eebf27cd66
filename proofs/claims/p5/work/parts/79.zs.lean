/-! The exact heap at the loop's head as functions (by hand). -/
section GH
variable {r : List Int} {T pl : List Nat} {aw : rvH}
/-- the strong cells are there, all cells are of their regions -/
def gS (T pl : List Nat) (aw : rvH) : Prop := (∀ k, k < 52 → ∃ i c, pl[k]? = some i ∧ T[i]? = some (60 + k) ∧ aw[i]? = some c) ∧ xHp xRgn T pl aw
theorem gh_len (h : gS T pl aw) : aw.length = T.length := h.2.1
theorem gh_rg : ∀ k, k < 52 → ∃ l, lwAh[k]? = some (60 + k, l) := by
  have h : ∀ k : Fin 52, (lwAh[k.1]?.map Prod.fst) = some (60 + k.1) := by decide +kernel
  intro k hk
  have := h ⟨k, hk⟩
  cases e : lwAh[k]? with
  | none => rw [e] at this; cases this
  | some s =>
    rw [e] at this
    have := Option.some.inj this
    obtain ⟨a, l⟩ := s
    have this : a = 60 + k := this
    exact ⟨l, by rw [this]⟩
/-- a strong cell -/
theorem gS_of {ah : List xC} (hr : ∀ k, k < 52 → ∃ l, ah[k]? = some (60 + k, l)) (h1 : xSt r T pl ah aw) (h2 : xHp xRgn T pl aw) : gS T pl aw := by
  refine ⟨fun k hk => ?_, h2⟩
  obtain ⟨l, e⟩ := hr k hk
  obtain ⟨i, c, a, b, d, -⟩ := h1.2 k _ e
  exact ⟨i, c, a, b, d⟩
theorem gS_inv (h : lwInv r T pl aw) : gS T pl aw := gS_of gh_rg h.1 h.2.1
theorem gh_st (h : gS T pl aw) {k : Nat} (hk : k < 52) : ∃ i c, pl[k]? = some i ∧ T[i]? = some (60 + k) ∧ aw[i]? = some c ∧ xCell T pl (xRgn (60 + k)) c := by
  obtain ⟨i, c, h1, h2, h3⟩ := h.1 k hk
  exact ⟨i, c, h1, h2, h3, h.2.2 i _ c h2 h3⟩
/-- a cell of a region -/
theorem gh_at (h : gS T pl aw) {i g : Nat} (hi : T[i]? = some g) : ∃ c, aw[i]? = some c ∧ xCell T pl (xRgn g) c := by
  have hl : i < aw.length := by rw [gh_len h]; exact (List.getElem?_eq_some_iff.mp hi).1
  exact ⟨aw[i], List.getElem?_eq_getElem hl, h.2.2 i g _ hi (List.getElem?_eq_getElem hl)⟩
/-- a reference to a strong cell -/
theorem gh_r2 {g i j m : Nat} {c : rvC} (hc : aw[i]? = some c) (hx : xCell T pl (xRgn g) c) (ht : xTyp xRgn g j = some (.inr (2, m))) : ∃ x, pl[m]? = some x ∧ hR aw i j x := by
  obtain ⟨w, w1, w2⟩ := xTyp_ok hx ht
  have w2 : ∃ x, pl[m]? = some x ∧ w = .inr (2, x) := w2
  obtain ⟨x, x1, rfl⟩ := w2
  exact ⟨x, x1, c, hc, w1⟩
/-- a reference to a cell of a region -/
theorem gh_r20 {g i j q : Nat} {c : rvC} (hc : aw[i]? = some c) (hx : xCell T pl (xRgn g) c) (ht : xTyp xRgn g j = some (.inr (20, q))) : ∃ x, T[x]? = some q ∧ hR aw i j x := by
  obtain ⟨w, w1, w2⟩ := xTyp_ok hx ht
  have w2 : q < 40 ∧ ∃ x, T[x]? = some q ∧ w = .inr (2, x) := w2
  obtain ⟨-, x, x1, rfl⟩ := w2
  exact ⟨x, x1, c, hc, w1⟩
/-- a row's length -/
theorem gh_n {g i k n q : Nat} {sg : List (Nat × xT)} {c : rvC} (hc : aw[i]? = some c) (hx : xCell T pl (xRgn g) c) (hg : xRgn g = .inr (k, n, q, sg)) : hN aw i n := by
  rw [hg] at hx
  rcases c with c | ⟨k', n', d, ov⟩
  · exact absurd hx id
  · obtain ⟨-, h2, -⟩ := hx
    have h2 : n = n' := h2
    subst h2
    exact ⟨k', d, ov, hc⟩
/-- the heap's numbers -/
def ghI (aw : rvH) (p j : Nat) : Int := match aw[p]? with
  | some c => (match xSlot c j with
    | some (.inl (a, _)) => a
    | _ => 0)
  | none => 0
def ghL (aw : rvH) (p j : Nat) : Int64 := match aw[p]? with
  | some c => (match xSlot c j with
    | some (.inr (1, z)) => rvLd z
    | _ => 0)
  | none => 0
def ghF (l : List (Nat × Nat × Nat)) (p j : Nat) : Option Nat := match l with
  | [] => none
  | q :: l => if q.1 = p ∧ q.2.1 = j then some q.2.2 else ghF l p j
theorem ghF_mem {p j k : Nat} : ∀ {l : List (Nat × Nat × Nat)}, ghF l p j = some k → (p, j, k) ∈ l
  | [], h => by cases h
  | q :: l, h => by
    unfold ghF at h
    split at h
    · rename_i e
      have e3 := Option.some.inj h
      obtain ⟨a, b, c⟩ := q
      obtain ⟨e1, e2⟩ := e
      have e1 : a = p := e1
      have e2 : b = j := e2
      have e3 : c = k := e3
      subst e1; subst e2; subst e3
      exact List.mem_cons_self
    · exact List.mem_cons_of_mem _ (ghF_mem h)
theorem ex_slot {c : rvC} {j : Nat} {v : rvV} (h : exC c) (hs : xSlot c j = some v) : exV v := by
  rcases c with ⟨ci, fs⟩ | ⟨q, n, d, ov⟩
  · exact (h j v hs).1
  · have hs : (bif Nat.blt j n then some (rvLook d ov j) else none) = some v := hs
    cases hb : Nat.blt j n with
    | true =>
      rw [hb] at hs
      have e := Option.some.inj hs
      rw [← e]
      exact (ex_look h.1 h.2).1
    | false => rw [hb] at hs; cases hs
/-- an exact heap as functions -/
def ghH (g : Nat → Nat) (aw : rvH) (l : List (Nat × Nat × Nat)) (n : Nat) : hH := (fun p j => ghI aw (g p) j, fun p j => ghL aw (g p) j, ghF l, n)
theorem ghH_ok {g : Nat → Nat} {l : List (Nat × Nat × Nat)} {n : Nat} (hx : exH aw) (hl : ∀ q ∈ l, hK g aw q.1 q.2.1 q.2.2) (hn : g n = aw.length) (hi : ∀ a b, g a = g b → a = b) : RH g aw (ghH g aw l n) := by
  refine ⟨hx, fun p j z hz => ?_, fun p j z hz => ?_, fun p j k hk => ?_, hn, fun p j hp => ?_, hi, fun p j => ?_⟩
  · obtain ⟨c, c1, c2⟩ := hz
    show ghI aw (g p) j = z
    unfold ghI
    rw [c1]
    dsimp only
    rw [c2]
  · obtain ⟨c, c1, c2⟩ := hz
    show ghL aw (g p) j = z
    unfold ghL
    rw [c1]
    dsimp only
    rw [c2]
    exact rvLe_ok z
  · exact hl _ (ghF_mem hk)
  · show ghI aw (g p) j = 0 ∧ ghL aw (g p) j = 0
    unfold ghI ghL
    rw [List.getElem?_eq_none hp]
    exact ⟨rfl, rfl⟩
  · show xIn32 (ghI aw (g p) j)
    unfold ghI
    split
    · rename_i c hc
      split
      · rename_i a b hs
        exact (ex_slot (exH_get hx hc) hs).2
      · exact ⟨by decide, by decide⟩
    · exact ⟨by decide, by decide⟩
end GH
/-- the references of the heap at the loop's head -/
def ghR0 : List (Nat × Nat × Nat) := [(0, 0, 4), (0, 2, 52), (0, 7, 13), (4, 0, 5), (4, 1, 6), (4, 3, 7), (4, 4, 8), (4, 5, 9), (4, 6, 10), (13, 0, 4), (29, 1, 30), (29, 6, 31), (29, 7, 32), (29, 8, 33), (29, 9, 34), (29, 10, 35), (52, 6, 53), (52, 7, 54), (52, 8, 55), (52, 9, 56), (52, 10, 57), (53, 1000, 10), (54, 1000, 3), (55, 1000, 12), (56, 1000, 10), (57, 1000, 36)]
/-- cells of the heap, by number -/
def GHOK (T pl : List Nat) (aw : rvH) (g : Nat → Nat) (kL : Nat) : Prop := (∀ a b, g a = g b → a = b) ∧ (∀ n, 60 ≤ n → g n = aw.length + (n - 60)) ∧ (∀ k, k < 52 → pl[k]? = some (g k)) ∧ (∀ q ∈ ghR0, hK g aw q.1 q.2.1 q.2.2) ∧ hK g aw 0 1 kL
section GHO
variable {T pl : List Nat} {aw : rvH} {g : Nat → Nat} {kL : Nat}
theorem GHOK.hi (h : GHOK T pl aw g kL) : ∀ a b, g a = g b → a = b := h.1
theorem GHOK.hn (h : GHOK T pl aw g kL) : ∀ n, 60 ≤ n → g n = aw.length + (n - 60) := h.2.1
theorem GHOK.hp (h : GHOK T pl aw g kL) : ∀ k, k < 52 → pl[k]? = some (g k) := h.2.2.1
theorem GHOK.hr (h : GHOK T pl aw g kL) : ∀ q ∈ ghR0, hK g aw q.1 q.2.1 q.2.2 := h.2.2.2.1
theorem GHOK.hL (h : GHOK T pl aw g kL) : hK g aw 0 1 kL := h.2.2.2.2
end GHO
theorem gh_mk {T pl : List Nat} {aw : rvH} (h : gS T pl aw) : ∃ g kL, GHOK T pl aw g kL := by
  have hsp : ∀ k, k < 52 → ∃ i, pl[k]? = some i ∧ T[i]? = some (60 + k) := fun k hk => by
    obtain ⟨i, c, a, b, -⟩ := gh_st h hk
    exact ⟨i, a, b⟩
  obtain ⟨x0, c0, e0, f0, a0, b0⟩ := gh_st h (k := 0) (by omega)
  obtain ⟨xL, tL, rL⟩ := gh_r20 (j := 1) (q := 0) a0 b0 rfl
  obtain ⟨xT, tT, rT⟩ := gh_r20 (j := 2) (q := 0) a0 b0 rfl
  obtain ⟨cT, aT, bT⟩ := gh_at h tT
  obtain ⟨xW, tW, rW⟩ := gh_r20 (j := 0) (q := 6) aT bT rfl
  obtain ⟨x3, t3, r3⟩ := gh_r20 (j := 6) (q := 1) aT bT rfl
  obtain ⟨x4, t4, r4⟩ := gh_r20 (j := 7) (q := 2) aT bT rfl
  obtain ⟨x5, t5, r5⟩ := gh_r20 (j := 8) (q := 3) aT bT rfl
  obtain ⟨x6, t6, r6⟩ := gh_r20 (j := 9) (q := 4) aT bT rfl
  obtain ⟨x7, t7, r7⟩ := gh_r20 (j := 10) (q := 5) aT bT rfl
  obtain ⟨cW, aW, bW⟩ := gh_at h tW
  obtain ⟨xC, tC, rC⟩ := gh_r20 (j := 0) (q := 7) aW bW rfl
  obtain ⟨y3, u3, v3⟩ := gh_at h t3
  obtain ⟨y4, u4, v4⟩ := gh_at h t4
  obtain ⟨y5, u5, v5⟩ := gh_at h t5
  obtain ⟨y6, u6, v6⟩ := gh_at h t6
  obtain ⟨y7, u7, v7⟩ := gh_at h t7
  have hlen := gh_len h
  have hlt : ∀ {i q : Nat}, T[i]? = some q → i < aw.length := fun e => by rw [hlen]; exact (List.getElem?_eq_some_iff.mp e).1
  obtain ⟨x8, q8, t8, n8, l8⟩ : ∃ x q, T[x]? = some q ∧ x ≠ xT ∧ (xL = xT ∨ x = xL) ∧ (q = 0 ∨ q = 7) := by
    by_cases e : xL = xT
    · refine ⟨xC, 7, tC, fun q => ?_, Or.inl e, Or.inr rfl⟩
      rw [q, tT] at tC; cases tC
    · exact ⟨xL, 0, tL, e, Or.inr rfl, Or.inl rfl⟩
  obtain ⟨l8, q8'⟩ := l8
  obtain ⟨g, hg⟩ : ∃ g : Nat → Nat, g = fun n => if n < 52 then pl.getD n 0 else if n = 52 then xT else if n = 53 then x3 else if n = 54 then x4 else if n = 55 then x5 else if n = 56 then x6 else if n = 57 then x7 else if n = 58 then x8 else if n = 59 then xW else aw.length + (n - 60) := ⟨_, rfl⟩
  have gp : ∀ k, k < 52 → pl[k]? = some (g k) := fun k hk => by
    obtain ⟨i, a, -⟩ := hsp k hk
    rw [hg]; dsimp only
    rw [if_pos hk, List.getD_eq_getElem?_getD, a]; rfl
  have gT : ∀ k, k < 52 → T[g k]? = some (60 + k) := fun k hk => by
    obtain ⟨i, a, b⟩ := hsp k hk
    have := gp k hk
    rw [a] at this
    rw [← Option.some.inj this]; exact b
  have g52 : g 52 = xT := by rw [hg]; rfl
  have g53 : g 53 = x3 := by rw [hg]; rfl
  have g54 : g 54 = x4 := by rw [hg]; rfl
  have g55 : g 55 = x5 := by rw [hg]; rfl
  have g56 : g 56 = x6 := by rw [hg]; rfl
  have g57 : g 57 = x7 := by rw [hg]; rfl
  have g58 : g 58 = x8 := by rw [hg]; rfl
  have g59 : g 59 = xW := by rw [hg]; rfl
  have g60 : ∀ n, 60 ≤ n → g n = aw.length + (n - 60) := fun n hn => by
    rw [hg]; dsimp only
    rw [if_neg (by omega), if_neg (by omega), if_neg (by omega), if_neg (by omega), if_neg (by omega), if_neg (by omega), if_neg (by omega), if_neg (by omega), if_neg (by omega)]
  -- regions of the first sixty
  have hreg : ∀ n, n < 60 → ∃ q, T[g n]? = some q ∧ ((n < 52 ∧ q = 60 + n) ∨ (n = 52 ∧ q = 0) ∨ (n = 53 ∧ q = 1) ∨ (n = 54 ∧ q = 2) ∨ (n = 55 ∧ q = 3) ∨ (n = 56 ∧ q = 4) ∨ (n = 57 ∧ q = 5) ∨ (n = 58 ∧ (q = 0 ∨ q = 7)) ∨ (n = 59 ∧ q = 6)) := by
    intro n hn
    by_cases h52 : n < 52
    · exact ⟨_, gT n h52, Or.inl ⟨h52, rfl⟩⟩
    · have : n = 52 ∨ n = 53 ∨ n = 54 ∨ n = 55 ∨ n = 56 ∨ n = 57 ∨ n = 58 ∨ n = 59 := by omega
      rcases this with rfl | rfl | rfl | rfl | rfl | rfl | rfl | rfl
      · exact ⟨0, by rw [g52]; exact tT, by omega⟩
      · exact ⟨1, by rw [g53]; exact t3, by omega⟩
      · exact ⟨2, by rw [g54]; exact t4, by omega⟩
      · exact ⟨3, by rw [g55]; exact t5, by omega⟩
      · exact ⟨4, by rw [g56]; exact t6, by omega⟩
      · exact ⟨5, by rw [g57]; exact t7, by omega⟩
      · exact ⟨q8, by rw [g58]; exact t8, by omega⟩
      · exact ⟨6, by rw [g59]; exact tW, by omega⟩
  have hinj : ∀ a b, g a = g b → a = b := by
    intro a b e
    by_cases ha : a < 60
    · obtain ⟨q, qa, qb⟩ := hreg a ha
      by_cases hb : b < 60
      · obtain ⟨q', qa', qb'⟩ := hreg b hb
        rw [e, qa'] at qa
        have eq := Option.some.inj qa
        by_cases h58 : (a = 52 ∧ b = 58) ∨ (a = 58 ∧ b = 52)
        · exfalso
          rcases h58 with ⟨rfl, rfl⟩ | ⟨rfl, rfl⟩
          · rw [g52, g58] at e; exact n8 e.symm
          · rw [g52, g58] at e; exact n8 e
        · omega
      · have := hlt qa
        rw [g60 b (by omega)] at e
        omega
    · by_cases hb : b < 60
      · obtain ⟨q', qa', -⟩ := hreg b hb
        have := hlt qa'
        rw [g60 a (by omega)] at e
        omega
      · rw [g60 a (by omega), g60 b (by omega)] at e
        omega
  have hst : ∀ p m j, p < 52 → m < 52 → j ≠ 1000 → xTyp xRgn (60 + p) j = some (.inr (2, m)) → hK g aw p j m := by
    intro p m j hp hm hj ht
    obtain ⟨i, c, a, b, c1, c2⟩ := gh_st h hp
    obtain ⟨x, x1, x2⟩ := gh_r2 c1 c2 ht
    have e1 := gp p hp
    rw [a] at e1
    have e2 := gp m hm
    rw [x1] at e2
    unfold hK
    rw [if_neg hj, ← Option.some.inj e1, ← Option.some.inj e2]
    exact x2
  have e0' : g 0 = x0 := by have := gp 0 (by omega); rw [e0] at this; exact (Option.some.inj this).symm
  have hRk : ∀ {p j k i x : Nat}, j ≠ 1000 → g p = i → g k = x → hR aw i j x → hK g aw p j k := by
    intro p j k i x hj e1 e2 hh
    unfold hK
    rw [if_neg hj, e1, e2]; exact hh
  have hNk : ∀ {p n i : Nat}, g p = i → hN aw i n → hK g aw p 1000 n := by
    intro p n i e1 hh
    unfold hK
    rw [if_pos rfl, e1]; exact hh
  obtain ⟨kL, hkL⟩ : ∃ kL, g kL = xL := by
    rcases l8 with e | e
    · exact ⟨52, by rw [g52, e]⟩
    · exact ⟨58, by rw [g58, e]⟩
  refine ⟨g, kL, hinj, g60, gp, fun q hq => ?_, hRk (by decide) e0' hkL rL⟩
  have key : ∀ q ∈ ghR0, hK g aw q.1 q.2.1 q.2.2 := by
    unfold ghR0
    simp only [List.forall_mem_cons]
    refine ⟨hst 0 4 0 (by decide) (by decide) (by decide) rfl, hRk (by decide) e0' g52 rT, hst 0 13 7 (by decide) (by decide) (by decide) rfl, hst 4 5 0 (by decide) (by decide) (by decide) rfl, hst 4 6 1 (by decide) (by decide) (by decide) rfl, hst 4 7 3 (by decide) (by decide) (by decide) rfl, hst 4 8 4 (by decide) (by decide) (by decide) rfl, hst 4 9 5 (by decide) (by decide) (by decide) rfl, hst 4 10 6 (by decide) (by decide) (by decide) rfl, hst 13 4 0 (by decide) (by decide) (by decide) rfl, hst 29 30 1 (by decide) (by decide) (by decide) rfl, hst 29 31 6 (by decide) (by decide) (by decide) rfl, hst 29 32 7 (by decide) (by decide) (by decide) rfl, hst 29 33 8 (by decide) (by decide) (by decide) rfl, hst 29 34 9 (by decide) (by decide) (by decide) rfl, hst 29 35 10 (by decide) (by decide) (by decide) rfl, hRk (by decide) g52 g53 r3, hRk (by decide) g52 g54 r4, hRk (by decide) g52 g55 r5, hRk (by decide) g52 g56 r6, hRk (by decide) g52 g57 r7, hNk g53 (gh_n u3 v3 rfl), hNk g54 (gh_n u4 v4 rfl), hNk g55 (gh_n u5 v5 rfl), hNk g56 (gh_n u6 v6 rfl), hNk g57 (gh_n u7 v7 rfl), fun q hq => by cases hq⟩
  exact key q hq
