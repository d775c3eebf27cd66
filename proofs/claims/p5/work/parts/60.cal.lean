/-! Behind a call: the callee's outcome in the caller's words. -/
def xRngs : List xL → xN → List xL
  | l :: s, a :: N => xSub l (xK a.1) :: xSub (xK a.2) l :: xRngs s N
  | _, _ => []
def xSbs (s : List xL) : List xL → Option (List xL)
  | [] => some []
  | l :: t => (match xSb s l, xSbs s t with
    | some m, some u => some (m :: u)
    | _, _ => none)
theorem xSbs_ok {s : List xL} {r : List Int} : ∀ {l u : List xL}, xSbs s l = some u → (∀ c ∈ l, 0 ≤ xVal (s.map (xVal r)) c) → ∀ m ∈ u, 0 ≤ xVal r m
  | [], u, h, _, m, hm => by
      cases h
      cases hm
  | c :: t, u, h, hc, m, hm => by
      unfold xSbs at h
      split at h
      · rename_i m2 u2 h1 h2
        cases h
        rcases List.mem_cons.mp hm with e | hm
        · rw [e, (xSb_ok (r := r) h1).1]
          exact hc c List.mem_cons_self
        · exact xSbs_ok h2 (fun x hx => hc x (List.mem_cons_of_mem _ hx)) m hm
      · cases h
theorem xRngs_ok {r : List Int} : ∀ (s : List xL) (N : xN), (∀ (x : Nat) (a : Int × Int) (l : xL), N[x]? = some a → s[x]? = some l → a.1 ≤ xVal r l ∧ xVal r l ≤ a.2) → ∀ m ∈ xRngs s N, 0 ≤ xVal r m
  | [], _, _, m, hm => by cases hm
  | _ :: _, [], _, m, hm => by cases hm
  | l :: s, a :: N, h, m, hm => by
      obtain ⟨h1, h2⟩ := h 0 a l rfl rfl
      rcases List.mem_cons.mp hm with e | hm
      · rw [e, xSub_ok, xK_ok]; omega
      · rcases List.mem_cons.mp hm with e | hm
        · rw [e, xSub_ok, xK_ok]; omega
        · exact xRngs_ok s N (fun x b l2 hb hl => h (x + 1) b l2 (by simpa using hb) (by simpa using hl)) m hm
theorem xQs_ext : ∀ (N : xN) (t : List Int) {Q : xQ} {r : List Int}, xQs Q r → xRg N t → xQs (Q.1 ++ N, Q.2) (r ++ t)
  | [], [], Q, r, h, _ => by rw [List.append_nil, List.append_nil]; exact h
  | [], _ :: _, _, _, _, h => by have := h.1; simp at this
  | _ :: _, [], _, _, _, h => by have := h.1; simp at this
  | a :: N, v :: t, Q, r, h, hr => by
      obtain ⟨h1, h2⟩ := hr.2 0 a rfl
      have h1 : a.1 ≤ v := h1
      have h2 : v ≤ a.2 := h2
      have k := xQs_ext N t (xQs_app (a := a) h h1 h2) ⟨by have := hr.1; simpa using this, fun x b hb => by
        have := hr.2 (x + 1) b (by simpa using hb)
        simpa using this⟩
      have e1 : Q.1 ++ a :: N = (Q.1 ++ [a]) ++ N := by simp
      have e2 : r ++ v :: t = (r ++ [v]) ++ t := by simp
      rw [e1, e2]
      exact k
def xOwn (n m : Nat) : List xL := (List.range m).map (fun i => ([(n + i, 1)], 0))
theorem xOwn_val (r t : List Int) : (xOwn r.length t.length).map (xVal (r ++ t)) = t := by
  apply List.ext_getElem?
  intro i
  unfold xOwn
  rw [List.map_map, List.getElem?_map]
  by_cases hi : i < t.length
  · rw [List.getElem?_range hi]
    show some (1 * (r ++ t).getD (r.length + i) 0 + 0 + 0) = _
    rw [List.getD_eq_getElem?_getD, List.getElem?_append_right (by omega)]
    have e : r.length + i - r.length = i := by omega
    rw [e, List.getElem?_eq_getElem hi]
    congr 1
    show 1 * t[i] + 0 + 0 = t[i]
    omega
  · rw [List.getElem?_eq_none (by simp; omega), List.getElem?_eq_none (by omega)]
    rfl
theorem xOwn_wf {r t : List Int} : ∀ l ∈ xOwn r.length t.length, xWf (r ++ t).length l.1 := by
  intro l hl q hq
  obtain ⟨i, hi, rfl⟩ := List.mem_map.mp hl
  have e : q = (r.length + i, 1) := List.mem_singleton.mp hq
  rw [e]
  show r.length + i < _
  have := List.mem_range.mp hi
  rw [List.length_append]
  omega
def xMvs2 (s : List xL) : List xV → Option (List xV)
  | [] => some []
  | a :: t => (match xMv s a, xMvs2 s t with
    | some b, some u => some (b :: u)
    | _, _ => none)
theorem xMvs2_ok {s : List xL} {r : List Int} {T pl : List Nat} {n : Nat} (hs : ∀ l ∈ s, xWf r.length l.1) : ∀ {as bs : List xV} {cs rs : List rvV} {vs : List xV}, xMvs2 s as = some bs → xRs (s.map (xVal r)) T (pl.take n) as cs → xRs r T pl vs rs → xRs r T pl (bs ++ vs) (cs ++ rs)
  | [], _, [], _, _, h, _, hr => by cases h; exact hr
  | [], _, _ :: _, _, _, _, h, _ => absurd h id
  | _ :: _, _, [], _, _, _, h, _ => absurd h id
  | a :: t, bs, c :: cs, rs, vs, h, hv, hr => by
      unfold xMvs2 at h
      split at h
      · rename_i b u hb hu
        cases h
        exact ⟨xMv_ok hs hb hv.1, xMvs2_ok hs hu hv.2 hr⟩
      · cases h
noncomputable def xAft (d : Nat) (s : List xL) (ms : List Nat) (ce sl : Nat) (S : xS) (rest : List xV) (O : xS) : Option (List xS) :=
  match xSbs (s ++ xOwn S.2.2.2.2.2.1.1.length (O.2.2.2.2.2.1.1.length - s.length)) O.2.2.2.2.2.1.2, xMvs2 (s ++ xOwn S.2.2.2.2.2.1.1.length (O.2.2.2.2.2.1.1.length - s.length)) O.2.2.1 with
  | some cs, some vs => (match xKnows (xRngs s O.2.2.2.2.2.1.1 ++ cs) (S.2.2.2.2.2.1.1 ++ O.2.2.2.2.2.1.1.drop s.length, S.2.2.2.2.2.1.2) with
    | none => some []
    | some Q2 => some [(S.1 + 3, S.2.1, vs ++ rest, xMrg d S.2.2.2.2.2.1 ms (s ++ xOwn S.2.2.2.2.2.1.1.length (O.2.2.2.2.2.1.1.length - s.length)) O.2.2.2.1 S.2.2.2.1, O.2.2.2.2.1.filterMap (xMf (s ++ xOwn S.2.2.2.2.2.1.1.length (O.2.2.2.2.2.1.1.length - s.length))) ++ S.2.2.2.2.1.filter (xFtt d ms S.2.2.2.2.2.1 S.2.2.2.1), Q2, S.2.2.2.2.2.2.1 + ce, S.2.2.2.2.2.2.2 + sl)])
  | _, _ => none
/-- what an outcome says of a result: r, T, pl as the call began -/
def xPost (outs : List xS) (ms : List Nat) (r : List Int) (T pl : List Nat) (aw : rvH) (res : Option rvV × rvH) : Prop :=
  ∃ O ∈ outs, ∃ (t : List Int) (tT : List Nat), xRs (r ++ t) (T ++ tT) pl O.2.2.1 res.1.toList ∧ xSt (r ++ t) (T ++ tT) pl O.2.2.2.1 res.2 ∧ xHp xRgn (T ++ tT) pl res.2 ∧ (∀ f ∈ O.2.2.2.2.1, f.1 ≠ 0 → ∀ P' : xP, xFM P' f (r ++ t) (T ++ tT) pl res.2) ∧ xQs O.2.2.2.2.2.1 (r ++ t) ∧ xChg (xInM ms) T aw res.2
set_option maxHeartbeats 2000000 in
theorem xAft_ok {P : xP} {d ce sl n : Nat} {s : List xL} {ms : List Nat} {S O : xS} {rest : List xV} {Ss : List xS} {r t : List Int} {T tT pl : List Nat} {aw aw' : rvH} {cl cr cv : List rvV} (hw : ∀ l ∈ s, xWf r.length l.1) (h2 : xRs r T pl S.2.1 cl) (h3 : xRs r T pl rest cr) (h4 : xSt r T pl S.2.2.2.1 aw) (h6 : ∀ f ∈ S.2.2.2.2.1, xFM P f r T pl aw) (h7 : xQs S.2.2.2.2.2.1 r) (hs : xAft d s ms ce sl S rest O = some Ss)
    (g1 : xRs (s.map (xVal r) ++ t) (T ++ tT) (pl.take n) O.2.2.1 cv) (g2 : xSt (s.map (xVal r) ++ t) (T ++ tT) (pl.take n) O.2.2.2.1 aw') (g3 : xHp xRgn (T ++ tT) (pl.take n) aw') (g4 : ∀ f ∈ O.2.2.2.2.1, f.1 ≠ 0 → ∀ P' : xP, xFM P' f (s.map (xVal r) ++ t) (T ++ tT) (pl.take n) aw') (g5 : xQs O.2.2.2.2.2.1 (s.map (xVal r) ++ t)) (g6 : xChg (xInM ms) T aw aw') :
    ∃ S' ∈ Ss, xRel xRgn (xFM P) S' (S.1 + 3, cl, cv ++ cr, aw', S.2.2.2.2.2.2.1 + ce, S.2.2.2.2.2.2.2 + sl) := by
  have hn : O.2.2.2.2.2.1.1.length = s.length + t.length := by
    have := g5.1.1
    rw [List.length_append, List.length_map] at this
    exact this
  have hm : O.2.2.2.2.2.1.1.length - s.length = t.length := by omega
  have hl : S.2.2.2.2.2.1.1.length = r.length := h7.1.1
  unfold xAft at hs
  rw [hm, hl] at hs
  have hw2 : ∀ l ∈ s ++ xOwn r.length t.length, xWf (r ++ t).length l.1 := by
    intro l hl9
    rcases List.mem_append.mp hl9 with h9 | h9
    · exact xWf_app (hw l h9)
    · exact xOwn_wf l h9
  have hmap : (s ++ xOwn r.length t.length).map (xVal (r ++ t)) = s.map (xVal r) ++ t := by
    rw [List.map_append, xOwn_val]
    congr 1
    exact List.map_congr_left (fun l hl9 => xVal_app (hw l hl9))
  have gr : xGrow r (r ++ t) T (T ++ tT) pl pl := ⟨⟨t, rfl⟩, ⟨tT, rfl⟩, ⟨[], (List.append_nil pl).symm⟩⟩
  split at hs
  · rename_i cs vs hcs hvs
    have hQ1 : xQs (S.2.2.2.2.2.1.1 ++ O.2.2.2.2.2.1.1.drop s.length, S.2.2.2.2.2.1.2) (r ++ t) := by
      refine xQs_ext (O.2.2.2.2.2.1.1.drop s.length) t h7 ⟨by rw [List.length_drop]; omega, fun x a ha => ?_⟩
      rw [List.getElem?_drop] at ha
      have := g5.1.2 (s.length + x) a ha
      rw [List.getD_eq_getElem?_getD, List.getElem?_append_right (by simp)] at this
      simp only [List.length_map] at this
      have e : s.length + x - s.length = x := by omega
      rw [e, ← List.getD_eq_getElem?_getD] at this
      exact this
    obtain ⟨Q2, q1, hQ2⟩ := xKnows_ok (xRngs s O.2.2.2.2.2.1.1 ++ cs) hQ1 (fun m hm9 => by
      rcases List.mem_append.mp hm9 with h9 | h9
      · refine xRngs_ok s O.2.2.2.2.2.1.1 (fun x a l ha hl9 => ?_) m h9
        have := g5.1.2 x a ha
        have hx := (List.getElem?_eq_some_iff.mp hl9).1
        rw [List.getD_eq_getElem?_getD, List.getElem?_append_left (by rw [List.length_map]; exact hx), List.getElem?_map, hl9] at this
        have e : xVal (r ++ t) l = xVal r l := xVal_app (hw l (List.mem_of_getElem? hl9))
        rw [e]
        exact this
      · refine xSbs_ok (r := r ++ t) hcs (fun c hc => ?_) m h9
        rw [hmap]
        exact g5.2.1 c hc)
    rw [q1] at hs
    cases hs
    refine ⟨_, List.mem_singleton.mpr rfl, r ++ t, T ++ tT, pl, rfl, xRs_grow gr h2, ?_, ?_, ?_, fun f hf9 => ?_, hQ2, rfl, rfl⟩
    · exact xMvs2_ok hw2 hvs (by rw [hmap]; exact g1) (xRs_grow gr h3)
    · refine ⟨by rw [xMrg_len]; exact h4.1, fun k u hu => ?_⟩
      obtain ⟨a, a1, a2, a3⟩ := xMrg_get _ _ k u hu
      obtain ⟨i, c, p1, p2, p3, p4⟩ := h4.2 k a a1
      obtain ⟨c', c1, c2⟩ := g6 i a.1 c p2 p3
      refine ⟨i, c', p1, by rw [a2]; exact x_get_app p2, c1, fun q hq => ?_⟩
      rcases a3 q hq with ⟨b1, b2⟩ | ⟨o, q0, b1, b2, b3⟩
      · obtain ⟨w1, j, w, w2, w3, w4⟩ := p4 q b1
        refine ⟨xWf_app w1, j, w, by rw [xVal_app w1]; exact w2, ?_, xR_grow gr w4⟩
        rw [c2 j (xFar_ok h7 (by omega) (by omega) ms b2)]
        exact w3
      · obtain ⟨i2, c3, r1, r2, r3, r4⟩ := g2.2 k o b1
        have e : i2 = i := by
          have := x_take_out r1
          rw [p1] at this
          exact (Option.some.inj this).symm
        subst e
        have e : c3 = c' := by rw [c1] at r3; exact (Option.some.inj r3).symm
        subst e
        refine xMo_ok (n := n) hw2 b3 ?_
        rw [hmap]
        exact r4 q0 b2
    · refine ⟨g3.1, fun i g c hi hc => ?_⟩
      have h1 := g3.2 i g c hi hc
      have e : pl = pl.take n ++ pl.drop n := (List.take_append_drop n pl).symm
      rw [e]
      exact xCell_grow (r := []) (xG_pl (pl.drop n)) h1
    · rcases List.mem_append.mp hf9 with h9 | h9
      · obtain ⟨f0, m1, m2⟩ := List.mem_filterMap.mp h9
        refine xMf_ok (n := n) hw2 m2 (fun h0 P' => ?_)
        rw [hmap]
        exact g4 f0 m1 h0 P'
      · obtain ⟨m1, m2⟩ := List.mem_filter.mp h9
        exact xFtt_ok h7 h4 g6 ⟨t, rfl⟩ ⟨tT, rfl⟩ m2 (h6 f m1)
  · cases hs
