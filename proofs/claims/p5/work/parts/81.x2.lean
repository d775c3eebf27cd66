/-! What holds of the exact heap at the loop's head (by hand). -/
/-- a region that isn't written -/
def ghNo (ms : List Nat) (g : Nat) : Bool := match ms with
  | a :: _ :: _ :: t => !Nat.beq g a && ghNo t g
  | _ => true
theorem ghNo_ok {g j : Nat} : ∀ (ms : List Nat), ghNo ms g = true → ¬ xInM ms g j
  | [], _, h => h
  | [_], _, h => h
  | [_, _], _, h => h
  | a :: lo :: hi :: t, hn, h => by
    have hn : (!Nat.beq g a && ghNo t g) = true := hn
    obtain ⟨n1, n2⟩ := rv_and hn
    have h : (g = a ∧ lo ≤ j ∧ j ≤ hi) ∨ xInM t g j := h
    rcases h with ⟨e, -⟩ | h
    · subst e
      have : Nat.beq g g = true := Nat.beq_refl g
      rw [this] at n1
      cases n1
    · exact ghNo_ok t n2 h
section G2
variable {r : List Int} {T pl T1 pl1 : List Nat} {aw aw1 : rvH} {ms : List Nat}
theorem fr_slot (h : gS T pl aw) (hf : lwFr ms T pl aw T1 pl1 aw1) {k : Nat} (hk : k < 52) (hno : ghNo ms (60 + k) = true) {x : Nat} (hx : pl[k]? = some x) : ∃ c c', aw[x]? = some c ∧ aw1[x]? = some c' ∧ ∀ j, xSlot c' j = xSlot c j := by
  obtain ⟨i, c, h1, h2, h3⟩ := h.1 k hk
  rw [hx] at h1
  have e := Option.some.inj h1
  subst e
  obtain ⟨c', e1, e2⟩ := hf.2.2 x _ c h2 h3
  exact ⟨c, c', h3, e1, fun j => e2 j (ghNo_ok ms hno)⟩
theorem fr_I (h : gS T pl aw) (hf : lwFr ms T pl aw T1 pl1 aw1) {k : Nat} (hk : k < 52) (hno : ghNo ms (60 + k) = true) {x j : Nat} {z : Int} (hx : pl[k]? = some x) (hz : hI aw1 x j z) : hI aw x j z := by
  obtain ⟨c, c', a, b, e⟩ := fr_slot h hf hk hno hx
  obtain ⟨d, d1, d2⟩ := hz
  rw [b] at d1
  have q := Option.some.inj d1
  subst q
  exact ⟨c, a, by rw [← e]; exact d2⟩
theorem fr_L (h : gS T pl aw) (hf : lwFr ms T pl aw T1 pl1 aw1) {k : Nat} (hk : k < 52) (hno : ghNo ms (60 + k) = true) {x j : Nat} {z : Int64} (hx : pl[k]? = some x) (hz : hL aw1 x j z) : hL aw x j z := by
  obtain ⟨c, c', a, b, e⟩ := fr_slot h hf hk hno hx
  obtain ⟨d, d1, d2⟩ := hz
  rw [b] at d1
  have q := Option.some.inj d1
  subst q
  exact ⟨c, a, by rw [← e]; exact d2⟩
theorem fr_ghI (h : gS T pl aw) (hf : lwFr ms T pl aw T1 pl1 aw1) {k : Nat} (hk : k < 52) (hno : ghNo ms (60 + k) = true) {x : Nat} (hx : pl[k]? = some x) (j : Nat) : ghI aw1 x j = ghI aw x j := by
  obtain ⟨c, c', a, b, e⟩ := fr_slot h hf hk hno hx
  unfold ghI
  rw [a, b]
  dsimp only
  rw [e]
theorem fr_ghL (h : gS T pl aw) (hf : lwFr ms T pl aw T1 pl1 aw1) {k : Nat} (hk : k < 52) (hno : ghNo ms (60 + k) = true) {x : Nat} (hx : pl[k]? = some x) (j : Nat) : ghL aw1 x j = ghL aw x j := by
  obtain ⟨c, c', a, b, e⟩ := fr_slot h hf hk hno hx
  unfold ghL
  rw [a, b]
  dsimp only
  rw [e]
/-- a row of longs has these -/
def pW (pl : List Nat) (aw : rvH) (k : Nat) (f : Nat → Int64) : Prop := ∀ x i, pl[k]? = some x → i < 23 → ghL aw x i = f i
/-- both tapes have the same bytes -/
def pBy (pl : List Nat) (aw : rvH) : Prop := ∀ x y, pl[5]? = some x → pl[30]? = some y → ∀ j, ghI aw x j = ghI aw y j
/-- what holds beside lwInv at the loop's head -/
def PI (pl : List Nat) (aw : rvH) : Prop := exH aw ∧ pW pl aw 6 (fun i => pd_tF5 (pd_tW.getD i [])) ∧ pW pl aw 35 (fun i => pd_tF8 (pd_tW.getD (pd_tWr.getD i 0) [])) ∧ pBy pl aw
theorem pW_keep (h : gS T pl aw) (hf : lwFr ms T pl aw T1 pl1 aw1) {k : Nat} (hk : k < 52) (hno : ghNo ms (60 + k) = true) {f : Nat → Int64} (hw : pW pl aw k f) : pW pl1 aw1 k f := by
  intro x i hx hi
  rw [hf.2.1] at hx
  rw [fr_ghL h hf hk hno hx]
  exact hw x i hx hi
theorem pBy_keep (h : gS T pl aw) (hf : lwFr ms T pl aw T1 pl1 aw1) (h5 : ghNo ms 65 = true) (h30 : ghNo ms 90 = true) (hb : pBy pl aw) : pBy pl1 aw1 := by
  intro x y hx hy j
  rw [hf.2.1] at hx hy
  rw [fr_ghI h hf (k := 5) (by omega) h5 hx, fr_ghI h hf (k := 30) (by omega) h30 hy]
  exact hb x y hx hy j
theorem xlM_no : ghNo xlM 66 = true ∧ ghNo xlM 95 = true ∧ ghNo xlM 65 = true ∧ ghNo xlM 90 = true := by decide +kernel
theorem xlMA_no : ghNo xlMA 66 = true ∧ ghNo xlMA 95 = true := by decide +kernel
theorem PI_keep (h : gS T pl aw) (hP : PI pl aw) (hf : lwFr xlM T pl aw T1 pl1 aw1) (hx : exH aw1) : PI pl1 aw1 :=
  ⟨hx, pW_keep h hf (k := 6) (by omega) xlM_no.1 hP.2.1, pW_keep h hf (k := 35) (by omega) xlM_no.2.1 hP.2.2.1, pBy_keep h hf xlM_no.2.2.1 xlM_no.2.2.2 hP.2.2.2⟩
/-- a row's elements are of its type; beyond its end there is nothing -/
theorem gh_row {g i k n : Nat} {ty : xT} {c : rvC} (hx : xCell T pl (xRgn g) c) (hg : xRgn g = .inr (k, n, 1, [(1, ty)])) (hc : aw[i]? = some c) (j : Nat) : (∃ w, xSlot c j = some w ∧ xTy T pl ty w) ∨ xSlot c j = none := by
  rw [hg] at hx
  rcases c with c | ⟨k', n', d, ov⟩
  · exact absurd hx id
  · obtain ⟨-, h2, h3⟩ := hx
    have h2 : n = n' := h2
    subst h2
    by_cases hj : j < n
    · left
      refine ⟨rvLook d ov j, ?_, ?_⟩
      · show (bif Nat.blt j n then some (rvLook d ov j) else none) = _
        rw [show Nat.blt j n = true from Nat.ble_eq_true_of_le hj]
        rfl
      · have := h3 j hj
        rw [Nat.mod_one] at this
        exact this
    · right
      show (bif Nat.blt j n then some (rvLook d ov j) else none) = _
      have : Nat.blt j n = false := by
        cases hb : Nat.blt j n with
        | false => rfl
        | true => have := rv_blt hb; omega
      rw [this]
      rfl
/-- the bytes are bytes -/
theorem gh_by (h : gS T pl aw) {x : Nat} (hx : pl[5]? = some x) (j : Nat) : -128 ≤ ghI aw x j ∧ ghI aw x j ≤ 127 := by
  obtain ⟨i, c, h1, h2, h3, h4⟩ := gh_st h (k := 5) (by omega)
  rw [hx] at h1
  have e := Option.some.inj h1
  subst e
  unfold ghI
  rw [h3]
  dsimp only
  rcases gh_row (aw := aw) h4 rfl h3 j with ⟨w, w1, w2⟩ | w1
  · rw [w1]
    obtain ⟨z, z1, z2, -, rfl⟩ : ∃ z : Int, (-128 : Int) ≤ z ∧ z ≤ 127 ∧ xIn32 z ∧ w = .inl (z, z) := w2
    exact ⟨z1, z2⟩
  · rw [w1]
    exact ⟨by decide, by decide⟩
theorem xl_10 {r : List Int} (x : Nat) : xVal r (xSm (x, 1, 0)) = r.getD x 0 := by
  have : xVal r (xSm (x, 1, 0)) = 1 * r.getD x 0 + 0 + 0 := rfl
  rw [this]; omega
/-- both tapes are of one length -/
theorem gh_size (h : lwInv r T pl aw) : ∃ N : Nat, N ≤ 940 ∧ (∀ x, pl[4]? = some x → ghI aw x 2 = (N : Int)) ∧ ∀ y, pl[29]? = some y → ghI aw y 2 = (N : Int) := by
  obtain ⟨g1, g2, g3, g4⟩ := h
  have hb := g4.1.2 10 (0, 940) rfl
  have key : ∀ (k : Nat) (l : List ((Nat × Int × Int) × xV)), lwAh[k]? = some (60 + k, l) → ((0, 0, 2), .inl (10, 1, 0)) ∈ l → ∀ x, pl[k]? = some x → ghI aw x 2 = r.getD 10 0 := by
    intro k l e hm x hx
    obtain ⟨i, c, h1, h2, h3, h4⟩ := g1.2 k _ e
    rw [hx] at h1
    have ei := Option.some.inj h1
    subst ei
    obtain ⟨-, j, w, j1, j2, j3⟩ := h4 _ hm
    have j1 : xVal r (xSm (0, 0, 2)) = (j : Int) := j1
    have e2 : xVal r (xSm (0, 0, 2)) = 2 := rfl
    have ej : j = 2 := by rw [e2] at j1; omega
    subst ej
    have j3 : w = .inl (xVal r (xSm (10, 1, 0)), xVal r (xSm (10, 1, 0))) := j3.2.2
    unfold ghI
    rw [h3]
    dsimp only
    rw [j2, j3]
    exact xl_10 10
  have hb0 : 0 ≤ r.getD 10 0 := hb.1
  have hb1 : r.getD 10 0 ≤ 940 := hb.2
  refine ⟨(r.getD 10 0).toNat, by omega, fun x hx => ?_, fun y hy => ?_⟩
  · rw [key 4 _ rfl (List.mem_singleton.mpr rfl) x hx]; omega
  · rw [key 29 _ rfl (List.mem_singleton.mpr rfl) y hy]; omega
end G2
theorem J_PCM {g : Nat → Nat} {tab : Nat → Nat → Option rvE} {info : Nat → rvM} {rets : Nat → Option FieldType} {NM : Nat} {mth : Nat → Option Nat} {j : Nat} {H : hH} {Post : xRes2 → Prop} {as : List rvV} (hj : j < NM) (hl : rvLen (rvEnt as) ≤ (info j).1) (h : J g tab info rets NM mth j Post 0 (rvEnt as ++ List.replicate ((info j).1 - rvLen (rvEnt as)) rvU) [] H) {aw : rvH} (hR : RH g aw H) (ha : exL as) : PCM tab info rets NM mth j as aw Post := by
  intro P hE
  obtain ⟨hm, hE⟩ := EvM_none hE
  refine (Ev_clo tab info rets NM mth).2.2.2.2.2.2.2 j _ as aw hj hm hl (h aw 0 0 hR (ex_app (ex_ent ha) (fun v hv => ?_)) (fun v hv => by cases hv) P hE)
  rw [(List.mem_replicate.mp hv).2]
  exact exV_U
theorem exL_2 (x : Nat) : exL [.inr (2, x)] := fun v hv => by
  rw [List.mem_singleton.mp hv]
  trivial
/-- the exact heap at the loop's head, as functions -/
theorem gh_H {T pl : List Nat} {aw : rvH} {g : Nat → Nat} {kL : Nat} (h : GHOK T pl aw g kL) (hx : exH aw) : RH g aw (ghH g aw ((0, 1, kL) :: ghR0) 60) := by
  refine ghH_ok hx (fun q hq => ?_) ?_ h.hi
  · rcases List.mem_cons.mp hq with e | hq
    · subst e; exact h.hL
    · exact h.hr q hq
  · rw [h.hn 60 (by omega)]; omega
theorem gh_RF (g : Nat → Nat) (aw : rvH) (kL : Nat) : RF (f_X1_pre (ghH g aw ((0, 1, kL) :: ghR0) 60)).2.2.1 := by
  unfold RF rfL
  simp only [List.forall_mem_cons]
  refine ⟨?_, ?_, ?_, ?_, ?_, ?_, ?_, ?_, ?_, ?_, ?_, ?_, ?_, ?_, ?_, ?_, ?_, ?_, ?_, ?_, ?_, ?_, ?_, ?_, ?_, ?_, ?_, ?_, ?_, ?_, ?_, ?_, ?_, fun q hq => by cases hq⟩ <;> rfl
theorem gh_RM (g : Nat → Nat) (aw : rvH) (kL : Nat) : RM (ghH g aw ((0, 1, kL) :: ghR0) 60).2.2.1 := by
  unfold RM rmL
  simp only [List.forall_mem_cons]
  refine ⟨?_, ?_, ?_, ?_, ?_, ?_, fun q hq => by cases hq⟩ <;> rfl
/-- both district() at the loop's head: the class's answer, and the reference's from any heap that has the reference's cells as they were -/
theorem c2_XM {r : List Int} {T pl : List Nat} {aw : rvH} (h : lwInv r T pl aw) (hP : PI pl aw) : ∃ ans : Int, (∀ x0, pl[0]? = some x0 → PCM rvTab rvInf rvRet 316 rvMth 235 [.inr (2, x0)] aw (fun res => res.1 = some (.inl (ans, ans)))) ∧ ∀ (T1 : List Nat) (aw1 : rvH) (ms : List Nat), gS T1 pl aw1 → exH aw1 → lwFr ms T pl aw T1 pl aw1 → ghNo ms 89 = true → ghNo ms 90 = true → ghNo ms 95 = true → ∀ y0, pl[29]? = some y0 → PCM rvTab rvInf rvRet 316 rvMth 24 [.inr (2, y0)] aw1 (fun res => res.1 = some (.inl (ans, ans))) := by
  have hS := gS_inv h
  obtain ⟨hx, hw5, hw8, hby⟩ := hP
  obtain ⟨g, kL, hg⟩ := gh_mk hS
  obtain ⟨N, n1, n2, n3⟩ := gh_size h
  have hR := gh_H hg hx
  have hp := hg.hp
  have hN60 : ∀ a, 60 ≤ a → aw.length ≤ g a := fun a ha => by rw [hg.hn a ha]; omega
  have e5 : pd_hW5 (ghH g aw ((0, 1, kL) :: ghR0) 60) := fun i hi => hw5 (g 6) i (hp 6 (by omega)) hi
  have ez : ∀ a b, 60 ≤ a → (ghH g aw ((0, 1, kL) :: ghR0) 60).1 a b = 0 := fun a b ha => (hR.2.2.2.2.2.1 a b (hN60 a ha)).1
  have key : ∀ (T1 : List Nat) (aw1 : rvH) (ms : List Nat) (g1 : Nat → Nat) (kL1 : Nat), gS T1 pl aw1 → GHOK T1 pl aw1 g1 kL1 → lwFr ms T pl aw T1 pl aw1 → ghNo ms 89 = true → ghNo ms 90 = true → ghNo ms 95 = true → ∃ r r', f_X1_read 941 (ghH g aw ((0, 1, kL) :: ghR0) 60) = some r ∧ f_X12_district 941 (ghH g1 aw1 ((0, 1, kL1) :: ghR0) 60) = some r' ∧ r'.1 = (if r.2.1 4 13 = 0 then r.1 else iSub (-1) (r.2.1 4 14)) ∧ r.2.2.2 = (f_X1_pre (ghH g aw ((0, 1, kL) :: ghR0) 60)).2.2 := by
    intro T1 aw1 ms g1 kL1 hS1 hg1 hf m29 m30 m35
    have hp1 := hg1.hp
    refine pd_pDistrict2 (B := fun i => ghI aw (g 5) i) n1 (fun i => gh_by hS (hp 5 (by omega)) i) (fun i => rfl) (n2 _ (hp 4 (by omega))) e5 ez (fun i => ?_) ?_ (fun i hi => ?_)
    · show ghI aw1 (g1 30) i = ghI aw (g 5) i
      rw [fr_ghI hS hf (k := 30) (by omega) m30 (hp1 30 (by omega))]
      exact (hby _ _ (hp 5 (by omega)) (hp1 30 (by omega)) i).symm
    · show ghI aw1 (g1 29) 2 = (N : Int)
      rw [fr_ghI hS hf (k := 29) (by omega) m29 (hp1 29 (by omega))]
      exact n3 _ (hp1 29 (by omega))
    · show ghL aw1 (g1 35) i = _
      rw [fr_ghL hS hf (k := 35) (by omega) m35 (hp1 35 (by omega))]
      exact hw8 _ i (hp1 35 (by omega)) hi
  have hf0 : lwFr [] T pl aw T pl aw := ⟨⟨Nat.le_refl _, fun _ _ => rfl⟩, rfl, fun i q c a b => ⟨c, b, fun _ _ => rfl⟩⟩
  obtain ⟨r0, r0', a1, a2, a3, a4⟩ := key T aw [] g kL hS hg hf0 rfl rfl rfl
  refine ⟨if r0.2.1 4 13 = 0 then r0.1 else iSub (-1) (r0.2.1 4 14), fun x0 hx0 => ?_, fun T1 aw1 ms hS1 hx1 hf m29 m30 m35 y0 hy0 => ?_⟩
  · have e0 : x0 = g 0 := by have := hp 0 (by omega); rw [hx0] at this; exact Option.some.inj this
    subst e0
    have hq : ∀ p f, (f_X1_pre (ghH g aw ((0, 1, kL) :: ghR0) 60)).2.2.1 p f = r0.2.2.2.1 p f := fun p f => by rw [a4]
    refine J_PCM (g := g) (by decide) (Nat.le_of_ble_eq_true rfl) ?_ hR (exL_2 _)
    exact jx_X11_district (g := g) 941 (ghH g aw ((0, 1, kL) :: ghR0) 60) rfl (fun n hn => by rw [hg.hn n hn, hg.hn (n + 1) (by omega)]; omega) (gh_RF g aw kL) rfl rfl rfl rfl a1 rfl rfl (kL := kL) (by rw [← hq]; rfl) (by rw [← hq]; rfl) (by rw [← hq]; rfl)
  · obtain ⟨g1, kL1, hg1⟩ := gh_mk hS1
    have e0 : y0 = g1 29 := by have := hg1.hp 29 (by omega); rw [hy0] at this; exact Option.some.inj this
    subst e0
    obtain ⟨q0, q0', b1, b2, b3, -⟩ := key T1 aw1 ms g1 kL1 hS1 hg1 hf m29 m30 m35
    have eq : r0 = q0 := by rw [a1] at b1; exact Option.some.inj b1
    subst eq
    have hR1 := gh_H hg1 hx1
    have hsp := sp_X12_district (g := g1) 941 _ (gh_RM g1 aw1 kL1) b2 aw1 hR1 (exL_2 _)
    rw [b3] at hsp
    exact fun P hE => EvM_mono (fun res hres => ⟨hres.1, hres.2.1⟩) (hsp P hE)
