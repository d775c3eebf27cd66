/-! The checker's run is sound: instructions, cuts, runs. -/
section XSNE
variable {mth : Nat → Option Nat} {d NM X na : Nat} {tab : Nat → Nat → Option rvE} {info : Nat → rvM} {rets : Nat → Option FieldType} {con : Nat → xCt} {opt : Nat → List xOp} {hp : Nat → Nat → Bool} {hn : Nat → Nat → Nat × Nat} {cutp : Nat → Bool} {cuts : Nat → Option xCu} {ms0 : List Nat} {rk0 : Option (List xL)} {Gd : Nat → (xRes2 → Prop) → rvS → Prop} {Met : Nat → List rvV → rvH → (xRes2 → Prop) → Prop}
theorem xRetB_ok {j : Nat} {i : Instr} {S : xS} {r : List Int} {T pl : List Nat} {cs : List rvV} (h3 : xRs r T pl S.2.2.1 cs) (h7 : xQs S.2.2.2.2.2.1 r) (h : xRetB d rets j i S = true) : xRetP rets j i cs := by
  unfold xRetB at h
  split at h
  · rename_i a ty hst hty
    rw [hst] at h3
    obtain ⟨c, ds, rfl, hv, hd⟩ := xRs_cons h3
    have e := xRs_nil hd
    subst e
    obtain ⟨z, rfl, ez, z32, -⟩ := xR_pt hv
    refine Or.inl ⟨rfl, (z, z), ty, rfl, hty, ?_⟩
    split at h
    · rfl
    · obtain ⟨k1, k2⟩ := xIn_ok h7 h
      rw [← ez] at k1 k2
      simp [rvFit, rvIn]
      omega
    · obtain ⟨k1, k2⟩ := xIn_ok h7 h
      rw [← ez] at k1 k2
      simp [rvFit, rvIn]
      omega
    · obtain ⟨k1, k2⟩ := xIn_ok h7 h
      rw [← ez] at k1 k2
      simp [rvFit, rvIn]
      omega
    · cases h
  · rename_i z0 hst hty
    rw [hst] at h3
    obtain ⟨c, ds, rfl, hv, hd⟩ := xRs_cons h3
    have e := xRs_nil hd
    subst e
    obtain ⟨z, rfl, -⟩ := xR_lc hv
    exact Or.inr (Or.inl ⟨rfl, z, rfl, hty⟩)
  · rename_i hst hty
    rw [hst] at h3
    have e := xRs_nil h3
    subst e
    exact Or.inr (Or.inr ⟨rfl, rfl, hty⟩)
  · cases h
set_option maxHeartbeats 4000000 in
theorem xMth_ok (hc : xClo tab info rets NM mth Gd Met) {P : xP} {Post : xRes2 → Prop} {j k idx len a1 a2 a3 wi : Nat} {S : xS} {Ss : List xS} {o : rvS} (hj : j < NM) (htab : tab j o.1 = some (.invokestatic idx, len, a1, a2, a3, wi)) (h0 : Nat.beq a3 0 = true) (hk : mth a1 = some k) (hs : xMth k (info j) S = some Ss) (hR0 : xRel xRgn (xFM P) S o) (hall : ∀ o', (∃ S' ∈ Ss, xRel xRgn (xFM P) S' o') → Gd j Post o') : Gd j Post o := by
  obtain ⟨pc, al, st, ah, fs, Q, kc, ks⟩ := S
  obtain ⟨r, T, pl, cl, cs, aw, rfl, hl, hst, hS, hP, hF, hQ⟩ := xRel_out hR0
  dsimp only at hl hst hS hF hQ htab ⊢
  clear hR0
  have same : ∃ t, r = r ++ t := ⟨[], (List.append_nil r).symm⟩
  have hf := xFM_app P
  simp only [xMth] at hs
  cases hb : (Nat.ble 1 (info j).2.1 && (Nat.ble kc (info j).2.2.1 && Nat.ble ks (info j).2.2.2.1)) with
  | false => rw [hb] at hs; cases hs
  | true =>
    rw [hb] at hs
    simp only [cond_true] at hs
    obtain ⟨b1, b2⟩ := rv_and hb
    obtain ⟨b2, b3⟩ := rv_and b2
    have b1 := rv_ble b1
    have b2 := rv_ble b2
    have b3 := rv_ble b3
    split at hs
    · rename_i y x rest
      obtain ⟨hw, rfl⟩ := rv_bif hs
      obtain ⟨c1, ds, rfl, hy, k1⟩ := xRs_cons hst
      obtain ⟨c2, ds, rfl, hx, k2⟩ := xRs_cons k1
      obtain ⟨zy, rfl, ey, y32, -⟩ := xR_pt hy
      obtain ⟨zx, rfl, ex9, x32, -⟩ := xR_pt hx
      have hwd : rvWd ds + 13 ≤ (info j).2.2.2.2.1 := by
        have := rv_ble hw
        have := rvWd_le ds
        have := xRs_len k2
        omega
      refine hc.2.2.2.2.2.2.1 j Post pc cl 0 zx zy ds aw kc ks idx len a1 a2 a3 wi hj htab h0 hk (by omega) x32 y32 b1 hwd b2 b3 (hall _ ?_)
      by_cases hlt : zx < zy
      · obtain ⟨Q2, hm, hQ2, -⟩ := xOl_ok (l := xSub (xSub (xSm y) (xSm x)) (xK 1)) hQ (by rw [xSub_ok, xSub_ok, xK_ok]; omega)
        have e : xMm 0 zx zy = zy := by show (if zx < zy then zy else zx) = zy; rw [if_pos hlt]
        rw [e]
        exact ⟨_, List.mem_append.mpr (Or.inl (List.mem_map.mpr ⟨Q2, hm, rfl⟩)), xNx_ok hf hS hP hF rfl rfl same hl (xRs_c hy k2) hQ2⟩
      · obtain ⟨Q2, hm, hQ2, -⟩ := xOl_ok (l := xSub (xSm x) (xSm y)) hQ (by rw [xSub_ok]; omega)
        have e : xMm 0 zx zy = zx := by show (if zx < zy then zy else zx) = zx; rw [if_neg hlt]
        rw [e]
        exact ⟨_, List.mem_append.mpr (Or.inr (List.mem_map.mpr ⟨Q2, hm, rfl⟩)), xNx_ok hf hS hP hF rfl rfl same hl (xRs_c hx k2) hQ2⟩
    · rename_i y x rest
      obtain ⟨hw, rfl⟩ := rv_bif hs
      obtain ⟨c1, ds, rfl, hy, k1⟩ := xRs_cons hst
      obtain ⟨c2, ds, rfl, hx, k2⟩ := xRs_cons k1
      obtain ⟨zy, rfl, ey, y32, -⟩ := xR_pt hy
      obtain ⟨zx, rfl, ex9, x32, -⟩ := xR_pt hx
      have hwd : rvWd ds + 13 ≤ (info j).2.2.2.2.1 := by
        have := rv_ble hw
        have := rvWd_le ds
        have := xRs_len k2
        omega
      refine hc.2.2.2.2.2.2.1 j Post pc cl 1 zx zy ds aw kc ks idx len a1 a2 a3 wi hj htab h0 hk (by omega) x32 y32 b1 hwd b2 b3 (hall _ ?_)
      by_cases hlt : zy < zx
      · obtain ⟨Q2, hm, hQ2, -⟩ := xOl_ok (l := xSub (xSub (xSm x) (xSm y)) (xK 1)) hQ (by rw [xSub_ok, xSub_ok, xK_ok]; omega)
        have e : xMm 1 zx zy = zy := by show (if zy < zx then zy else zx) = zy; rw [if_pos hlt]
        rw [e]
        exact ⟨_, List.mem_append.mpr (Or.inl (List.mem_map.mpr ⟨Q2, hm, rfl⟩)), xNx_ok hf hS hP hF rfl rfl same hl (xRs_c hy k2) hQ2⟩
      · obtain ⟨Q2, hm, hQ2, -⟩ := xOl_ok (l := xSub (xSm y) (xSm x)) hQ (by rw [xSub_ok]; omega)
        have e : xMm 1 zx zy = zx := by show (if zy < zx then zy else zx) = zx; rw [if_neg hlt]
        rw [e]
        exact ⟨_, List.mem_append.mpr (Or.inr (List.mem_map.mpr ⟨Q2, hm, rfl⟩)), xNx_ok hf hS hP hF rfl rfl same hl (xRs_c hx k2) hQ2⟩
    · rename_i x rest
      cases hw : Nat.ble (2 * rest.length + 13) (info j).2.2.2.2.1 with
      | false => rw [hw] at hs; cases hs
      | true =>
      rw [hw] at hs
      simp only [cond_true] at hs
      obtain ⟨c2, ds, rfl, hx, k2⟩ := xRs_cons hst
      obtain ⟨zx, rfl, ex9, x32, wx⟩ := xR_pt hx
      have hwd : rvWd ds + 13 ≤ (info j).2.2.2.2.1 := by
        have := rv_ble hw
        have := rvWd_le ds
        have := xRs_len k2
        omega
      refine hc.2.2.2.2.2.2.2.1 j Post pc cl zx ds aw kc ks idx len a1 a2 a3 wi hj htab h0 hk x32 b1 hwd b2 b3 (fun n n32' hn => hall _ ?_)
      cases hlo9 : xGtM Q x with
      | false =>
        rw [hlo9] at hs
        cases hs
        obtain ⟨r', hr, hQ2, hv2⟩ := xNew_ok (a := xT32) T pl hQ n32'.1 n32'.2 n32'
        have gr := xG_r (T := T) (pl := pl) hr
        exact ⟨_, List.mem_singleton.mpr rfl, xNx_ok hf hS hP hF rfl rfl hr (xRs_grow gr hl) (xRs_c hv2 (xRs_grow gr k2)) hQ2⟩
      | true =>
      rw [hlo9] at hs
      have hs := Option.some.inj hs
      subst hs
      have hlo : -2147483647 ≤ zx := by
        unfold xGtM at hlo9
        split at hlo9
        · rename_i a ha
          have := of_decide_eq_true hlo9
          have := xItv_ok hQ ha
          omega
        · cases hlo9
      have n32 : xIn32 (-zx) := ⟨by have := x32.2; omega, by omega⟩
      rw [hn n32]
      by_cases hlt : 0 ≤ zx
      · obtain ⟨Q2, hm, hQ2, -⟩ := xOl_ok (l := xSm x) hQ (by rw [← ex9]; exact hlt)
        rw [if_pos hlt]
        exact ⟨_, List.mem_append.mpr (Or.inl (List.mem_map.mpr ⟨Q2, hm, rfl⟩)), xNx_ok hf hS hP hF rfl rfl same hl (xRs_c hx k2) hQ2⟩
      · obtain ⟨Q2, hm, hQ2, -⟩ := xOl_ok (l := xSub (xK (-1)) (xSm x)) hQ (by rw [xSub_ok, xK_ok]; omega)
        rw [if_neg hlt]
        have ev : xVal r (xSm (x.1, -x.2.1, -x.2.2)) = -zx := by
          rw [ex9, xSm_val, xSm_val]
          show -x.2.1 * r.getD x.1 0 + -x.2.2 = -(x.2.1 * r.getD x.1 0 + x.2.2)
          rw [Int.neg_mul]
          omega
        have hv : xR r T pl (.inl (x.1, -x.2.1, -x.2.2)) (.inl (-zx, -zx)) := by
          refine ⟨?_, by rw [ev]; exact n32, by rw [ev]⟩
          intro q hq
          unfold xSm at hq wx
          dsimp only at hq
          cases hz : decide (x.2.1 = 0) with
          | true =>
            have hz := of_decide_eq_true hz
            rw [hz] at hq
            cases hq
          | false =>
            rw [hz] at wx
            have hz := of_decide_eq_false hz
            have hz2 : decide (-x.2.1 = 0) = false := decide_eq_false (by omega)
            rw [hz2] at hq
            have e : q = (x.1, -x.2.1) := List.mem_singleton.mp hq
            rw [e]
            exact wx (x.1, x.2.1) (List.mem_singleton.mpr rfl)
        exact ⟨_, List.mem_append.mpr (Or.inr (List.mem_map.mpr ⟨Q2, hm, rfl⟩)), xNx_ok hf hS hP hF rfl rfl same hl (xRs_c hv k2) hQ2⟩
    · cases hs
set_option maxHeartbeats 4000000 in
theorem xIns1_ok (hc : xClo tab info rets NM mth Gd Met) (hcon : ∀ x, x < X → xCon Met (con x)) {ih : Nat → Nat → Bool → xS → List Nat → Option (List xS × List Nat)} (hih : xSound NM na cuts rk0 Gd ih) {dp j : Nat} {P : xP} {Post : xRes2 → Prop} (hj : j < NM) (hP9 : P.2.2.2.2.length = dp) (hcut : dp = 0 → xCutH na cuts rk0 P (Gd j Post)) (hrk : ∀ a, rk0 = some a → ∀ l ∈ a, xWf P.1.length l.1) (hna : na ≤ P.1.length) : xSnd1 P Post (Gd j Post) (xIns1 mth d NM X tab info rets con hn ih dp j) := by
  intro S tape Rs t' hs hR o hS
  have hall := hih dp j false P Post hj hP9 hcut hrk hna
  unfold xIns1 at hs
  split at hs
  · rename_i i len a1 a2 a3 wi htab
    have hS0 := hS
    obtain ⟨r, T, pl, h1, h2, h3, h4, h5, h6, h7, h8, h9⟩ := hS
    have htab2 : tab j o.1 = some (i, len, a1, a2, a3, wi) := by rw [h1]; exact htab
    have retc : ∀ i', i = i' → xRetB d rets j i' S = true → S.2.2.2.2.2.2.1 ≤ (info j).2.2.1 → S.2.2.2.2.2.2.2 ≤ (info j).2.2.2.1 → Rs = [S] → Gd j Post o := by
      intro i' e hb q1 q2 e2
      subst e; subst e2
      obtain ⟨-, -, -, -, -, hret, -, -, -⟩ := hc
      have k := xRetB_ok h3 h7 hb
      have hpost := hR S (List.mem_singleton.mpr rfl) o hS0
      obtain ⟨opc, cl, cs, aw, okc, oks⟩ := o
      exact hret j Post opc cl cs aw okc oks i len a1 a2 a3 wi hj htab2 k (Nat.le_trans (Nat.le_of_eq h8) q1) (Nat.le_trans (Nat.le_of_eq h9) q2) hpost
    split at hs
    · obtain ⟨hb, e⟩ := rv_bif hs
      obtain ⟨b1, b2⟩ := rv_and hb
      obtain ⟨b2, b3⟩ := rv_and b2
      have e := (Prod.mk.inj e).1
      exact retc _ rfl b1 (rv_ble b2) (rv_ble b3) e.symm
    · obtain ⟨hb, e⟩ := rv_bif hs
      obtain ⟨b1, b2⟩ := rv_and hb
      obtain ⟨b2, b3⟩ := rv_and b2
      have e := (Prod.mk.inj e).1
      exact retc _ rfl b1 (rv_ble b2) (rv_ble b3) e.symm
    · obtain ⟨hb, e⟩ := rv_bif hs
      obtain ⟨b1, b2⟩ := rv_and hb
      obtain ⟨b2, b3⟩ := rv_and b2
      have e := (Prod.mk.inj e).1
      exact retc _ rfl b1 (rv_ble b2) (rv_ble b3) e.symm
    · rename_i idx
      cases h8a : Nat.beq a3 8 with
      | true =>
        rw [h8a] at hs
        simp only [cond_true] at hs
        split at hs
        · rename_i Ss hcp
          obtain ⟨o', S', e, m, hS'⟩ := xp_copy hcp hS0
          exact hc.2.2.1 j Post o o' idx len a1 a2 a3 wi hj htab2 h8a e (xAll2_ok hall Ss hs hR o' ⟨S', m, hS'⟩)
        · cases hs
      | false =>
        rw [h8a] at hs
        simp only [cond_false] at hs
        split at hs
        · rename_i k hk
          cases h0a : Nat.beq a3 0 with
          | false => rw [h0a] at hs; cases hs
          | true =>
            rw [h0a] at hs
            simp only [cond_true] at hs
            split at hs
            · rename_i Ss hmt
              exact xMth_ok hc hj htab2 h0a hk hmt hS0 (fun o' ho' => xAll2_ok hall Ss hs hR o' ho')
            · cases hs
        · split at hs
          · rename_i as rest hpop
            obtain ⟨cas, crest, k1, k2, k3⟩ := xPopA_ok a2 (acc := []) (cacc := []) hpop h3 trivial
            refine xCall_ok hc hcon hih hj hP9 hcut hrk hna hs hR h1 h2 k2 k3 h4 h5 h6 h7 h8 h9 (fun q1 q2 q3 q4 q5 => ?_)
            exact ⟨_, len, a2, a3, wi, cas, crest, htab2, k1, q1, q2, q3, q4, q5, Or.inl ⟨⟨idx, rfl⟩, h8a, rfl, rfl⟩⟩
          · cases hs
    · rename_i idx
      cases h9a : Nat.beq a3 9 with
      | true =>
        rw [h9a] at hs
        simp only [cond_true] at hs
        split at hs
        · rename_i Ss hob
          obtain ⟨S', k, rest, e1, e2, m, hS'⟩ := xp_obj hob hS0
          obtain ⟨opc, cl, cs, aw, okc, oks⟩ := o
          have e1 : cs = .inr (2, k) :: rest := e1
          subst e1
          exact hc.2.2.2.1 j Post opc cl k rest aw okc oks idx len a1 a2 a3 wi hj htab2 h9a e2 (xAll2_ok hall Ss hs hR _ ⟨S', m, hS'⟩)
        · cases hs
      | false =>
        rw [h9a] at hs
        simp only [cond_false] at hs
        split at hs
        · rename_i as v rest hpop
          obtain ⟨hb, hs⟩ := (by
            cases hb : xRcv S.2.2.2.1 (info a1).2.2.2.2.2 v with
            | false => rw [hb] at hs; cases hs
            | true => rw [hb] at hs; exact ⟨rfl, hs⟩ : xRcv S.2.2.2.1 (info a1).2.2.2.2.2 v = true ∧ xCall mth d NM X info con ih dp j a1 (v :: as) rest S tape = some (Rs, t'))
          obtain ⟨cas, crest, k1, k2, k3⟩ := xPopA_ok a2 (acc := []) (cacc := []) hpop h3 trivial
          obtain ⟨c, ds, rfl, hv, k4⟩ := xRs_cons k3
          refine xCall_ok hc hcon hih hj hP9 hcut hrk hna hs hR h1 h2 (xRs_c hv k2) k4 h4 h5 h6 h7 h8 h9 (fun q1 q2 q3 q4 q5 => ?_)
          exact ⟨_, len, a2, a3, wi, cas, c :: ds, htab2, k1, q1, q2, q3, q4, q5, Or.inr ⟨Or.inr ⟨⟨idx, rfl⟩, h9a⟩, c, rfl, rfl, xRcv_ok h4 h5 hv hb⟩⟩
        · cases hs
    · rename_i idx
      split at hs
      · rename_i as v rest hpop
        obtain ⟨hb, hs⟩ := (by
          cases hb : xRcv S.2.2.2.1 (info a1).2.2.2.2.2 v with
          | false => rw [hb] at hs; cases hs
          | true => rw [hb] at hs; exact ⟨rfl, hs⟩ : xRcv S.2.2.2.1 (info a1).2.2.2.2.2 v = true ∧ xCall mth d NM X info con ih dp j a1 (v :: as) rest S tape = some (Rs, t'))
        obtain ⟨cas, crest, k1, k2, k3⟩ := xPopA_ok a2 (acc := []) (cacc := []) hpop h3 trivial
        obtain ⟨c, ds, rfl, hv, k4⟩ := xRs_cons k3
        refine xCall_ok hc hcon hih hj hP9 hcut hrk hna hs hR h1 h2 (xRs_c hv k2) k4 h4 h5 h6 h7 h8 h9 (fun q1 q2 q3 q4 q5 => ?_)
        exact ⟨_, len, a2, a3, wi, cas, c :: ds, htab2, k1, q1, q2, q3, q4, q5, Or.inr ⟨Or.inl ⟨idx, rfl⟩, c, rfl, rfl, xRcv_ok h4 h5 hv hb⟩⟩
      · cases hs
    · split at hs
      · rename_i Ss hst
        have ok := xStep_ok (sc := []) (a3 := a3) hst hS0
        rcases ok with ⟨o', S', e, m, hS'⟩ | ⟨pc, al, st, a, aw, kc, ks, e, hn9⟩
        · exact hc.1 j Post o o' _ len a1 a2 a3 wi hj htab2 e (xAll2_ok hall Ss hs hR o' ⟨S', m, hS'⟩)
        · refine hc.1 j Post o _ _ len a1 a2 a3 wi hj htab2 e (hc.2.1 j Post pc al st a aw kc ks (fun n n1 n2 n3 => ?_))
          obtain ⟨S', m, hS'⟩ := hn9 n n1 n2 n3
          exact xAll2_ok hall Ss hs hR _ ⟨S', m, hS'⟩
      · cases hs
  · cases hs
theorem xMap_pre {P : List Int} {t : List Int} {a : List xL} (h : ∀ l ∈ a, xWf P.length l.1) : a.map (xVal (P ++ t)) = a.map (xVal P) := List.map_congr_left (fun l hl => xVal_app (h l hl))
theorem xSbs_map {s : List xL} {r : List Int} : ∀ {l u : List xL}, xSbs s l = some u → u.map (xVal r) = l.map (xVal (s.map (xVal r)))
  | [], u, h => by cases h; rfl
  | c :: t, u, h => by
      unfold xSbs at h
      split at h
      · rename_i m u2 h1 h2
        cases h
        rw [List.map_cons, List.map_cons, xSbs_map h2, (xSb_ok (r := r) h1).1]
      · cases h
set_option maxHeartbeats 4000000 in
theorem xCutC_ok {P : xP} {S : xS} {ci : Nat} {G : rvS → Prop} {o : rvS} (hcut : xCutH na cuts rk0 P G) (hrk : ∀ a, rk0 = some a → ∀ l ∈ a, xWf P.1.length l.1) (hna : na ≤ P.1.length) (h : xCutC d na cuts ms0 rk0 S ci = true) (hS : xRel xRgn (xFM P) S o) : G o := by
  obtain ⟨r, T, pl, h1, h2, h3, h4, h5, h6, h7, h8, h9⟩ := hS
  unfold xCutC at h
  split at h
  · rename_i Tm src rk hci
    split at h
    · rename_i s hsrc
      obtain ⟨a0, e1⟩ := rv_and h
      obtain ⟨a1, e2⟩ := rv_and e1
      obtain ⟨a2, e3⟩ := rv_and e2
      obtain ⟨a3, e4⟩ := rv_and e3
      obtain ⟨a4, e5⟩ := rv_and e4
      obtain ⟨a5, e6⟩ := rv_and e5
      obtain ⟨a6, e7⟩ := rv_and e6
      obtain ⟨a7, e8⟩ := rv_and e7
      obtain ⟨a8, e9⟩ := rv_and e8
      obtain ⟨a9, a10⟩ := rv_and e9
      have a1 := rv_beq a1
      have a5 := rv_beq a5
      have a6 := rv_beq a6
      have a7 := rv_beq a7
      obtain ⟨f1, f2, f3, f4⟩ := xFitK_ok h4 h5 h6 h7 a4
      have htk : pl.take Tm.2.2.2.1.length = pl := by
        rw [a5, h4.1]
        exact List.take_length
      have k2 := xFitVs_ok h7 h4 a2 h2
      have k3 := xFitVs_ok h7 h4 a3 h3
      rw [htk] at f2 f3 f4 k2 k3
      have h0 : xFM P (0, ms0, []) r T pl o.2.2.2.1 := by
        split at a8
        · rename_i v hv
          exact h6 (0, ms0, v) (xHas_ok hv)
        · cases a8
      obtain ⟨⟨t, et⟩, z2, z3, z4⟩ := h0
      have htk2 : (s.map (xVal r)).take na = P.1.take na := by
        rw [xIdB_ok na 0 s r a0 (by rw [et, List.length_append]; omega), et, List.drop_zero, List.take_append_of_le_length hna]
      refine hcut ci Tm src rk (s.map (xVal r)) o hci htk2 ⟨T, pl, by rw [h1, a1], k2, k3, f2, f3, fun f hf => ?_, f1, by rw [h8, a6], by rw [h9, a7]⟩ (fun a ha => ?_)
      · by_cases e0 : f.1 = 0
        · have := List.all_eq_true.mp a9 f hf
          obtain ⟨kd, ns, vs⟩ := f
          have e0 : kd = 0 := e0
          subst e0
          rcases rv_or' this with e | e
          · have e : (!Nat.beq 0 0) = true := e
            cases e
          · have e : ns = ms0 := of_decide_eq_true e
            subst e
            exact ⟨⟨[], (List.append_nil _).symm⟩, z2, z3, z4⟩
        · exact f4 f hf e0 _
      · rw [ha] at a10
        dsimp only at a10
        split at a10
        · rename_i b hb
          have k := xLex_ok h7 a10
          rw [xSbs_map hb, et, xMap_pre (hrk a ha), ← et] at k
          exact k
        · cases a10
    · cases h
  · cases h
theorem xMid_ok (hc : xClo tab info rets NM mth Gd Met) (hcon : ∀ x, x < X → xCon Met (con x)) {ih : Nat → Nat → Bool → xS → List Nat → Option (List xS × List Nat)} (hih : xSound NM na cuts rk0 Gd ih) {dp j : Nat} {sk : Bool} {P : xP} {Post : xRes2 → Prop} (hj : j < NM) (hP9 : P.2.2.2.2.length = dp) (hcut : dp = 0 → xCutH na cuts rk0 P (Gd j Post)) (hrk : ∀ a, rk0 = some a → ∀ l ∈ a, xWf P.1.length l.1) (hna : na ≤ P.1.length) : xSnd1 P Post (Gd j Post) (xMid mth d NM X na tab info rets con hn cutp cuts ms0 rk0 ih dp j sk) := by
  intro S tape Rs t' hs hR o hS
  unfold xMid at hs
  cases hb : (Nat.beq dp 0 && (!sk && cutp S.1)) with
  | true =>
    rw [hb] at hs
    simp only [cond_true] at hs
    obtain ⟨b1, -⟩ := rv_and hb
    have b1 := rv_beq b1
    split at hs
    · rename_i t
      exact xIns1_ok (d := d) (hn := hn) hc hcon hih hj hP9 hcut hrk hna S t Rs t' hs hR o hS
    · rename_i ci t
      obtain ⟨hk, -⟩ := rv_bif hs
      exact xCutC_ok (hcut b1) hrk hna hk hS
    · cases hs
  | false =>
    rw [hb] at hs
    simp only [cond_false] at hs
    exact xIns1_ok (d := d) (hn := hn) hc hcon hih hj hP9 hcut hrk hna S tape Rs t' hs hR o hS
theorem xF1_ok (hc : xClo tab info rets NM mth Gd Met) (hcon : ∀ x, x < X → xCon Met (con x)) {ih : Nat → Nat → Bool → xS → List Nat → Option (List xS × List Nat)} (hih : xSound NM na cuts rk0 Gd ih) : xSound NM na cuts rk0 Gd (xF1 mth d NM X na tab info rets con opt hp hn cutp cuts ms0 rk0 ih) := by
  intro dp j sk P Post hj hP9 hcut hrk hna S tape Rs t' hs hR o hS
  have hmid := xMid_ok (d := d) (hn := hn) (cutp := cutp) (ms0 := ms0) (sk := sk) hc hcon hih hj hP9 hcut hrk hna
  unfold xF1 at hs
  cases hh : hp j S.1 with
  | true =>
    rw [hh] at hs
    simp only [cond_true] at hs
    split at hs
    · rename_i k t
      split at hs
      · rename_i Ss hg
        exact xAll2_ok hmid Ss hs hR o (xGhs_ok (opt k) hg ⟨S, List.mem_singleton.mpr rfl, hS⟩)
      · cases hs
    · cases hs
  | false =>
    rw [hh] at hs
    simp only [cond_false] at hs
    exact hmid S tape Rs t' hs hR o hS
theorem xRun_ok (hc : xClo tab info rets NM mth Gd Met) (hcon : ∀ x, x < X → xCon Met (con x)) : ∀ n : Nat, xSound NM na cuts rk0 Gd (xRun mth d NM X na tab info rets con opt hp hn cutp cuts ms0 rk0 n)
  | 0 => fun dp j sk P Post hj hP9 hcut hrk hna S tape Rs t' hs => by
      have hs : (none : Option (List xS × List Nat)) = some (Rs, t') := hs
      cases hs
  | n + 1 => xF1_ok hc hcon (xRun_ok hc hcon n)
end XSNE
