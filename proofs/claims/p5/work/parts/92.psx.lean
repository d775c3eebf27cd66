/-! The class's person: it answers, or throws. -/
theorem ps_metP {l : Launch} {D : va_G} {cT : Nat → ClassId} {ex : Nat → Nat → Nat} {j : Nat} {as : List rvV} {aw : rvH} {Post : xRes2 → Prop} (hj : j < 316) (h : rvMetP l D cT ex rvYn rvCd rvInf rvRet j as aw Post) : rvMetP l D cT ex rvYn rvCd psInf rvRet j as aw Post := by
  unfold rvMetP at h ⊢
  rw [psInf_ne hj]
  exact h
theorem ps_mp {j : Nat} (hj : j < 316) : rvMp rvYn rvCd psInf rvRet rvKd j := by
  have h := rvM_all j hj
  unfold rvMp at h ⊢
  rw [psInf_ne hj]
  exact h
theorem psT_tk : rvTk rvYn rvKd 316 RX11 cX11_person false (psTab 316) := psT_ok
section PSX
variable {l : Launch} {D : va_G} {cB : Nat → ClassId} {ex : Nat → Nat → Nat} {ws : va_W} {xs : List Value} {sz sa sb : Nat}
set_option maxHeartbeats 4000000 in
theorem ps_X (hl : l.stackTraces = false) {r : List Int} {T pl : List Nat} {aw : rvH} {x0 : Nat} {v1 v2 : Int} (hinv : lwInv r T pl aw) (hex : exH aw) (hp0 : pl[0]? = some x0) (h1 : xIn32 v1) (h2 : xIn32 v2) (hw : rvWoo cB (rvAd ws) ex aw ws) (hxs : rvRs (rvAd ws) ex [.inr (2, x0), .inl (v1, v1), .inl (v2, v2)] xs) :
    vx_Met l yX11_person (.code yX11_person cX11_person 3 (some .int) :: rvWl) { frames := 6, cells := 1, slots := 6, locals := 90 } (rvPcx D cB ex ws sz xs sa sb) (rvQP D cB ex ws sz (psPost T pl aw)) (psXC D cB ex ws sz T pl aw) 1 6 (va_A ws sz) := by
  refine vx_ofW (cc := cX11_person) (maxL := 3) (ret := some .int) (by decide +kernel) rfl ?_
  intro p e s m args below meth c s₁ B hml hnt hv
  obtain ⟨⟨rfl, hsz, hP, hK, hD0, hX⟩, hPx⟩ := hv
  subst hsz
  have hx := B.exec
  have hb := B.bytes
  have hr := B.returns
  have hlocks := B.notSynchronized
  have hown : s.vm.findClass RX11 = some m.cls := findClass_of_methodNamed B.named
  have hts : ∀ w ∈ rvWl, w.before xs.toArray s = true := fun w hw9 => atoms_spec (ws := Cond.code yX11_person cX11_person 3 (some .int) :: rvWl) B.pre w (List.mem_cons_of_mem _ hw9)
  have hD := hD0.self (sz := s.heap.size)
  have hA : ∀ q : Nat, s.heap.size ≤ q → va_A ws s.heap.size q := fun q h9 => Or.inr h9
  have hcB : ∀ q, q < 6 → cB q = rvCt cB (rvAd ws) q := rvCt_c cB (rvAd ws)
  have C : rvCx p s m xs.toArray meth c cX11_person RX11 3 D (rvCt cB (rvAd ws)) ex (va_A ws s.heap.size) false [] := ⟨hx, hb, hml, hown, hts, by rw [rvTys_c hcB]; exact hK, hA, hX, fun q => (by cases q), Or.inl rfl⟩
  obtain ⟨RG, hRG⟩ : ∃ G : rvS → Prop, G = rvG p l e (headSpec (Cond.code yX11_person cX11_person 3 (some .int) :: rvWl) { frames := 6, cells := 1, slots := 6, locals := 90 }).room s m xs.toArray below meth c (vx_MQ below (rvQP D cB ex ws s.heap.size (psPost T pl aw)) (psXC D cB ex ws s.heap.size T pl aw) xs.toArray s 1 6 (va_A ws s.heap.size)) D (rvCt cB (rvAd ws)) ex (va_A ws s.heap.size) 3 := ⟨_, rfl⟩
  have hc0 := rvClo (l := l) (D := D) (cB := cB) (ex := ex) rvPn_all rvMk_all rvBase_ok rvM_all rvT_all
  have cS : ∀ (o o' : rvS) (q : Instr) (len a1 a2 a3 wi : Nat), rvFind2 tb_ps o.1 = some (q, len, a1, a2, a3, wi) → rvStep rvTy rvNf rvTxt [] 1 6 3 q a1 a2 a3 o.1 o.2.1 o.2.2.1 o.2.2.2.1 o.2.2.2.2.1 o.2.2.2.2.2 = some o' → RG o' → RG o := by
      intro o o' q len a1 a2 a3 wi ht hst hG
      subst hRG
      obtain ⟨hd, hk, -⟩ := psT_ok o.1 q len a1 a2 a3 wi ht
      exact rvStep_ok C hd hk (Nat.le_refl 1) (Nat.le_refl 6) hst hG
  have csp : ∀ (pc : Nat) (al st : List rvV) (a : Int × Int) (aw : rvH) (kc ks : Nat), (∀ n, a.1 ≤ n → n ≤ a.2 → xIn32 n → RG (pc, al, .inl (n, n) :: st, aw, kc, ks)) → RG (pc, al, .inl a :: st, aw, kc, ks) := by
      intro pc al st a aw kc ks hG
      subst hRG
      intro ws1 H locs ls stk hw hl hs hP hD hS
      dsimp only at hw hl hs ⊢
      obtain ⟨x, stk1, rfl, ⟨n, rfl, p1, p2⟩, hs1⟩ := rvRs_cons hs
      exact hG n.toInt p1 p2 (xi_in n) ws1 H locs ls (.int n :: stk1) hw hl ⟨⟨n, rfl, Int.le_refl _, Int.le_refl _⟩, hs1⟩ hP hD hS
  have cI : ∀ (pc : Nat) (al st : List rvV) (aw : rvH) (kc ks j2 : Nat) (as rest : List rvV) (Q : xRes2 → Prop), xInv psTab psInf 316 pc st aw kc ks j2 as rest → rvMetP l D cB ex rvYn rvCd rvInf rvRet j2 as aw Q → (∀ res, Q res → RG (pc + 3, al, res.1.toList ++ rest, res.2, kc + (psInf j2).2.2.1, ks + (psInf j2).2.2.2.1)) → RG (pc, al, st, aw, kc, ks) := by
      intro pc al st aw kc ks j2 as rest Q hi hmet hG
      subst hRG
      have hj2 : j2 < 316 := ps_inv psT_tk hi
      exact rvInvP_ok (BC := 0) (BS := 0) (BF := 0) (BL := 0) (yn := rvYn) (cd := rvCd) (info := psInf) (rets := rvRet) (kd := rvKd) (NM := 316) (tab := psTab) (j := 316) C hcB (fun j hj => ps_mp hj) psT_tk (Nat.le_refl 6) (Nat.le_refl 1) (Nat.le_refl 6) (Nat.le_refl 90) hi (ps_metP hj2 hmet) hG
  have hcX := EvX_clo (tab := rvTab) (info := rvInf) (rets := rvRet) (NM := 316) (mth := rvMth) jw
  have hclo : xClo psTab psInf rvRet 317 rvMth (psGd (lwX RG (fun o => Fr aw o.2.2.2.1 ∧ Fw aw o.2.2.2.1)) (EvX rvTab rvInf rvRet 316 rvMth)) (EvXM rvTab rvInf rvRet 316 rvMth) := psClo hcX (fun o o' q len a1 a2 a3 wi ht hst hG hex hR => cS o o' q len a1 a2 a3 wi ht hst (hG (rvStep_ex (psEx ht) hex.1 hex.2.1 hex.2.2 hst) ⟨Fr_trans hR.1 (frStep (rv_and (psNt_at ht)).1 hst), Fw_trans hR.2 (fwStep (rv_and (rv_and (psNt_at ht)).2).1 hst)⟩)) (lwX_sp csp) (fun pc al st aw' kc ks j2 as rest Q hi hmet hG hex hR => by
    obtain ⟨x1, x2⟩ := ex_invA hi hex.2.1
    have hm := hmet x1 hex.2.2
    have hn := (EvM_none hm).1
    obtain ⟨i, len, a2, a3, wi, ht, hc⟩ := xInv_cr hi
    have hs : ntS j2 = true := clRow_ok (rv_and (rv_and (psNt_at (show rvFind2 tb_ps pc = some (i, len, j2, a2, a3, wi) from ht))).2).2 hc hn
    have hm2 := sp_kinds j2 as aw' _ (sp_neutral hs as aw' _ hm)
    exact cI pc al st aw' kc ks j2 as rest (fun res => ((Q res ∧ exR res) ∧ Fr aw' res.2) ∧ Fw aw' res.2) hi (hm2 _ _ (xClo_e _ _ _ _ _ hc0)) (fun res hres => hG res hres.1.1.1 ⟨hex.1, ex_app (ex_opt hres.1.1.2.1) x2, hres.1.1.2.2⟩ ⟨Fr_trans hR.1 hres.1.2, Fw_trans hR.2 hres.2⟩))
  have hcon := xc_all hcX
  obtain ⟨r', hr6, hrel⟩ := ps_rel hinv hp0 h1 h2
  have key : RG (0, [.inr (2, x0), .inl (v1, v1), .inl (v2, v2)], [], aw, 0, 0) := by
    refine ps_run hclo hcon hrel hr6 (ps_len hinv) (fun o2 k1 k2 k3 k4 hex2 hR2 => ?_) ⟨exL_c trivial (exL_c ⟨rfl, h1⟩ (exL_c ⟨rfl, h2⟩ (fun v hv => by cases hv))), fun v hv => (by cases hv), hex⟩ ⟨Fr_refl _, Fw_refl _⟩
    subst hRG
    obtain ⟨pc, al, st, aw2, kc, ks⟩ := o2
    replace k1 : psOkI T pl aw aw2 := ⟨k1, hex2.2.2, hR2.1, hR2.2⟩
    dsimp only at k2 k3 k4
    subst k2; subst k3
    intro ws1 H locs ls stk hw1 hl1 hs1 hP1 hD1 hS1
    dsimp only at hw1 hl1 hs1 ⊢
    obtain ⟨hw2, t1, ht1⟩ := rvWo_out hw1
    have hls : ls.size = 3 := by obtain ⟨-, l9, h9, -⟩ := hl1; exact h9.1
    have hxc : ∀ t : State, s.vm.Alike t.vm → H.size ≤ t.heap.size → (∀ q : Nat, q < H.size → t.heap[q]? = H[q]?) → psXC D cB ex ws s.heap.size T pl aw rvXn s t := by
      intro t ht1' hsz' hsame
      exact ⟨rfl, aw2, ws1, k1, ⟨t1, ht1⟩, hw2, hP1.kept (fun k q hk => hsame q.1 (vx_lt hP1 hk)), hD1, ⟨Nat.le_trans hS1.1 hsz', fun q hq hnA => (hsame q (Nat.lt_of_lt_of_le hq hS1.1)).trans (hS1.2.1 q hq hnA)⟩⟩
    rcases k4 with ⟨hpc, rfl⟩ | ⟨hpc, z, rfl⟩
    · have hnil := rvRs_nil hs1
      subst hnil
      rcases hpc with rfl | rfl
      · exact rv_throw (sa := sa) rvPd_8 rvPd_11 rvPd_12 rvPd_14 rvPd_17 hx hb hl hown (hts _ (rvW_ok rvXw_k)) (hts _ (rvW_ok rvXw_i)) hPx.2.1 (vx_hat (fun w hw9 => hts w (List.mem_filter.mpr ⟨rvXa_tbl w (List.mem_filter.mp hw9).1, (List.mem_filter.mp hw9).2⟩)) rvXa_bad (rvPx_bad hPx)) rvXa_ot hPx.2.2.2.1 hPx.2.2.2.2 hS1 (by rw [hml]; exact hls) hnt (by show 5 < 6; decide) (by show 82 ≤ 90; decide) (by show 0 + 1 ≤ 1; decide) (by show 0 + 6 ≤ 6; decide) hlocks hxc hS1.2.2 (by decide) (by decide)
      · exact rv_throw (sa := sb) rvPd_156 rvPd_159 rvPd_160 rvPd_162 rvPd_165 hx hb hl hown (hts _ (rvW_ok rvXw_k)) (hts _ (rvW_ok rvXw_i)) hPx.2.2.1 (vx_hat (fun w hw9 => hts w (List.mem_filter.mpr ⟨rvXa_tbl w (List.mem_filter.mp hw9).1, (List.mem_filter.mp hw9).2⟩)) rvXa_bad (rvPx_bad hPx)) rvXa_ot hPx.2.2.2.1 hPx.2.2.2.2 hS1 (by rw [hml]; exact hls) hnt (by show 5 < 6; decide) (by show 82 ≤ 90; decide) (by show 0 + 1 ≤ 1; decide) (by show 0 + 6 ≤ 6; decide) hlocks hxc hS1.2.2 (by decide) (by decide)
    · have hd : decode cX11_person pc = .ok (.ireturn, 1) := of_decide_eq_true (List.all_eq_true.mp psRd pc hpc)
      obtain ⟨x, stk1, rfl, ⟨n1, rfl, p1, q1⟩, hs2⟩ := rvRs_cons hs1
      have hnil := rvRs_nil hs2
      subst hnil
      obtain ⟨g1, -⟩ := rvFit_ok (ad := rvAd ws1) (ex := ex) (ty := .int) (v := .inl (z, z)) (x := .int n1) rfl ⟨n1, rfl, p1, q1⟩
      refine W.widen (k := 1) (n := 6) (by omega) (by omega) ?_
      exact vx_ret (W.zret hx hb hr g1 (fun t ht hW => ⟨(some (.inl (z, z)), aw2), ⟨⟨z, rfl⟩, k1⟩, _, ws1, rfl, ⟨t1, ht1⟩, hw2, ⟨n1, rfl, p1, q1⟩, by rw [ht]; exact hP1, hD1, hS1.F ht⟩) hS1.2.2 hd)
  subst hRG
  rw [lg_entry_eq]
  exact key ws s.heap [] _ [] (rvWo_in hw) (rvLo_entry hxs (by show 3 ≤ 3; decide)) trivial hP hD va_S.rf
end PSX
