/-! OboeDistrict.person of an unknown person throws; the law's person catches it. -/
def rvXi : List Nat := [140, 1339, 1348, 1350, 1353, 1355, 1340, 1341, 151, 152, 1342, 1347, 1351, 1371, 1329, 1372, 1331, 1373, 1333, 1343, 1345, 1335, 1367, 1368, 1370, 1335, 1358, 1359, 1360, 1361, 1321, 1361, 1362, 1363, 1364, 1323, 1364, 1365, 1366, 1367, 1325, 1357, 1318, 1319, 1326, 1327, 1328, 1330, 1332, 1334, 1338, 1337, 1336]
theorem rvXa_in : rvXa.filter vx_no = rvXi.filterMap (fun i => lw_tbl[i]?) := by decide +kernel
theorem rvXa_tbl : ∀ w ∈ rvXa.filter vx_no, w ∈ lw_tbl := fun w hw => by
  rw [rvXa_in] at hw
  obtain ⟨i, -, hi⟩ := List.mem_filterMap.mp hw
  exact List.mem_of_getElem? hi
def rvXb : List Cond := [.castable rvXn rvXn, .declares (Bundle.initS "java/lang/RuntimeException"), .declares (Bundle.initS "java/lang/Exception"), .declares (Bundle.initS Bundle.tN)]
theorem rvXa_bad : ∀ w ∈ (rvXa.filter vx_no).filter (fun w => !goodWord w), w ∈ rvXb := by decide +kernel
theorem rvXa_ot : ∀ w ∈ Cond.classLink RX11 173 rvXn :: Cond.initialized rvXn :: rvXa.filter vx_no, vx_ot w = true := by decide +kernel
theorem rvXw_k : rvW 1317 (.classLink RX11 173 rvXn) = true := by decide +kernel
theorem rvXw_i : rvW 143 (.initialized rvXn) = true := by decide +kernel
/-- what a throw needs of the outside -/
def rvPx (sa : Nat) (A : Nat → Prop) (U : State) (H : Heap) : Prop := (va_Nw (.castable rvXn rvXn) U ∧ va_Nw (.declares (Bundle.initS "java/lang/RuntimeException")) U ∧ va_Nw (.declares (Bundle.initS "java/lang/Exception")) U ∧ va_Nw (.declares (Bundle.initS Bundle.tN)) U) ∧ vk_R RX11 175 "no such person" sa U ∧ vx_Zq Bundle.tN "UNASSIGNED_STACK" Bundle.steD A U H ∧ vx_Zq Bundle.tN "SUPPRESSED_SENTINEL" Bundle.listD A U H
theorem rvPx_warm {sa : Nat} {A : Nat → Prop} {u U : State} {H : Heap} (hW : u.WarmedH U.vm) (h : rvPx sa A u H) : rvPx sa A U H := by
  obtain ⟨⟨h1, h2, h3, h4⟩, h5, h6, h7⟩ := h
  exact ⟨⟨va_Nw.warmC hW h1, va_Nw.warmD hW h2, va_Nw.warmD hW h3, va_Nw.warmD hW h4⟩, vk_R.warm hW h5, vx_Zq.moved hW.alike h6, vx_Zq.moved hW.alike h7⟩
theorem rvPx_same {sa : Nat} {A : Nat → Prop} {u U : State} {H : Heap} (hv : u.vm = U.vm) (h : rvPx sa A u H) : rvPx sa A U H := by
  obtain ⟨⟨h1, h2, h3, h4⟩, h5, h6, h7⟩ := h
  have hal : u.vm.Alike U.vm := by rw [hv]; exact Vm.Alike.refl _
  exact ⟨⟨va_Nw.same rfl hv h1, va_Nw.same rfl hv h2, va_Nw.same rfl hv h3, va_Nw.same rfl hv h4⟩, vk_R.same hv.symm h5, vx_Zq.moved hal h6, vx_Zq.moved hal h7⟩
theorem rvPx_kept {sa : Nat} {A : Nat → Prop} {U : State} {H H1 : Heap} (h : rvPx sa A U H) (hq : ∀ a : Nat, a < H.size → ¬ A a → H1[a]? = H[a]?) : rvPx sa A U H1 := ⟨h.1, h.2.1, h.2.2.1.kept hq, h.2.2.2.kept hq⟩
theorem rvPx_narrow {sa : Nat} {A B : Nat → Prop} {U : State} {H : Heap} (h : rvPx sa A U H) (hAB : ∀ q, B q → A q) : rvPx sa B U H := ⟨h.1, h.2.1, h.2.2.1.narrow hAB, h.2.2.2.narrow hAB⟩
theorem rvPx_bad {sa : Nat} {A : Nat → Prop} {U : State} {H : Heap} {args : Array Value} (h : rvPx sa A U H) : ∀ w ∈ rvXb, w.before args U = true := by
  obtain ⟨⟨h1, h2, h3, h4⟩, -⟩ := h
  exact vx_c (va_Nw.use rfl h1) (vx_c (va_Nw.use rfl h2) (vx_c (va_Nw.use rfl h3) (vx_c (va_Nw.use rfl h4) vx_n)))
def rvPcx (D : va_G) (cT : Nat → ClassId) (ex : Nat → Nat → Nat) (ws : va_W) (sz : Nat) (xs : List Value) (sa : Nat) : Array Value → State → Prop := fun a U => rvPc D cT ex ws sz xs a U ∧ rvPx sa (va_A ws sz) U U.heap
def rvXC (D : va_G) (cT : Nat → ClassId) (ex : Nat → Nat → Nat) (ws : va_W) (sz : Nat) (aw : rvH) : String → State → State → Prop := fun E st t => E = rvXn ∧ ∃ w1 : va_W, (∃ t1, rvAd w1 = rvAd ws ++ t1) ∧ rvWoo cT (rvAd w1) ex aw w1 ∧ va_P D vwCl w1 t.heap ∧ va_D (va_A ws sz) w1 ∧ va_F (va_A ws sz) st t
theorem rv_blindx {D : va_G} {cT : Nat → ClassId} {ex : Nat → Nat → Nat} {ws : va_W} {sz sa : Nat} {xs : List Value} : FrameBlind (rvPcx D cT ex ws sz xs sa) := fun a U g mk q => ⟨rv_blind a U g mk q.1, rvPx_same (u := U) rfl q.2⟩
theorem rv_prex {D : va_G} {cB : Nat → ClassId} {ex : Nat → Nat → Nat} {A : Nat → Prop} {s : State} {sa : Nat} {ws : va_W} {H : Heap} {locs : List Loc} {xs : List Value} (hK : va_K D vwCl (rvTys cB) s) (hX : rvKx ex A s s.heap) (hPx : rvPx sa A s s.heap) (hA : ∀ q, s.heap.size ≤ q → A q) (hP : va_P D vwCl ws H) (hD : va_D A ws) (hS : va_S A s.heap H locs) : ∀ U : State, U.heap = H → s.WarmedH U.vm → rvPcx D cB ex ws H.size xs sa xs.toArray U := by
  intro U hU hW
  refine ⟨rv_pre hK hX hA hP hD hS U hU hW, ?_⟩
  rw [hU]
  exact rvPx_warm hW (rvPx_narrow (rvPx_kept hPx (fun a h1 h2 => hS.2.1 a h1 h2)) (rv_free hD hS hA))
def tb_P : List (Nat × List (Nat × rvE)) := [(8, [(0, (.aload_n 0, 1, 0, 0, 0, 0)), (1, (.iload_n 1, 1, 0, 0, 0, 0)), (2, (.invokevirtual 169, 3, 47, 1, 0, 986)), (5, (.ifCond .ne 13, 3, 0, 0, 0, 0))])]
theorem rvT_P : rvTk rvYn rvKd 168 RX11 cX11_person false (rvFind2 tb_P) := rvTc_ok (by decide +kernel)
/-- the run of OboeDistrict.person to its throw -/
abbrev rvPr (a1 : Int × Int) : Prop := rvRun rvTy rvNf rvTxt [] (rvX0 6) rvInf (rvFind2 tb_P) 8 10 1 6 200 3 100 0 [.inr (2, 0), .inl a1, rvTop] [] rvAw0 0 0 = some (8, [.inr (2, 0), .inl a1, rvTop], [], rvAw0, 0, 0)
theorem rvPr_0 : rvPr ((-2147483648), (-1)) := rvOk_ok (by decide +kernel)
theorem rvPr_1 : rvPr (0, 2147483647) := rvOk_ok (by decide +kernel)
section RVP
variable {l : Launch} {D : va_G} {cB : Nat → ClassId} {ex : Nat → Nat → Nat} {a1 : Int × Int} {ws : va_W} {xs : List Value} {sz sa : Nat}
set_option maxHeartbeats 1000000 in
theorem rv_personX (hl : l.stackTraces = false) (hrun : rvPr a1) (hw : rvWoo cB (rvAd ws) ex rvAw0 ws) (hxs : rvRs (rvAd ws) ex [.inr (2, 0), .inl a1, rvTop] xs) :
    vx_Met l yX11_person (.code yX11_person cX11_person 3 (some .int) :: rvWl) { frames := 10, cells := 1, slots := 6, locals := 200 } (rvPcx D cB ex ws sz xs sa) (fun _ _ _ _ => False) (rvXC D cB ex ws sz rvAw0) 1 6 (va_A ws sz) := by
  refine vx_ofW (cc := cX11_person) (maxL := 3) (ret := some .int) (by decide +kernel) rfl ?_
  intro p e s m args below meth c s₁ B hml hnt hv
  obtain ⟨⟨rfl, hsz, hP, hK, hD0, hX⟩, hPx⟩ := hv
  subst hsz
  have hx := B.exec
  have hb := B.bytes
  have hlocks := B.notSynchronized
  have hown : s.vm.findClass RX11 = some m.cls := findClass_of_methodNamed B.named
  have hts : ∀ w ∈ rvWl, w.before xs.toArray s = true := fun w hw9 => atoms_spec (ws := Cond.code yX11_person cX11_person 3 (some .int) :: rvWl) B.pre w (List.mem_cons_of_mem _ hw9)
  have hD := hD0.self (sz := s.heap.size)
  have hA : ∀ q : Nat, s.heap.size ≤ q → va_A ws s.heap.size q := fun q h9 => Or.inr h9
  have hcB : ∀ q, q < 6 → cB q = rvCt cB (rvAd ws) q := rvCt_c cB (rvAd ws)
  have C : rvCx p s m xs.toArray meth c cX11_person RX11 3 D (rvCt cB (rvAd ws)) ex (va_A ws s.heap.size) false [] := ⟨hx, hb, hml, hown, hts, by rw [rvTys_c hcB]; exact hK, hA, hX, fun q => (by cases q), Or.inl rfl⟩
  have key : rvG p l e (headSpec (Cond.code yX11_person cX11_person 3 (some .int) :: rvWl) { frames := 10, cells := 1, slots := 6, locals := 200 }).room s m xs.toArray below meth c (vx_MQ below (fun _ _ _ _ => False) (rvXC D cB ex ws s.heap.size rvAw0) xs.toArray s 1 6 (va_A ws s.heap.size)) D (rvCt cB (rvAd ws)) ex (va_A ws s.heap.size) 3 (8, [.inr (2, 0), .inl a1, rvTop], [], rvAw0, 0, 0) := by
    intro ws1 H locs ls stk hw1 hl1 hs1 hP1 hD1 hS1
    dsimp only at hw1 hl1 hs1 ⊢
    have hnil := rvRs_nil hs1
    subst hnil
    obtain ⟨hw2, t1, ht1⟩ := rvWo_out hw1
    have hls : ls.size = 3 := by obtain ⟨-, l9, h9, -⟩ := hl1; exact h9.1
    refine rv_throw (sa := sa) hx hb hl hown (hts _ (rvW_ok rvXw_k)) (hts _ (rvW_ok rvXw_i)) hPx.2.1 (vx_hat (fun w hw9 => hts w (List.mem_filter.mpr ⟨rvXa_tbl w (List.mem_filter.mp hw9).1, (List.mem_filter.mp hw9).2⟩)) rvXa_bad (rvPx_bad hPx)) rvXa_ot hPx.2.2.1 hPx.2.2.2 hS1 (by rw [hml]; exact hls) hnt (by show 5 < 10; decide) (by show 82 ≤ 200; decide) (by show 0 + 1 ≤ 1; decide) (by show 0 + 6 ≤ 6; decide) hlocks ?_ hS1.2.2 (by decide) (by decide)
    intro t ht1' hsz' hsame
    exact ⟨rfl, ws1, ⟨t1, ht1⟩, hw2, hP1.kept (fun k q hk => hsame q.1 (vx_lt hP1 hk)), hD1, ⟨Nat.le_trans hS1.1 hsz', fun q hq hnA => (hsame q (Nat.lt_of_lt_of_le hq hS1.1)).trans (hS1.2.1 q hq hnA)⟩⟩
  have hg := rvRun_ok C rvBase_ok hcB rvM_all (fun j as aw r hj h => rvExec_ok rvBase_ok rvM_all rvT_all (fun _ _ _ _ _ h => by cases h) 100000 6 j as aw r hj h) rvT_P (Nat.le_refl 10) (Nat.le_refl 1) (Nat.le_refl 6) (Nat.le_refl 200) key 100 0 _ [] rvAw0 0 0 hrun
  rw [lg_entry_eq]
  exact hg ws s.heap [] _ [] (rvWo_in hw) (rvLo_entry hxs (by show 3 ≤ 3; decide)) trivial hP hD va_S.rf
end RVP
