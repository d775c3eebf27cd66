/-! What a throw needs of the outside; the states at the throws and returns of the class's person. -/
def rvXi : List Nat := [140, 1339, 1348, 1350, 1353, 1355, 1340, 1341, 151, 152, 1342, 1347, 1351, 1371, 1329, 1372, 1331, 1373, 1333, 1343, 1345, 1335, 1367, 1368, 1370, 1335, 1358, 1359, 1360, 1361, 1321, 1361, 1362, 1363, 1364, 1323, 1364, 1365, 1366, 1367, 1325, 1357, 1318, 1319, 1326, 1327, 1328, 1330, 1332, 1334, 1338, 1337, 1336]
theorem rvXa_in : rvXa.filter vx_no = rvXi.filterMap (fun i => lw_tbl[i]?) := by decide +kernel
theorem rvXa_tbl : ∀ w ∈ rvXa.filter vx_no, w ∈ lw_tbl := fun w hw => by
  rw [rvXa_in] at hw
  obtain ⟨i, -, hi⟩ := List.mem_filterMap.mp hw
  exact List.mem_of_getElem? hi
def rvXb : List Cond := [.castable rvXn rvXn, .declares (Bundle.initS "java/lang/RuntimeException"), .declares (Bundle.initS "java/lang/Exception"), .declares (Bundle.initS Bundle.tN)]
theorem rvXa_bad : ∀ w ∈ (rvXa.filter vx_no).filter (fun w => !goodWord w), w ∈ rvXb := by decide +kernel
theorem rvXa_ot : ∀ w ∈ Cond.classLink RX11 173 rvXn :: Cond.initialized rvXn :: rvXa.filter vx_no, vx_ot w = true := by decide +kernel
theorem rvXw_k : rvW 1317 (.classLink RX11 173 rvXn) = true := by decide +kernel
theorem rvXw_i : rvW 143 (.initialized rvXn) = true := by decide +kernel
/-- what a throw needs of the outside -/
def rvPx (sa sb : Nat) (A : Nat → Prop) (U : State) (H : Heap) : Prop := (va_Nw (.castable rvXn rvXn) U ∧ va_Nw (.declares (Bundle.initS "java/lang/RuntimeException")) U ∧ va_Nw (.declares (Bundle.initS "java/lang/Exception")) U ∧ va_Nw (.declares (Bundle.initS Bundle.tN)) U) ∧ vk_R RX11 175 "no such person" sa U ∧ vk_R RX11 201 "nothing such of a person" sb U ∧ vx_Zq Bundle.tN "UNASSIGNED_STACK" Bundle.steD A U H ∧ vx_Zq Bundle.tN "SUPPRESSED_SENTINEL" Bundle.listD A U H
section RVPX
variable {sa sb : Nat}
theorem rvPx_warm {A : Nat → Prop} {u U : State} {H : Heap} (hW : u.WarmedH U.vm) (h : rvPx sa sb A u H) : rvPx sa sb A U H := by
  obtain ⟨⟨h1, h2, h3, h4⟩, h5, h8, h6, h7⟩ := h
  exact ⟨⟨va_Nw.warmC hW h1, va_Nw.warmD hW h2, va_Nw.warmD hW h3, va_Nw.warmD hW h4⟩, vk_R.warm hW h5, vk_R.warm hW h8, vx_Zq.moved hW.alike h6, vx_Zq.moved hW.alike h7⟩
theorem rvPx_same {A : Nat → Prop} {u U : State} {H : Heap} (hv : u.vm = U.vm) (h : rvPx sa sb A u H) : rvPx sa sb A U H := by
  obtain ⟨⟨h1, h2, h3, h4⟩, h5, h8, h6, h7⟩ := h
  have hal : u.vm.Alike U.vm := by rw [hv]; exact Vm.Alike.refl _
  exact ⟨⟨va_Nw.same rfl hv h1, va_Nw.same rfl hv h2, va_Nw.same rfl hv h3, va_Nw.same rfl hv h4⟩, vk_R.same hv.symm h5, vk_R.same hv.symm h8, vx_Zq.moved hal h6, vx_Zq.moved hal h7⟩
theorem rvPx_kept {A : Nat → Prop} {U : State} {H H1 : Heap} (h : rvPx sa sb A U H) (hq : ∀ a : Nat, a < H.size → ¬ A a → H1[a]? = H[a]?) : rvPx sa sb A U H1 := ⟨h.1, h.2.1, h.2.2.1, h.2.2.2.1.kept hq, h.2.2.2.2.kept hq⟩
theorem rvPx_narrow {A B : Nat → Prop} {U : State} {H : Heap} (h : rvPx sa sb A U H) (hAB : ∀ q, B q → A q) : rvPx sa sb B U H := ⟨h.1, h.2.1, h.2.2.1, h.2.2.2.1.narrow hAB, h.2.2.2.2.narrow hAB⟩
theorem rvPx_bad {A : Nat → Prop} {U : State} {H : Heap} {args : Array Value} (h : rvPx sa sb A U H) : ∀ w ∈ rvXb, w.before args U = true := by
  obtain ⟨⟨h1, h2, h3, h4⟩, -⟩ := h
  exact vx_c (va_Nw.use rfl h1) (vx_c (va_Nw.use rfl h2) (vx_c (va_Nw.use rfl h3) (vx_c (va_Nw.use rfl h4) vx_n)))
def rvPcx (D : va_G) (cT : Nat → ClassId) (ex : Nat → Nat → Nat) (ws : va_W) (sz : Nat) (xs : List Value) (sa sb : Nat) : Array Value → State → Prop := fun a U => rvPc D cT ex ws sz xs a U ∧ rvPx sa sb (va_A ws sz) U U.heap
theorem rv_blindx {D : va_G} {cT : Nat → ClassId} {ex : Nat → Nat → Nat} {ws : va_W} {sz : Nat} {xs : List Value} : FrameBlind (rvPcx D cT ex ws sz xs sa sb) := fun a U g mk q => ⟨rv_blind a U g mk q.1, rvPx_same (u := U) rfl q.2⟩
theorem rv_prex {D : va_G} {cB : Nat → ClassId} {ex : Nat → Nat → Nat} {A : Nat → Prop} {s : State} {ws : va_W} {H : Heap} {locs : List Loc} {xs : List Value} (hK : va_K D vwCl (rvTys cB) s) (hX : rvKx ex A s s.heap) (hPx : rvPx sa sb A s s.heap) (hA : ∀ q, s.heap.size ≤ q → A q) (hP : va_P D vwCl ws H) (hD : va_D A ws) (hS : va_S A s.heap H locs) : ∀ U : State, U.heap = H → s.WarmedH U.vm → rvPcx D cB ex ws H.size xs sa sb xs.toArray U := by
  intro U hU hW
  refine ⟨rv_pre hK hX hA hP hD hS U hU hW, ?_⟩
  rw [hU]
  exact rvPx_warm hW (rvPx_narrow (rvPx_kept hPx (fun a h1 h2 => hS.2.1 a h1 h2)) (rv_free hD hS hA))
end RVPX
/-- the answer of the class's person; what holds where it throws -/
def psOkL (T0 pl : List Nat) (aw0 aw : rvH) : Prop := ∃ (r : List Int) (T : List Nat), lwInv r T pl aw ∧ lwFr xlM T0 pl aw0 T pl aw
def psOkI (T0 pl : List Nat) (aw0 aw : rvH) : Prop := psOkL T0 pl aw0 aw ∧ exH aw ∧ Fr aw0 aw ∧ Fw aw0 aw
def psPost (T0 pl : List Nat) (aw0 : rvH) (res : xRes2) : Prop := (∃ z : Int, res.1 = some (.inl (z, z))) ∧ psOkI T0 pl aw0 res.2
def psXC (D : va_G) (cT : Nat → ClassId) (ex : Nat → Nat → Nat) (ws : va_W) (sz : Nat) (T0 pl : List Nat) (aw0 : rvH) : String → State → State → Prop := fun E st t => E = rvXn ∧ ∃ (aw : rvH) (w1 : va_W), psOkI T0 pl aw0 aw ∧ (∃ t1, rvAd w1 = rvAd ws ++ t1) ∧ rvWoo cT (rvAd w1) ex aw w1 ∧ va_P D vwCl w1 t.heap ∧ va_D (va_A ws sz) w1 ∧ va_F (va_A ws sz) st t
def psRets : List Nat := [69, 92, 105, 125, 134, 146, 155]
theorem psRd : psRets.all (fun pc => decide (decode cX11_person pc = .ok (.ireturn, 1))) = true := by decide +kernel
noncomputable def psTok (q : xCu) : Bool := xFitK 2 lwId q.1 lwTm && (decide (q.1.2.2.2.2.1.head? = some (0, xlM, [])) && (((q.1.2.2.1.isEmpty && (Nat.beq q.1.1 8 || Nat.beq q.1.1 156)) || (decide (q.1.2.2.1 = [.inl (13, 1, 0)]) && psRets.any (Nat.beq q.1.1))) && (Nat.beq q.1.2.2.2.2.2.2.1 0 && Nat.beq q.1.2.2.2.2.2.2.2 0)))
theorem psTok_all : psL.all psTok = true := by decide +kernel
theorem ps_len {r : List Int} {T pl : List Nat} {aw : rvH} (h : lwInv r T pl aw) : pl.length = 52 := h.1.1.symm
theorem ps_cut {Tm : xS} {src : List (Nat × List Nat × Int)} {rk : List xL} {r2 r0 : List Int} {T0 pl : List Nat} {aw0 : rvH} {o2 : rvS} (hpl : pl.length = 52) (hk : psTok (Tm, src, rk) = true) (hrel : xRelR r2 xRgn (xFM (r0, T0, pl, aw0, [])) Tm o2) : psOkL T0 pl aw0 o2.2.2.2.1 ∧ o2.2.2.2.2.1 = 0 ∧ o2.2.2.2.2.2 = 0 ∧ (((o2.1 = 8 ∨ o2.1 = 156) ∧ o2.2.2.1 = []) ∨ (o2.1 ∈ psRets ∧ ∃ z : Int, o2.2.2.1 = [.inl (z, z)])) := by
  have hk : (xFitK 2 lwId Tm lwTm && (decide (Tm.2.2.2.2.1.head? = some (0, xlM, [])) && (((Tm.2.2.1.isEmpty && (Nat.beq Tm.1 8 || Nat.beq Tm.1 156)) || (decide (Tm.2.2.1 = [.inl (13, 1, 0)]) && psRets.any (Nat.beq Tm.1))) && (Nat.beq Tm.2.2.2.2.2.2.1 0 && Nat.beq Tm.2.2.2.2.2.2.2 0)))) = true := hk
  obtain ⟨k1, k2⟩ := rv_and hk
  obtain ⟨k2, k3⟩ := rv_and k2
  obtain ⟨k3, k4⟩ := rv_and k3
  obtain ⟨k4, k5⟩ := rv_and k4
  obtain ⟨T, pl1, h1, h2, h3, h4, h5, h6, h7, h8, h9⟩ := hrel
  have k2 := of_decide_eq_true k2
  have hmem : ((0, xlM, []) : xF) ∈ Tm.2.2.2.2.1 := List.mem_of_mem_head? (by rw [k2]; exact rfl)
  obtain ⟨-, z2, ⟨u, eu⟩, z4⟩ : (∃ t, r2 = r0 ++ t) ∧ (T0.length ≤ T.length ∧ ∀ i, i < T0.length → T[i]? = T0[i]?) ∧ (∃ t, pl1 = pl ++ t) ∧ xFrm xlM T0 aw0 o2.2.2.2.1 := h6 _ hmem
  have htk : pl1.take 52 = pl := by rw [eu, ← hpl]; simp
  obtain ⟨f1, f2, f3, f4⟩ := xFitK_ok h4 h5 h6 h7 k1
  have f2 : xSt (lwId.map (xVal r2)) T (pl1.take 52) lwAh o2.2.2.2.1 := f2
  have f3 : xHp xRgn T (pl1.take 52) o2.2.2.2.1 := f3
  have f4 : ∀ f ∈ lwFs, f.1 ≠ 0 → ∀ P' : xP, xFM P' f (lwId.map (xVal r2)) T (pl1.take 52) o2.2.2.2.1 := f4
  rw [htk] at f2 f3 f4
  refine ⟨⟨lwId.map (xVal r2), T, ⟨f2, f3, fun f hf P' => f4 f hf ?_ P', f1⟩, z2, rfl, z4⟩, ?_, ?_, ?_⟩
  · have : ∀ f ∈ lwFs, f.1 ≠ 0 := by decide
    exact this f hf
  · rw [h8]; exact rv_beq k4
  · rw [h9]; exact rv_beq k5
  · rcases rv_or' k3 with e | e
    · obtain ⟨e1, e2⟩ := rv_and e
      have e1 : Tm.2.2.1 = [] := List.isEmpty_iff.mp e1
      rw [e1] at h3
      refine Or.inl ⟨?_, xRs_nil h3⟩
      rcases rv_or' e2 with e | e
      · exact Or.inl (h1.trans (rv_beq e))
      · exact Or.inr (h1.trans (rv_beq e))
    · obtain ⟨e1, e2⟩ := rv_and e
      have e1 := of_decide_eq_true e1
      rw [e1] at h3
      obtain ⟨c1, d1, q1, q2, q3⟩ := xRs_cons h3
      obtain ⟨z, rfl, -⟩ := xR_pt q2
      have q4 := xRs_nil q3
      subst q4
      refine Or.inr ⟨?_, z, q1⟩
      obtain ⟨k, hk1, hk2⟩ := List.any_eq_true.mp e2
      rw [h1, rv_beq hk2]
      exact hk1
/-- its rows hold no return, no constructor, no copy, no Math -/
def psRow (e : rvE) : Bool := match e with
  | (i, _, a1, _, a3, _) => (match i with
    | .ireturn => false
    | .lreturn => false
    | .return_ => false
    | .invokespecial _ => false
    | .invokestatic _ => !Nat.beq a3 8 && (rvMth a1).isNone
    | _ => true)
theorem psRows : tb_ps.all (fun ch => ch.2.all (fun q => psRow q.2)) = true := by decide +kernel
theorem psRow_at {pc : Nat} {e : rvE} (h : rvFind2 tb_ps pc = some e) : psRow e = true := by
  obtain ⟨ch, h1, h2⟩ := rvFind2_mem h
  exact List.all_eq_true.mp (List.all_eq_true.mp psRows ch h1) _ h2
theorem psT_ok : rvTk rvYn rvKd 316 RX11 cX11_person false (rvFind2 tb_ps) := rvTc_ok (by decide +kernel)
theorem ps_ne {j : Nat} (h : j < 316) : Nat.beq j 316 = false := by
  cases e : Nat.beq j 316 with
  | true => have := rv_beq e; omega
  | false => rfl
theorem psTab_ne {j : Nat} (h : j < 316) : psTab j = rvTab j := by
  unfold psTab
  rw [ps_ne h]
  rfl
theorem psInf_ne {j : Nat} (h : j < 316) : psInf j = rvInf j := by
  unfold psInf
  rw [ps_ne h]
  rfl
theorem psTab_eq : psTab 316 = rvFind2 tb_ps := rfl
theorem psInf_eq : psInf 316 = psI := rfl
/-- a callee of a checked table is among the checked methods -/
theorem ps_lt {own : String} {cc : ByteArray} {ini : Bool} {tab : Nat → Option rvE} (hT : rvTk rvYn rvKd 316 own cc ini tab) {pc len j2 a2 a3 wi : Nat} {i : Instr} (h : tab pc = some (i, len, j2, a2, a3, wi)) (hi : ((∃ idx, i = .invokestatic idx) ∧ Nat.beq a3 8 = false) ∨ ((∃ idx, i = .invokevirtual idx) ∨ ((∃ idx, i = .invokespecial idx) ∧ Nat.beq a3 9 = false))) : j2 < 316 := by
  obtain ⟨-, -, hk⟩ := hT pc i len j2 a2 a3 wi h
  rcases hi with ⟨⟨idx, rfl⟩, h9⟩ | ⟨idx, rfl⟩ | ⟨⟨idx, rfl⟩, h9⟩
  · have hk : (bif Nat.beq a3 8 then rvW wi (.methodLink own idx arraycopyName) else Nat.blt j2 316 && (Nat.beq (rvKd j2).1 1 && (Nat.beq (rvKd j2).2 a2 && (bif Nat.beq a3 0 then rvW wi (.methodLink own idx (rvYn j2)) else rvNw wi own idx (rvYn j2))))) = true := hk
    rw [h9, cond_false] at hk
    exact rv_blt (rv_and hk).1
  · have hk : (Nat.blt j2 316 && (Nat.beq (rvKd j2).1 0 && (Nat.beq (rvKd j2).2 a2 && rvW wi (.methodLink own idx (rvYn j2))))) = true := hk
    exact rv_blt (rv_and hk).1
  · have hk : (bif Nat.beq a3 9 then rvW wi (.methodLink own idx objectInit) else Nat.blt j2 316 && (Nat.beq (rvKd j2).1 2 && (Nat.beq (rvKd j2).2 a2 && (bif Nat.beq a3 0 then rvW wi (.methodLink own idx (rvYn j2)) else rvNw wi own idx (rvYn j2))))) = true := hk
    rw [h9, cond_false] at hk
    exact rv_blt (rv_and hk).1
theorem ps_inv {tab : Nat → Nat → Option rvE} {info : Nat → rvM} {own : String} {cc : ByteArray} {ini : Bool} {j pc kc ks j2 : Nat} {st as rest : List rvV} {aw : rvH} (hT : rvTk rvYn rvKd 316 own cc ini (tab j)) (h : xInv tab info j pc st aw kc ks j2 as rest) : j2 < 316 := by
  obtain ⟨i, len, a2, a3, wi, as0, rest0, t1, t2, t3, t4, t5, t6, t7, t8⟩ := h
  refine ps_lt hT t1 ?_
  rcases t8 with ⟨q1, q2, -⟩ | ⟨q1, -⟩
  · exact Or.inl ⟨q1, q2⟩
  · exact Or.inr q1
def psGd (RG : rvS → Prop) (Gd : Nat → (xRes2 → Prop) → rvS → Prop) (j : Nat) (Post : xRes2 → Prop) (o : rvS) : Prop := (j < 316 → Gd j Post o) ∧ (j = 316 → RG o)
section PSC
variable {RG : rvS → Prop} {Met : Nat → List rvV → rvH → (xRes2 → Prop) → Prop} {Gd : Nat → (xRes2 → Prop) → rvS → Prop}
theorem psClo (hc : xClo rvTab rvInf rvRet 316 rvMth Gd Met)
    (hS : ∀ (o o' : rvS) (q : Instr) (len a1 a2 a3 wi : Nat), rvFind2 tb_ps o.1 = some (q, len, a1, a2, a3, wi) → rvStep rvTy rvNf rvTxt [] 1 6 3 q a1 a2 a3 o.1 o.2.1 o.2.2.1 o.2.2.2.1 o.2.2.2.2.1 o.2.2.2.2.2 = some o' → RG o' → RG o)
    (hsp : ∀ (pc : Nat) (al st : List rvV) (a : Int × Int) (aw : rvH) (kc ks : Nat), (∀ n, a.1 ≤ n → n ≤ a.2 → xIn32 n → RG (pc, al, .inl (n, n) :: st, aw, kc, ks)) → RG (pc, al, .inl a :: st, aw, kc, ks))
    (hI : ∀ (pc : Nat) (al st : List rvV) (aw : rvH) (kc ks j2 : Nat) (as rest : List rvV) (Q : xRes2 → Prop), xInv psTab psInf 316 pc st aw kc ks j2 as rest → Met j2 as aw Q → (∀ res, Q res → RG (pc + 3, al, res.1.toList ++ rest, res.2, kc + (psInf j2).2.2.1, ks + (psInf j2).2.2.2.1)) → RG (pc, al, st, aw, kc, ks)) : xClo psTab psInf rvRet 317 rvMth (psGd RG Gd) Met := by
  obtain ⟨c1, c2, c3, c4, c5, c6, c7, c8, c9⟩ := hc
  refine ⟨?_, ?_, ?_, ?_, ?_, ?_, ?_, ?_, ?_⟩
  · intro j Post o o' q len a1 a2 a3 wi hj ht hst hG
    refine ⟨fun h => c1 j Post o o' q len a1 a2 a3 wi h (by rw [psTab_ne h] at ht; exact ht) (by rw [psInf_ne h] at hst; exact hst) (hG.1 h), fun h => ?_⟩
    subst h
    exact hS o o' q len a1 a2 a3 wi ht hst (hG.2 rfl)
  · intro j Post pc al st a aw kc ks hG
    exact ⟨fun h => c2 j Post pc al st a aw kc ks (fun n n1 n2 n3 => (hG n n1 n2 n3).1 h), fun h => hsp pc al st a aw kc ks (fun n n1 n2 n3 => (hG n n1 n2 n3).2 h)⟩
  · intro j Post o o' idx len a1 a2 a3 wi hj ht h8 hst hG
    refine ⟨fun h => c3 j Post o o' idx len a1 a2 a3 wi h (by rw [psTab_ne h] at ht; exact ht) h8 (by rw [psInf_ne h] at hst; exact hst) (hG.1 h), fun h => ?_⟩
    subst h
    have hr : (!Nat.beq a3 8 && (rvMth a1).isNone) = true := psRow_at ht
    rw [h8] at hr
    cases hr
  · intro j Post pc al i9 rest aw kc ks idx len a1 a2 a3 wi hj ht h9 hb hG
    refine ⟨fun h => c4 j Post pc al i9 rest aw kc ks idx len a1 a2 a3 wi h (by rw [psTab_ne h] at ht; exact ht) h9 (by rw [psInf_ne h] at hb; exact hb) (hG.1 h), fun h => ?_⟩
    subst h
    have hr : false = true := psRow_at ht
    cases hr
  · intro j Post Q pc al st aw kc ks j2 as rest hj hinv hmet hG
    refine ⟨fun h => ?_, fun h => ?_⟩
    · have hT : rvTk rvYn rvKd 316 (rvYn j).cls (rvCd j) (decide ((rvYn j).name = "<init>")) (psTab j) := by rw [psTab_ne h]; exact rvT_all j h
      have hj2 := ps_inv hT hinv
      refine c5 j Post Q pc al st aw kc ks j2 as rest h ?_ hmet (fun res hq => ?_)
      · obtain ⟨i, len, a2, a3, wi, as0, rest0, t1, t2, t3, t4, t5, t6, t7, t8⟩ := hinv
        rw [psTab_ne h] at t1
        rw [psInf_ne h, psInf_ne hj2] at t3 t4 t5 t6
        rw [psInf_ne hj2] at t8
        exact ⟨i, len, a2, a3, wi, as0, rest0, t1, t2, t3, t4, t5, t6, t7, t8⟩
      · have := (hG res hq).1 h
        rw [psInf_ne hj2] at this
        exact this
    · subst h
      exact hI pc al st aw kc ks j2 as rest Q hinv hmet (fun res hq => (hG res hq).2 rfl)
  · intro j Post pc al st aw kc ks q len a1 a2 a3 wi hj ht hret b1 b2 hp
    refine ⟨fun h => c6 j Post pc al st aw kc ks q len a1 a2 a3 wi h (by rw [psTab_ne h] at ht; exact ht) hret (by rw [psInf_ne h] at b1; exact b1) (by rw [psInf_ne h] at b2; exact b2) hp, fun h => ?_⟩
    subst h
    rcases hret with ⟨e, -⟩ | ⟨e, -⟩ | ⟨e, -⟩
    · subst e
      have hr : false = true := psRow_at ht
      cases hr
    · subst e
      have hr : false = true := psRow_at ht
      cases hr
    · subst e
      have hr : false = true := psRow_at ht
      cases hr
  · intro j Post pc al k x y rest aw kc ks idx len a1 a2 a3 wi hj ht h0 hk hk2 x32 y32 bF bL bc bs hG
    refine ⟨fun h => c7 j Post pc al k x y rest aw kc ks idx len a1 a2 a3 wi h (by rw [psTab_ne h] at ht; exact ht) h0 hk hk2 x32 y32 (by rw [psInf_ne h] at bF; exact bF) (by rw [psInf_ne h] at bL; exact bL) (by rw [psInf_ne h] at bc; exact bc) (by rw [psInf_ne h] at bs; exact bs) (hG.1 h), fun h => ?_⟩
    subst h
    have hr : (!Nat.beq a3 8 && (rvMth a1).isNone) = true := psRow_at ht
    have hr := (rv_and hr).2
    rw [hk] at hr
    cases hr
  · intro j Post pc al x rest aw kc ks idx len a1 a2 a3 wi hj ht h0 hk x32 bF bL bc bs hG
    refine ⟨fun h => c8 j Post pc al x rest aw kc ks idx len a1 a2 a3 wi h (by rw [psTab_ne h] at ht; exact ht) h0 hk x32 (by rw [psInf_ne h] at bF; exact bF) (by rw [psInf_ne h] at bL; exact bL) (by rw [psInf_ne h] at bc; exact bc) (by rw [psInf_ne h] at bs; exact bs) (fun n n1 n2 => (hG n n1 n2).1 h), fun h => ?_⟩
    subst h
    have hr : (!Nat.beq a3 8 && (rvMth a1).isNone) = true := psRow_at ht
    have hr := (rv_and hr).2
    rw [hk] at hr
    cases hr
  · intro j Post as aw hj hmj hen hG
    rcases lw_ge hj with h | h
    · exact c9 j Post as aw h hmj (by rw [psInf_ne h] at hen; exact hen) (by have := hG.1 h; rw [psInf_ne h] at this; exact this)
    · subst h
      rw [lw_m9] at hmj
      cases hmj
/-- the run of the class's person -/
theorem ps_run (hc : xClo psTab psInf rvRet 317 rvMth (psGd RG Gd) Met) (hcon : ∀ x, x < 243 → xCon Met (xCons x)) {r : List Int} {T pl : List Nat} {aw : rvH} {o : rvS} (hrel : xRel xRgn (xFM (r, T, pl, aw, [])) psS o) (hna : 6 ≤ r.length) (hpl : pl.length = 52) (hcut : ∀ o2 : rvS, psOkL T pl aw o2.2.2.2.1 → o2.2.2.2.2.1 = 0 → o2.2.2.2.2.2 = 0 → (((o2.1 = 8 ∨ o2.1 = 156) ∧ o2.2.2.1 = []) ∨ (o2.1 ∈ psRets ∧ ∃ z : Int, o2.2.2.1 = [.inl (z, z)])) → RG o2) : RG o := by
  obtain ⟨Rs, tt, hrun, hR⟩ := xEnds_ok psK
  have hS := xRun_ok (mth := rvMth) (d := 2) (na := 6) (opt := psOpt) (hp := psHp) (hn := xHnt) (cutp := psC) (cuts := fun i => psL[i]?) (ms0 := xlM) (rk0 := none) hc hcon 100000 0 316 false (r, T, pl, aw, []) (fun _ => True) (by omega) rfl
  have hg : psGd RG Gd 316 (fun _ => True) o := by
    refine hS (fun _ => ?_) (fun a ha => by cases ha) hna psS _ Rs tt hrun (fun R hm o' ho' => ?_) o hrel
    · intro ci Tm src rk r2 o2 hL _ hrel2 _
      obtain ⟨k1, k2, k3, k4⟩ := ps_cut hpl (List.all_eq_true.mp psTok_all _ (List.mem_of_getElem? hL)) hrel2
      exact ⟨fun h => absurd h (by omega), fun _ => hcut o2 k1 k2 k3 k4⟩
    · obtain ⟨q, hq, -⟩ := hR R hm
      cases hq
  exact hg.2 rfl
end PSC
theorem psS_eq : psS = (0, [.inr (2, 0), .inl (1, 1, 0), .inl (2, 1, 0)], [], lwAh, (0, xlM, []) :: lwFs, (lwN, lwC), 0, 0) := rfl
theorem ps_v {r : List Int} {T pl : List Nat} (x : Nat) (z : Int) (hx : x < r.length) (hz : r.getD x 0 = z) (h32 : xIn32 z) : xR r T pl (.inl (x, 1, 0)) (.inl (z, z)) := by
  have e : xVal r (xSm (x, 1, 0)) = z := by
    have : xVal r (xSm (x, 1, 0)) = 1 * r.getD x 0 + 0 + 0 := rfl
    rw [this, hz]
    omega
  refine ⟨fun q hq => ?_, by rw [e]; exact h32, by rw [e]⟩
  have hq : q ∈ [(x, (1 : Int))] := hq
  have := List.mem_singleton.mp hq
  subst this
  exact hx
theorem ps_in0 : xIn32 0 := ⟨by omega, by omega⟩
theorem ps_rel {r : List Int} {T pl : List Nat} {aw : rvH} {x0 : Nat} {v1 v2 : Int} (hinv : lwInv r T pl aw) (hp0 : pl[0]? = some x0) (h1 : xIn32 v1) (h2 : xIn32 v2) : ∃ r' : List Int, 6 ≤ r'.length ∧ xRel xRgn (xFM (r', T, pl, aw, [])) psS (0, [.inr (2, x0), .inl (v1, v1), .inl (v2, v2)], [], aw, 0, 0) := by
  have hi := lw_other (i := 0) (v1 := v1) (v2 := v2) (v3 := 0) (v4 := 0) (v5 := 0) hinv (by omega) (by omega) h1 h2 ps_in0 ps_in0 ps_in0
  have hlen := lw_len hi
  obtain ⟨g1, g2, g3, g4⟩ := hi
  refine ⟨_, by rw [hlen]; omega, ?_⟩
  rw [psS_eq]
  refine ⟨_, T, pl, rfl, ⟨⟨x0, hp0, rfl⟩, ps_v 1 v1 (by rw [hlen]; omega) rfl h1, ps_v 2 v2 (by rw [hlen]; omega) rfl h2, trivial⟩, trivial, g1, g2, fun f hf => ?_, g4, rfl, rfl⟩
  rcases List.mem_cons.mp hf with e | hf
  · subst e
    exact ⟨⟨[], (List.append_nil _).symm⟩, ⟨Nat.le_refl _, fun i _ => rfl⟩, ⟨[], (List.append_nil pl).symm⟩, fun i g c hi hcc => ⟨c, hcc, fun j _ => rfl⟩⟩
  · exact g3 f hf _
/-- its rows make what is exact out of what is -/
def exOk (i : Instr) : Bool := match i with
  | .ldc2_w _ => false
  | .anewarray _ => false
  | _ => true
theorem exOk_row {i : Instr} {a1 : Nat} (h : exOk i = true) : exRow i a1 := by
  cases i <;> first | trivial | cases h
theorem psExs : tb_ps.all (fun ch => ch.2.all (fun q => exOk q.2.1)) = true := by decide +kernel
theorem psEx {pc : Nat} {i : Instr} {len a1 a2 a3 wi : Nat} (h : rvFind2 tb_ps pc = some (i, len, a1, a2, a3, wi)) : exRow i a1 := by
  obtain ⟨ch, h1, h2⟩ := rvFind2_mem h
  exact exOk_row (List.all_eq_true.mp (List.all_eq_true.mp psExs ch h1) _ h2)
theorem lwFr_refl {ms T pl : List Nat} {aw : rvH} : lwFr ms T pl aw T pl aw := ⟨⟨Nat.le_refl _, fun _ _ => rfl⟩, rfl, fun _ _ c _ b => ⟨c, b, fun _ _ => rfl⟩⟩
/-- the answer's row is written -/
theorem lw_out {r : List Int} {T pl : List Nat} {aw : rvH} {x3 : Nat} {d : rvV} {ov : List (Nat × rvV)} {n : Int64} (h : lwInv r T pl aw) (hx : exH aw) (hp : pl[51]? = some x3) (hrow : aw[x3]? = some (.inr (3, 1, d, ov))) : ∃ (r' : List Int) (T' : List Nat), lwInv r' T' pl (aw.set x3 (.inr (3, 1, d, rvUp ov 0 (.inr (1, rvLe n))))) ∧ lwFr xlM T pl aw T' pl (aw.set x3 (.inr (3, 1, d, rvUp ov 0 (.inr (1, rvLe n))))) ∧ exH (aw.set x3 (.inr (3, 1, d, rvUp ov 0 (.inr (1, rvLe n))))) := by
  have hs : xStl xRgn (xFkk 1) 1 (9, [], [.inr (1, 0), .inl (0, 0, 0), .inr (2, 51)], lwAh, (0, xlM, []) :: lwFs, (lwN, lwC), 1, 6) = some [(10, [], [], lwAh, (0, xlM, []) :: lwFs, (lwN, lwC), 1, 6)] := rfl
  have hl : pl.length = 52 := h.1.1.symm
  have hrel : xRel xRgn (xFM (r, T, pl, aw, [])) (9, [], [.inr (1, 0), .inl (0, 0, 0), .inr (2, 51)], lwAh, (0, xlM, []) :: lwFs, (lwN, lwC), 1, 6) (9, [], [.inr (1, rvLe n), .inl (0, 0), .inr (2, x3)], aw, 1, 6) := by
    refine ⟨r, T, pl, rfl, trivial, ⟨⟨rvLe n, rfl⟩, xR_K _ _ _ ps_in0, ⟨x3, hp, rfl⟩, trivial⟩, h.1, h.2.1, fun f hf => ?_, h.2.2.2, rfl, rfl⟩
    rcases List.mem_cons.mp hf with e | hf
    · subst e
      exact ⟨⟨[], (List.append_nil _).symm⟩, ⟨Nat.le_refl _, fun i _ => rfl⟩, ⟨[], (List.append_nil pl).symm⟩, fun i g c hi hcc => ⟨c, hcc, fun j _ => rfl⟩⟩
    · exact h.2.2.1 f hf _
  have hstep : rvStep rvTy rvNf rvTxt [] 1 6 5 (.lastore) 0 0 0 9 [] [.inr (1, rvLe n), .inl (0, 0), .inr (2, x3)] aw 1 6 = some (10, [], [], aw.set x3 (.inr (3, 1, d, rvUp ov 0 (.inr (1, rvLe n)))), 1, 6) := by
    show (match aw[x3]? with
      | some (.inr (3, n9, d, ov)) => (match rvIdx (0, 0) n9 with
        | some j => some (9 + 1, ([] : List rvV), ([] : List rvV), aw.set x3 (.inr (3, n9, d, rvUp ov j (.inr (1, rvLe n)))), 1, 6)
        | none => none)
      | _ => none) = _
    rw [hrow]
    rfl
  rcases xp_lastore (sc := []) (BC := 1) (BS := 6) (mL := 5) (a1 := 0) (a2 := 0) (a3 := 0) (xFkk_ok _ 1 xRgn) hs hrel with ⟨o', S', e, m, hr'⟩ | ⟨pc, al, st, a, aw', kc, ks, e, -⟩
  · have e : rvStep rvTy rvNf rvTxt [] 1 6 5 (.lastore) 0 0 0 9 [] [.inr (1, rvLe n), .inl (0, 0), .inr (2, x3)] aw 1 6 = some o' := e
    rw [hstep] at e
    have e := Option.some.inj e
    subst e
    have m := List.mem_singleton.mp m
    subst m
    obtain ⟨r', T', pl', -, -, -, g1, g2, g3, g4, -, -⟩ := hr'
    have g1 : xSt r' T' pl' lwAh (aw.set x3 (.inr (3, 1, d, rvUp ov 0 (.inr (1, rvLe n))))) := g1
    obtain ⟨-, z2, ⟨u, eu⟩, z4⟩ : (∃ t, r' = r ++ t) ∧ (T.length ≤ T'.length ∧ ∀ i, i < T.length → T'[i]? = T[i]?) ∧ (∃ t, pl' = pl ++ t) ∧ xFrm xlM T aw (aw.set x3 (.inr (3, 1, d, rvUp ov 0 (.inr (1, rvLe n))))) := g3 _ List.mem_cons_self
    have hl' : pl'.length = 52 := g1.1.symm
    have hu : u = [] := by
      rw [eu, List.length_append, hl] at hl'
      exact List.eq_nil_of_length_eq_zero (by omega)
    subst hu
    rw [List.append_nil] at eu
    subst eu
    refine ⟨r', T', ⟨g1, g2, fun f hf P' => ?_, g4⟩, ⟨z2, rfl, z4⟩, ?_⟩
    · have h0 := g3 f (List.mem_cons_of_mem _ hf)
      have hne : ∀ f ∈ lwFs, f.1 ≠ 0 ∧ f.1 ≠ 1 ∧ f.1 ≠ 3 := by decide
      obtain ⟨n0, n1, n3⟩ := hne f hf
      obtain ⟨k, ns, vs⟩ := f
      match k, n0, n1, n3, h0 with
      | 0, n0, _, _, _ => exact absurd rfl n0
      | 1, _, n1, _, _ => exact absurd rfl n1
      | 2, _, _, _, h0 => exact h0
      | 3, _, _, n3, _ => exact absurd rfl n3
      | k + 4, _, _, _, h0 => exact h0
    · have hc := exH_get hx hrow
      exact exH_set hx ⟨hc.1, ex_up (exE_L ⟨n, rfl⟩) hc.2⟩
  · have e : rvStep rvTy rvNf rvTxt [] 1 6 5 (.lastore) 0 0 0 9 [] [.inr (1, rvLe n), .inl (0, 0), .inr (2, x3)] aw 1 6 = _ := e
    rw [hstep] at e
    have e := Option.some.inj e
    have e := congrArg (fun o : rvS => o.2.2.1) e
    cases e
/-- its rows keep the towns -/
def psNt (e : rvE) : Bool := hmOk e.1 e.2.2.1 e.2.2.2.1 && (nw11 e.1 e.2.2.1 && clRow ntS e)
theorem psNts : tb_ps.all (fun ch => ch.2.all (fun q => psNt q.2)) = true := by decide +kernel
theorem psNt_at {pc : Nat} {e : rvE} (h : rvFind2 tb_ps pc = some e) : psNt e = true := by
  obtain ⟨ch, h1, h2⟩ := rvFind2_mem h
  exact List.all_eq_true.mp (List.all_eq_true.mp psNts ch h1) _ h2
