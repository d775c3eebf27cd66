def R_law : String := "OboeDistrictLaw"
def lw_P (b : Addr) (xs : List Int32) (args : Array Value) (s : State) : Prop := args = #[.ref b] ∧ s.IntsAt b xs ∧ xs.length ≤ 3072 ∧ (Jvm.Cond.and given_1 narrow_1).before args s = true
def lw_Q (_ : Array Value) (s : State) (o : Outcome) (t : State) : Prop := o = .returned (some (.int 1)) ∧ Framed s o t [] 601024 7293034
def lw_Z (below : List Frame) (a : Array Value) (s : State) : State → Prop := fun t => ∃ o, t.status = .running ∧ Ended t below o ∧ lw_Q a s o t
/-- the law's own end, with 1 on the stack, nothing written that was there before, its room as the claim has it -/
theorem lw_ret {p : Program} {l : Launch} {e : Env} {s : State} {m : MethodId} {below : List Frame} {meth : Method} {c : Code} {b : Nat} (hx : p.tables.exec = Jvm.exec) (hb : c.code = code) (hr : meth.sig.returnType = ret) (hlocks : meth.locks = false) {pc : Nat} {H : Heap} {ls : Array Slot} (hdg : decode code pc = .ok (.ireturn, 1)) : W p l e room_1 s m #[Value.ref b] below meth c H [] 601024 7293034 (lw_Z below #[Value.ref b] s) (F0 m pc ls [.int 1]) := by
  intro T hT X
  obtain ⟨fs, hret, hrun, hended, hW, hframe⟩ := X.leave (v := some (.int 1)) (hlocks := hlocks) (fun h => by rw [hr] at h; cases h)
  have hmeth' : T.vm.method? m = some meth := X.method'
  refine ⟨T.setFrames fs, ?_, .returned (some (.int 1)), hrun, hended, rfl, ⟨_, rfl⟩, hW, hframe⟩
  jvm_step X.here [X.here.top, hx, hb, hdg, hmeth', hr, ret, narrow_b1]
  (try refine ⟨rfl, ?_⟩); (try refine ⟨rfl, ?_⟩)
  first | (intro acts; rw [hret _ acts rfl rfl rfl]) | rw [hret _ _ rfl rfl rfl]
  exact Steps.refl _
/-- what holds at the law's entry: the machine, the code, the tables' words (any of lw_tbl by 'hts w (by decide +kernel)'), the script of L ints xs at the cell b, what the Statement gives of the start (any of its parts by flat_of_before) -/
def lw_At (p : Program) (s : State) (m : MethodId) (meth : Method) (c : Code) (b L : Nat) (xs : Nat → Int32) : Prop :=
  p.tables.exec = Jvm.exec ∧ c.code = code ∧ meth.sig.returnType = ret ∧ c.maxLocals = 7 ∧ s.vm.findClass R_law = some m.cls ∧ (∀ w ∈ lw_tbl, w.before #[Value.ref b] s = true) ∧ va_X b L xs s s.heap ∧ b < s.heap.size ∧ meth.locks = false ∧ (Jvm.Cond.and given_1 narrow_1).before #[Value.ref b] s = true
/-! What the machine gives of the law. -/
theorem lw_metP {l : Launch} {D : va_G} {cT : Nat → ClassId} {ex : Nat → Nat → Nat} {j : Nat} {as : List rvV} {aw : rvH} {Post : xRes2 → Prop} (hj : j < 316) (h : rvMetP l D cT ex rvYn rvCd rvInf rvRet j as aw Post) : rvMetP l D cT ex rvYn rvCd lwInf rvRet j as aw Post := by
  unfold rvMetP at h ⊢
  rw [lwInf_ne hj]
  exact h
theorem lw_mp {j : Nat} (hj : j < 316) : rvMp rvYn rvCd lwInf rvRet rvKd j := by
  have h := rvM_all j hj
  unfold rvMp at h ⊢
  rw [lwInf_ne hj]
  exact h
theorem lwd_26 : decode cL_law 26 = .ok (.arraylength, 1) := by decide +kernel
theorem lwd_1455 : decode cL_law 1455 = .ok (.ireturn, 1) := by decide +kernel
theorem lw_b1 : (rvInf 316).2.1 ≤ 2048 := by decide +kernel
theorem lw_b2 : (rvInf 316).2.2.2.2.1 ≤ 84000 := by decide +kernel
section LWM
variable {p : Program} {l : Launch} {e : Env} {s : State} {m : MethodId} {args : Array Value} {below : List Frame} {meth : Method} {c : Code} {Q : State → Prop} {D : va_G} {cT : Nat → ClassId} {ex : Nat → Nat → Nat} {A : Nat → Prop} {sc : List (Int × Int)} {xs : Nat → Int32}
theorem lw_mS (C : rvCx p s m args meth c cL_law RL 7 D cT ex A false sc) : lwS (rvG p l e room_1 s m args below meth c Q D cT ex A 7) sc := by
  intro pc al st aw kc ks i len a1 a2 a3 wi o hd hk hst hG
  exact rvStep_ok C hd (rv_and hk).1 (show 600000 ≤ 601024 by decide) (show 7000000 ≤ 7293034 by decide) hst hG
/-- the same, all instructions -/
theorem lw_mSf (C : rvCx p s m args meth c cL_law RL 7 D cT ex A false sc) : lwSf (rvG p l e room_1 s m args below meth c Q D cT ex A 7) sc := by
  intro pc al st aw kc ks i len a1 a2 a3 wi o hd hk hst hG
  exact rvStep_ok C hd hk (show 600000 ≤ 601024 by decide) (show 7000000 ≤ 7293034 by decide) hst hG
theorem lw_mI (C : rvCx p s m args meth c cL_law RL 7 D cT ex A false sc) : lwI (rvG p l e room_1 s m args below meth c Q D cT ex A 7) (rvMetP l D cT ex rvYn rvCd rvInf rvRet) := by
  intro pc al st aw kc ks j2 as rest Qp hj hinv hmet hG
  refine rvInvP_ok (BC := 0) (BS := 0) (BF := 0) (BL := 0) (yn := rvYn) (cd := rvCd) (info := lwInf) (rets := rvRet) (kd := rvKd) (NM := 316) (tab := fun _ => lwTb) (j := 316) (cB := cT) C (fun _ _ => rfl) (fun j hj => lw_mp hj) (lwTk lw_rows) ?_ ?_ ?_ ?_ hinv (lw_metP hj hmet) (fun r hr => ?_)
  · rw [lwInf_eq]; exact lw_b1
  · rw [lwInf_eq]; show 600000 ≤ 601024; decide
  · rw [lwInf_eq]; show 7000000 ≤ 7293034; decide
  · rw [lwInf_eq]; exact lw_b2
  · rw [lwInf_ne hj]; exact hG r hr
theorem lw_msp : ∀ (pc : Nat) (al st : List rvV) (a : Int × Int) (aw : rvH) (kc ks : Nat), (∀ n, a.1 ≤ n → n ≤ a.2 → xIn32 n → rvG p l e room_1 s m args below meth c Q D cT ex A 7 (pc, al, .inl (n, n) :: st, aw, kc, ks)) → rvG p l e room_1 s m args below meth c Q D cT ex A 7 (pc, al, .inl a :: st, aw, kc, ks) := by
  intro pc al st a aw kc ks hG ws1 H locs ls stk hw hl hs hP hD hS
  dsimp only at hw hl hs ⊢
  obtain ⟨x, stk1, rfl, ⟨n, rfl, p1, p2⟩, hs1⟩ := rvRs_cons hs
  exact hG n.toInt p1 p2 (xi_in n) ws1 H locs ls (.int n :: stk1) hw hl ⟨⟨n, rfl, Int.le_refl _, Int.le_refl _⟩, hs1⟩ hP hD hS
theorem lw_mL (C : rvCx p s m args meth c cL_law RL 7 D cT ex A false sc) (hX : va_X (ex 5 0) sc.length xs s s.heap) (hbl : ex 5 0 < s.heap.size) (hbA : ¬ A (ex 5 0)) (hL : sc.length ≤ 3072) : ∀ (al st : List rvV) (aw : rvH) (kc ks : Nat), rvG p l e room_1 s m args below meth c Q D cT ex A 7 (27, al, .inl ((sc.length : Int), (sc.length : Int)) :: st, aw, kc, ks) → rvG p l e room_1 s m args below meth c Q D cT ex A 7 (26, al, .inr (5, 0) :: st, aw, kc, ks) := by
  obtain ⟨hx, hb, hml, hown, hts, hK, hA, hKx, hini, hsc⟩ := C
  intro al st aw kc ks k ws H locs ls stk hw hl hs hP hD hS
  dsimp only at hw hl hs ⊢
  obtain ⟨x, stk1, rfl, hv, hs1⟩ := rvRs_cons hs
  have hv : x = .ref (ex 5 0) := hv
  subst hv
  exact va_slen hx hb hX hbl hbA hS lwd_26 (k ws H locs ls _ hw hl ⟨rvR_K (by exact nI_toInt (by omega)), hs1⟩ hP hD hS)
theorem lw_mE {b : Nat} (C : rvCx p s m #[Value.ref b] meth c cL_law RL 7 D cT ex A false sc) (hr : meth.sig.returnType = ret) (hlocks : meth.locks = false) (hA9 : A = fun q : Nat => s.heap.size ≤ q) : ∀ (al : List rvV) (aw : rvH) (kc ks : Nat), kc ≤ 600000 → ks ≤ 7000000 → rvG p l e room_1 s m #[Value.ref b] below meth c (lw_Z below #[Value.ref b] s) D cT ex A 7 (1455, al, [.inl (1, 1)], aw, kc, ks) := by
  subst hA9
  obtain ⟨hx, hb, hml, hown, hts, hK, hA, hKx, hini, hsc⟩ := C
  intro al aw kc ks hkc hks ws H locs ls stk hw hl1 hs hP hD hS
  dsimp only at hw hl1 hs ⊢
  obtain ⟨y, stk1, rfl, ⟨n1, rfl, p1, q1⟩, hs1⟩ := rvRs_cons hs
  have hnil := rvRs_nil hs1
  subst hnil
  have e1 : n1 = 1 := by
    have p1 : (1 : Int) ≤ n1.toInt := p1
    have q1 : n1.toInt ≤ (1 : Int) := q1
    exact Int32.toInt_inj.mp (by show n1.toInt = 1; omega)
  subst e1
  exact va_forget hS.2.2 (W.widen (k := 601024) (n := 7293034) (by omega) (by omega) (lw_ret hx hb hr hlocks lwd_1455))
end LWM
