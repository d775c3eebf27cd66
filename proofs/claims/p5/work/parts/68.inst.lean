/-! The machine closes the checker's runs. -/
def rvGd (l : Launch) (D : va_G) (cB : Nat → ClassId) (ex : Nat → Nat → Nat) (yn : Nat → MethodName) (cd : Nat → ByteArray) (info : Nat → rvM) (rets : Nat → Option FieldType) (j : Nat) (Post : xRes2 → Prop) (o : rvS) : Prop :=
  ∀ (p : Program) (e : Env) (s : State) (m : MethodId) (below : List Frame) (meth : Method) (c : Code) (ws : va_W) (xs : List Value), rvCx p s m xs.toArray meth c (cd j) (yn j).cls (info j).1 D (rvCt cB (rvAd ws)) ex (va_A ws s.heap.size) (decide ((yn j).name = "<init>")) [] → meth.sig.returnType = rets j → meth.locks = false →
    rvG p l e (headSpec (Cond.code (yn j) (cd j) (info j).1 (rets j) :: rvWl) (rvRm (info j))).room s m xs.toArray below meth c (MQ below (rvQP D cB ex ws s.heap.size Post) xs.toArray s (info j).2.2.1 (info j).2.2.2.1 (va_A ws s.heap.size)) D (rvCt cB (rvAd ws)) ex (va_A ws s.heap.size) (info j).1 o
/-- Math.max (0), Math.min (1), Math.abs (2) -/
def rvMk (yn : Nat → MethodName) (cd : Nat → ByteArray) (info : Nat → rvM) (rets : Nat → Option FieldType) (j k : Nat) : Prop :=
  (k = 0 ∧ yn j = Lib.Math.max.name ∧ cd j = Lib.Math.max.code ∧ (info j).1 = 2 ∧ rets j = some .int) ∨ (k = 1 ∧ yn j = Lib.Math.min.name ∧ cd j = Lib.Math.min.code ∧ (info j).1 = 2 ∧ rets j = some .int) ∨ (k = 2 ∧ yn j = Lib.Math.abs.name ∧ cd j = Lib.Math.abs.code ∧ (info j).1 = 1 ∧ rets j = some .int)
theorem rvRs_wd' {ad : List Nat} {ex : Nat → Nat → Nat} {vs : List rvV} {xs : List Value} {n b : Nat} (h : rvRs ad ex vs xs) (hb : rvWd vs + n ≤ b) : (xs.map fun v => v.category).sum + n ≤ b := by
  rw [rvRs_wd h]
  exact hb
section XINS
variable {l : Launch} {D : va_G} {cB : Nat → ClassId} {ex : Nat → Nat → Nat} {yn : Nat → MethodName} {cd : Nat → ByteArray} {info : Nat → rvM} {rets : Nat → Option FieldType} {kd : Nat → Nat × Nat} {NM : Nat} {tabs : Nat → Nat → Option rvE}
theorem rv_bne (n : Nat) : Nat.beq n (n + 1) = false := by
  cases h : Nat.beq n (n + 1) with
  | false => rfl
  | true => have := rv_beq h; omega
set_option maxHeartbeats 4000000 in
set_option maxRecDepth 100000 in
theorem rvClo {mth : Nat → Option Nat} (hpn : ∀ j, j < NM → mth j = none → plainName (yn j).cls = true) (hmt : ∀ j k, j < NM → mth j = some k → rvMk yn cd info rets j k) (hB : rvBase) (hM : ∀ j, j < NM → rvMp yn cd info rets kd j) (hT : ∀ j, j < NM → rvTk yn kd NM (yn j).cls (cd j) (decide ((yn j).name = "<init>")) (tabs j)) : xClo tabs info rets NM mth (rvGd l D cB ex yn cd info rets) (rvMetP l D cB ex yn cd info rets) := by
  refine ⟨?_, ?_, ?_, ?_, ?_, ?_, ?_, ?_, ?_⟩
  · intro j Post o o' i len a1 a2 a3 wi hj htab hst hG p e s m below meth c ws xs C hr hlocks
    obtain ⟨hd, hk, -⟩ := hT j hj o.1 i len a1 a2 a3 wi htab
    exact rvStep_ok C hd hk (Nat.le_refl (info j).2.2.1) (Nat.le_refl (info j).2.2.2.1) hst (hG p e s m below meth c ws xs C hr hlocks)
  · intro j Post pc al st a aw kc ks hG p e s m below meth c ws xs C hr hlocks
    intro ws1 H locs ls stk hw hl hs hP hD hS
    dsimp only at hw hl hs ⊢
    obtain ⟨x, stk1, rfl, ⟨n, rfl, p1, p2⟩, hs1⟩ := rvRs_cons hs
    exact hG n.toInt p1 p2 (xi_in n) p e s m below meth c ws xs C hr hlocks ws1 H locs ls (.int n :: stk1) hw hl ⟨⟨n, rfl, Int.le_refl _, Int.le_refl _⟩, hs1⟩ hP hD hS
  · intro j Post o o' idx len a1 a2 a3 wi hj htab h8 hst hG p e s m below meth c ws xs C hr hlocks
    have hcB : ∀ q, q < 6 → cB q = rvCt cB (rvAd ws) q := rvCt_c cB (rvAd ws)
    refine rvNext_ok (call := fun _ _ _ => none) (stop := o.1 + 1) (BF := (info j).2.1) (BC := (info j).2.2.1) (BS := (info j).2.2.2.1) (BL := (info j).2.2.2.2.1) C hB hcB hM (fun j9 as9 aw9 r9 _ h9 => by cases h9) (hT j hj) (Nat.le_refl _) (Nat.le_refl _) (Nat.le_refl _) (Nat.le_refl _) ?_ (hG p e s m below meth c ws xs C hr hlocks)
    unfold rvNext
    rw [rv_bne, htab]
    show (bif Nat.beq a3 8 then _ else _) = _
    rw [h8, cond_true, hst]
  · intro j Post pc al i rest aw kc ks idx len a1 a2 a3 wi hj htab h9 hbud hG p e s m below meth c ws xs C hr hlocks
    have hcB : ∀ q, q < 6 → cB q = rvCt cB (rvAd ws) q := rvCt_c cB (rvAd ws)
    refine rvNext_ok (call := fun _ _ _ => none) (stop := pc + 1) (BF := (info j).2.1) (BC := (info j).2.2.1) (BS := (info j).2.2.2.1) (BL := (info j).2.2.2.2.1) C hB hcB hM (fun j9 as9 aw9 r9 _ h9 => by cases h9) (hT j hj) (Nat.le_refl _) (Nat.le_refl _) (Nat.le_refl _) (Nat.le_refl _) ?_ (hG p e s m below meth c ws xs C hr hlocks)
    unfold rvNext
    rw [rv_bne, htab]
    show (bif Nat.beq a3 9 then (bif Nat.ble 1 (info j).2.1 && Nat.ble (rvWd rest + 12) (info j).2.2.2.2.1 then _ else _) else _) = _
    rw [h9, cond_true, hbud, cond_true]
  · intro j Post Q pc al st aw kc ks j2 as rest hj hinv hmet hG p e s m below meth c ws xs C hr hlocks
    have hcB : ∀ q, q < 6 → cB q = rvCt cB (rvAd ws) q := rvCt_c cB (rvAd ws)
    exact rvInvP_ok (BC := 0) (BS := 0) (BF := 0) (BL := 0) C hcB hM (hT j hj) (Nat.le_refl _) (Nat.le_refl _) (Nat.le_refl _) (Nat.le_refl _) hinv hmet (fun r hQ => hG r hQ p e s m below meth c ws xs C hr hlocks)
  · intro j Post pc al st aw kc ks i len a1 a2 a3 wi hj htab hret b1 b2 hpost p e s m below meth c ws xs C hr hlocks
    obtain ⟨hx, hb, hml, hown, hts, hK, hA, hX, hini, hsc⟩ := C
    obtain ⟨hd, -, -⟩ := hT j hj pc i len a1 a2 a3 wi htab
    intro ws1 H locs ls stk hw1 hl1 hs1 hP1 hD1 hS1
    dsimp only at hw1 hl1 hs1 ⊢
    obtain ⟨hw2, t1, ht1⟩ := rvWo_out hw1
    refine W.widen (k := (info j).2.2.1) (n := (info j).2.2.2.1) b1 b2 ?_
    rcases hret with ⟨rfl, a, ty, rfl, hty, hfit⟩ | ⟨rfl, z, rfl, hty⟩ | ⟨rfl, rfl, hty⟩
    · obtain ⟨x, stk1, rfl, ⟨n1, rfl, p1, q1⟩, hs2⟩ := rvRs_cons hs1
      have hnil := rvRs_nil hs2
      subst hnil
      obtain ⟨g1, -⟩ := rvFit_ok (ad := rvAd ws1) (ex := ex) hfit ⟨n1, rfl, p1, q1⟩
      exact W.zret hx hb (hr.trans hty) g1 (fun t ht hW => ⟨_, hpost, _, ws1, rfl, ⟨t1, ht1⟩, hw2, ⟨n1, rfl, p1, q1⟩, by rw [ht]; exact hP1, hD1, hS1.F ht⟩) hS1.2.2 hd
    · obtain ⟨x, stk1, rfl, ⟨n1, rfl, hq1⟩, hs2⟩ := rvRs_cons hs1
      have hnil := rvRs_nil hs2
      subst hnil
      exact W.lret hx hb (hr.trans hty) (fun t ht hW => ⟨_, hpost, _, ws1, rfl, ⟨t1, ht1⟩, hw2, ⟨n1, rfl, hq1⟩, by rw [ht]; exact hP1, hD1, hS1.F ht⟩) hS1.2.2 hd
    · have hnil := rvRs_nil hs1
      subst hnil
      exact W.vret hx hb (hr.trans hty) (fun t ht hW => ⟨_, hpost, none, ws1, rfl, ⟨t1, ht1⟩, hw2, trivial, by rw [ht]; exact hP1, hD1, hS1.F ht⟩) hS1.2.2 hd
  · intro j Post pc al k x y rest aw kc ks idx len a1 a2 a3 wi hj htab h0 hk hk2 x32 y32 bF bL bc bs hG p e s m below meth c ws xs C hr hlocks
    have hg := hG p e s m below meth c ws xs C hr hlocks
    obtain ⟨hd, -, hck⟩ := hT j hj pc _ len a1 a2 a3 wi htab
    obtain ⟨hx, hb, hml, hown, hts, hK, hA, hX, hini, hsc⟩ := C
    have h0 := rv_beq h0
    subst h0
    have hck : (Nat.blt a1 NM && (Nat.beq (kd a1).1 1 && (Nat.beq (kd a1).2 a2 && rvW wi (.methodLink (yn j).cls idx (yn a1))))) = true := hck
    obtain ⟨g1, g2⟩ := rv_and hck
    obtain ⟨g2, g3⟩ := rv_and g2
    obtain ⟨g3, g4⟩ := rv_and g3
    have g1 := rv_blt g1
    obtain ⟨-, -, m5, m6, -, m7, -⟩ := hM a1 g1
    have m8 := m7 (rv_beq g2)
    have m4 := rvW_ok g4
    intro ws1 H locs ls stk hw hl hs hP hD hS
    dsimp only at hw hl hs ⊢
    have hls : ls.size = (info j).1 := by obtain ⟨-, l9, h9, -⟩ := hl; exact h9.1
    obtain ⟨v1, stk1, rfl, ⟨ny, rfl, p1, p2⟩, hs1⟩ := rvRs_cons hs
    obtain ⟨v2, stk2, rfl, ⟨nx, rfl, p3, p4⟩, hs2⟩ := rvRs_cons hs1
    have ey : ny.toInt = y := Int.le_antisymm p2 p1
    have ex9 : nx.toInt = x := Int.le_antisymm p4 p3
    rcases hmt a1 k g1 hk with ⟨rfl, hy, hcd, hi1, hrt⟩ | ⟨rfl, hy, hcd, hi1, hrt⟩ | ⟨rfl, -⟩
    · rw [hy] at m4 m8
      rw [hy, hcd, hi1, hrt] at m5
      rw [hy] at m6
      refine va_mmax hx hb (hml.trans hls.symm) hown (hts _ m4) (hts _ m8) (hts _ m6) (hts _ m5) bF (rvRs_wd' hs2 bL) bc bs hd (hg ws1 H locs ls (.int (if nx < ny then ny else nx) :: stk2) hw hl ⟨⟨_, rfl, ?_, ?_⟩, hs2⟩ hP hD hS)
      all_goals
        show _ ≤ _
        have e : (if nx < ny then ny else nx).toInt = (if x < y then y else x) := by
          by_cases hlt : nx < ny
          · have h2 := Int32.lt_iff_toInt_lt.mp hlt
            rw [if_pos hlt, if_pos (by omega), ey]
          · have h2 : ¬ nx.toInt < ny.toInt := fun h9 => hlt (Int32.lt_iff_toInt_lt.mpr h9)
            rw [if_neg hlt, if_neg (by omega), ex9]
        first | exact Int.le_of_eq e.symm | exact Int.le_of_eq e
    · rw [hy] at m4 m8
      rw [hy, hcd, hi1, hrt] at m5
      rw [hy] at m6
      refine va_mmin hx hb (hml.trans hls.symm) hown (hts _ m4) (hts _ m8) (hts _ m6) (hts _ m5) bF (rvRs_wd' hs2 bL) bc bs hd (hg ws1 H locs ls (.int (if ny < nx then ny else nx) :: stk2) hw hl ⟨⟨_, rfl, ?_, ?_⟩, hs2⟩ hP hD hS)
      all_goals
        show _ ≤ _
        have e : (if ny < nx then ny else nx).toInt = (if y < x then y else x) := by
          by_cases hlt : ny < nx
          · have h2 := Int32.lt_iff_toInt_lt.mp hlt
            rw [if_pos hlt, if_pos (by omega), ey]
          · have h2 : ¬ ny.toInt < nx.toInt := fun h9 => hlt (Int32.lt_iff_toInt_lt.mpr h9)
            rw [if_neg hlt, if_neg (by omega), ex9]
        first | exact Int.le_of_eq e.symm | exact Int.le_of_eq e
    · omega
  · intro j Post pc al x rest aw kc ks idx len a1 a2 a3 wi hj htab h0 hk x32 bF bL bc bs hG p e s m below meth c ws xs C hr hlocks
    have hg := fun n n32 hn => hG n n32 hn p e s m below meth c ws xs C hr hlocks
    obtain ⟨hd, -, hck⟩ := hT j hj pc _ len a1 a2 a3 wi htab
    obtain ⟨hx, hb, hml, hown, hts, hK, hA, hX, hini, hsc⟩ := C
    have h0 := rv_beq h0
    subst h0
    have hck : (Nat.blt a1 NM && (Nat.beq (kd a1).1 1 && (Nat.beq (kd a1).2 a2 && rvW wi (.methodLink (yn j).cls idx (yn a1))))) = true := hck
    obtain ⟨g1, g2⟩ := rv_and hck
    obtain ⟨g2, g3⟩ := rv_and g2
    obtain ⟨g3, g4⟩ := rv_and g3
    have g1 := rv_blt g1
    obtain ⟨-, -, m5, m6, -, m7, -⟩ := hM a1 g1
    have m8 := m7 (rv_beq g2)
    have m4 := rvW_ok g4
    intro ws1 H locs ls stk hw hl hs hP hD hS
    dsimp only at hw hl hs ⊢
    have hls : ls.size = (info j).1 := by obtain ⟨-, l9, h9, -⟩ := hl; exact h9.1
    obtain ⟨v2, stk2, rfl, ⟨nx, rfl, p3, p4⟩, hs2⟩ := rvRs_cons hs
    have ex9 : nx.toInt = x := Int.le_antisymm p4 p3
    rcases hmt a1 2 g1 hk with ⟨h9, -⟩ | ⟨h9, -⟩ | ⟨-, hy, hcd, hi1, hrt⟩
    · omega
    · omega
    · rw [hy] at m4 m8
      rw [hy, hcd, hi1, hrt] at m5
      rw [hy] at m6
      have z0 : (0 : Int32).toInt = 0 := by decide
      refine va_mabs hx hb (hml.trans hls.symm) hown (hts _ m4) (hts _ m8) (hts _ m6) (hts _ m5) bF (rvRs_wd' hs2 bL) bc bs hd (hg (if 0 ≤ nx then nx else 0 - nx).toInt (xi_in _) ?_ ws1 H locs ls (.int (if 0 ≤ nx then nx else 0 - nx) :: stk2) hw hl ⟨⟨_, rfl, Int.le_refl _, Int.le_refl _⟩, hs2⟩ hP hD hS)
      intro n32
      by_cases hlt : 0 ≤ nx
      · have h2 := Int32.le_iff_toInt_le.mp hlt
        rw [z0] at h2
        rw [if_pos hlt, if_pos (by omega), ex9]
      · have h2 : ¬ (0 : Int32).toInt ≤ nx.toInt := fun h9 => hlt (Int32.le_iff_toInt_le.mpr h9)
        rw [z0] at h2
        rw [if_neg hlt, if_neg (by omega), Int32.toInt_sub, z0, ex9]
        have e2 : (0 : Int) - x = -x := by omega
        rw [e2]
        exact xi_bmod n32
  · intro j Post as aw hj hmj hent hG ws xs sz hw hxs
    refine Met.ofW (cc := cd j) (maxL := (info j).1) (ret := rets j) (hpn j hj hmj) rfl ?_
    intro p e s m args below meth c s₁ B hml hv
    obtain ⟨rfl, hsz, hP, hK, hD0, hX⟩ := hv
    subst hsz
    have hx := B.exec
    have hb := B.bytes
    have hr := B.returns
    have hlocks := B.notSynchronized
    have hown : s.vm.findClass (yn j).cls = some m.cls := findClass_of_methodNamed B.named
    have hts : ∀ w ∈ rvWl, w.before xs.toArray s = true := fun w hw9 => atoms_spec (ws := Cond.code (yn j) (cd j) (info j).1 (rets j) :: rvWl) B.pre w (List.mem_cons_of_mem _ hw9)
    have hnm : meth.name = (yn j).name := (name_of_methodNamed B.named B.method).1
    have hD := hD0.self (sz := s.heap.size)
    have hA : ∀ q : Nat, s.heap.size ≤ q → va_A ws s.heap.size q := fun q h9 => Or.inr h9
    have hcB : ∀ q, q < 6 → cB q = rvCt cB (rvAd ws) q := rvCt_c cB (rvAd ws)
    have C : rvCx p s m xs.toArray meth c (cd j) (yn j).cls (info j).1 D (rvCt cB (rvAd ws)) ex (va_A ws s.heap.size) (decide ((yn j).name = "<init>")) [] :=
      ⟨hx, hb, hml, hown, hts, by rw [rvTys_c hcB]; exact hK, hA, hX, fun q => by rw [hnm]; exact of_decide_eq_true q, Or.inl rfl⟩
    have hg := hG p e s m below meth c ws xs C hr hlocks
    rw [lg_entry_eq]
    exact hg ws s.heap [] _ [] (rvWo_in hw) (rvLo_entry hxs hent) trivial hP hD va_S.rf
end XINS
