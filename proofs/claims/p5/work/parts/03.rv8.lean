/-! Runs and methods: what rvRun and rvExec answer holds of the machine. -/
section RVR
variable {p : Program} {l : Launch} {e : Env} {R : Room} {s : State} {m : MethodId} {args : Array Value} {below : List Frame} {meth : Method} {c : Code} {Q : State → Prop} {cc : ByteArray} {own : String} {mL : Nat} {D : va_G} {cT cB : Nat → ClassId} {ex : Nat → Nat → Nat} {A : Nat → Prop} {sc : List (Int × Int)} {ini : Bool}
variable {yn : Nat → MethodName} {cd : Nat → ByteArray} {info : Nat → rvM} {rets : Nat → Option FieldType} {kd : Nat → Nat × Nat} {NM : Nat} {call : Nat → List rvV → rvH → rvO} {tab : Nat → Option rvE}
set_option maxHeartbeats 4000000 in
set_option maxRecDepth 100000 in
theorem rvCopy_ok (C : rvCx p s m args meth c cc own mL D cT ex A ini sc) (hB : rvBase) {BF BL wi pc kc ks idx : Nat} {al st : List rvV} {aw : rvH} {o : rvS} (hd : decode cc pc = .ok (.invokestatic idx, 3)) (hk : rvW wi (.methodLink own idx arraycopyName) = true) (hBF : BF ≤ R.frames) (hBL : BL ≤ R.locals)
    (h : rvCopy BF BL pc al st aw kc ks = some o) (k : rvG p l e R s m args below meth c Q D cT ex A mL o) : rvG p l e R s m args below meth c Q D cT ex A mL (pc, al, st, aw, kc, ks) := by
  obtain ⟨hx, hb, hml, hown, hts, hK, hA, hX, hini, hsc⟩ := C
  obtain ⟨-, -, hb3, hb4, hb5⟩ := hB
  intro ws H locs ls stk hw hl hs hP hD hS
  dsimp only at hw hl hs ⊢
  have hls : ls.size = mL := by obtain ⟨-, l9, h9, -⟩ := hl; exact h9.1
  unfold rvCopy at h
  split at h
  · rename_i n dp x0 sp y0 rst
    obtain ⟨y1, stk1, rfl, ⟨n1, rfl, p1, q1⟩, hs1⟩ := rvRs_cons hs
    obtain ⟨y2, stk2, rfl, ⟨n2, rfl, p2, q2⟩, hs2⟩ := rvRs_cons hs1
    obtain ⟨y3, stk3, rfl, ⟨qd, hqd, rfl⟩, hs3⟩ := rvRs_cons hs2
    obtain ⟨y4, stk4, rfl, ⟨n4, rfl, p4, q4⟩, hs4⟩ := rvRs_cons hs3
    obtain ⟨y5, stk5, rfl, ⟨qs, hqs, rfl⟩, hs5⟩ := rvRs_cons hs4
    split at h
    · rename_i m0 d ov m1 d1 ov1 hc1 hc2
      obtain ⟨hc, rfl⟩ := rv_bif h
      obtain ⟨c1, hc⟩ := rv_and hc
      obtain ⟨c2, hc⟩ := rv_and hc
      obtain ⟨c3, hc⟩ := rv_and hc
      obtain ⟨c4, hc⟩ := rv_and hc
      obtain ⟨c5, hc⟩ := rv_and hc
      obtain ⟨c6, hc⟩ := rv_and hc
      obtain ⟨c7, hc⟩ := rv_and hc
      obtain ⟨c8, hc⟩ := rv_and hc
      obtain ⟨c9, c10⟩ := rv_and hc
      have c3 := rv_beq c3
      subst c3
      have c2 := of_decide_eq_true c2
      have c5 := of_decide_eq_true c5
      have c7 := of_decide_eq_true c7
      have c8 := rv_ble c8
      have c9 := rv_ble c9
      have c10 := rv_blt c10
      obtain ⟨e1, -⟩ := rv_one c1 p1 q1
      obtain ⟨e2, -⟩ := rv_one c4 p2 q2
      obtain ⟨e4, -⟩ := rv_one c6 p4 q4
      obtain ⟨⟨as, es⟩, hqs1, hces⟩ := rvWo_get hw hc1
      obtain ⟨⟨adr, ed⟩, hqd1, hced⟩ := rvWo_get hw hc2
      have hqa := rvAd_ref hqs1 hqs
      subst hqa
      have hqb := rvAd_ref hqd1 hqd
      subst hqb
      rcases hces with ⟨-, f, hes, hf⟩ | ⟨h0, -⟩ | ⟨h0, -⟩
      · rcases hced with ⟨-, g, hed, hg⟩ | ⟨h0, -⟩ | ⟨h0, -⟩
        · have hes : es = .inl (cT 0, m0, .inl f) := hes
          subst hes
          have hed : ed = .inl (cT 0, m0, .inl g) := hed
          subst hed
          have z1 : ∀ z : Int32, z.toInt = 0 → ¬ z < 0 ∧ z.toNatClampNeg = 0 := fun z hz => ⟨by
            rw [Int32.lt_iff_toInt_lt]
            show ¬ z.toInt < 0
            omega, by
            show z.toInt.toNat = 0
            omega⟩
          obtain ⟨w1, w2⟩ := z1 n4 (by omega)
          obtain ⟨w3, w4⟩ := z1 n2 (by omega)
          have w5 : ¬ n1 < 0 := by
            rw [Int32.lt_iff_toInt_lt]
            show ¬ n1.toInt < 0
            omega
          have w6 : n1.toNatClampNeg = m0 := by
            show n1.toInt.toNat = m0
            omega
          refine va_copyi (D := D) hx hb (by rw [hml, hls]) hown (hts _ (rvW_ok hk)) (hts _ hb3) (hts _ hb4) (hts _ hb5) hK hP hD hS y0 x0 0 0 hqs1 hqd1 rfl rfl rfl w1 w3 w5 (by rw [w2, w6]; omega) (by rw [w4, w6]; omega) (fun i _ => rfl) (by omega) ?_ hd (fun H1 locs1 hP1 hD1 hS1 => ?_)
          · rw [rvRs_wd hs5]
            have : nativeFrameWords "java/lang/System" "arraycopy" 5 + 11 ≤ 60 := by decide +kernel
            omega
          · have ea := rvAd_set (e := .inl (cT 0, m0, .inl (va_cpy f g n4.toNatClampNeg n2.toNatClampNeg n1.toNatClampNeg))) hqd1
            refine k _ H1 locs1 ls stk5 ?_ ?_ ?_ hP1 hD1 hS1
            · rw [ea]
              refine rvWo_set hw (Or.inl ⟨by decide, _, rfl, fun j hj => ?_⟩)
              have ej : va_cpy f g n4.toNatClampNeg n2.toNatClampNeg n1.toNatClampNeg j = f j := by
                rw [w2, w4, w6]
                exact sb_cpy0 hj
              rw [ej]
              exact hf j hj
            · rw [ea]; exact hl
            · rw [ea]; exact hs5
        · exact absurd h0 (by decide)
        · exact absurd h0 (by decide)
      · exact absurd h0 (by decide)
      · exact absurd h0 (by decide)
    · cases h
  · cases h
set_option maxHeartbeats 4000000 in
set_option maxRecDepth 100000 in
theorem rvNext_ok (C : rvCx p s m args meth c cc own mL D cT ex A ini sc) (hB : rvBase) (hcB : ∀ q, q < 6 → cB q = cT q) (hM : ∀ j, j < NM → rvMp yn cd info rets kd j) (hcall : ∀ j as aw r, j < NM → call j as aw = some r → rvMet l D cB ex yn cd info rets j as aw r) (hT : rvTk yn kd NM own cc ini tab)
    {stop BF BC BS BL pc kc ks : Nat} {al st : List rvV} {aw : rvH} {o : rvS} (hBF : BF ≤ R.frames) (hBC : BC ≤ R.cells) (hBS : BS ≤ R.slots) (hBL : BL ≤ R.locals)
    (h : rvNext rvTy rvNf rvTxt sc call info tab stop BF BC BS BL mL pc al st aw kc ks = some (some o)) (k : rvG p l e R s m args below meth c Q D cT ex A mL o) : rvG p l e R s m args below meth c Q D cT ex A mL (pc, al, st, aw, kc, ks) := by
  unfold rvNext at h
  cases hst : Nat.beq pc stop with
  | true => rw [hst] at h; cases h
  | false =>
    rw [hst] at h
    simp only [cond_false] at h
    split at h
    · cases h
    · rename_i i len a1 a2 a3 wi htab
      obtain ⟨hd, hk1, hk2⟩ := hT pc i len a1 a2 a3 wi htab
      split at h
      · cases h
      · cases h
      · cases h
      · cases h
      · rename_i idx
        split at h
        · rename_i s9 hs9
          cases h
          exact rvInv_ok C hcB hM hcall hd hk2 (Or.inl ⟨idx, rfl, rfl⟩) hBF hBC hBS hBL hs9 k
        · cases h
      · rename_i idx
        cases h9 : Nat.beq a3 9 with
        | true =>
          rw [h9] at h
          simp only [cond_true] at h
          split at h
          · rename_i z rst
            cases hcc : (Nat.ble 1 BF && Nat.ble (rvWd rst + 12) BL) with
            | false => rw [hcc] at h; cases h
            | true =>
              rw [hcc] at h
              cases h
              obtain ⟨c1, c2⟩ := rv_and hcc
              have c1 := rv_ble c1
              have c2 := rv_ble c2
              have hk2 : (bif Nat.beq a3 9 then rvW wi (.methodLink own idx objectInit) else Nat.blt a1 NM && (Nat.beq (kd a1).1 2 && (Nat.beq (kd a1).2 a2 && (bif Nat.beq a3 0 then rvW wi (.methodLink own idx (yn a1)) else rvNw wi own idx (yn a1))))) = true := hk2
              rw [h9] at hk2
              obtain ⟨hx, hb, hml, hown, hts, hK, hA, hX, hini, hsc⟩ := C
              intro ws H locs ls stk hw hl hs hP hD hS
              dsimp only at hw hl hs ⊢
              have hls : ls.size = mL := by obtain ⟨-, l9, hz9, -⟩ := hl; exact hz9.1
              obtain ⟨x, stk1, rfl, ⟨q, hq, rfl⟩, hs1⟩ := rvRs_cons hs
              refine W.objInit hx hb hown (hts _ (rvW_ok hk2)) (hts _ hB.1) (hts _ hB.2.1) rfl (by rw [hml]; exact hls) rfl hd (by omega) ?_ ?_
              · show 2 * 0 + (stk1.map fun v => v.category).sum + 12 ≤ R.locals
                rw [rvRs_wd hs1]
                omega
              · exact W.eq (g2 := F0 m (pc + 3) ls stk1) rfl (k ws H locs ls _ hw hl hs1 hP hD hS)
          · cases h
        | false =>
          rw [h9] at h
          simp only [cond_false] at h
          split at h
          · rename_i s9 hs9
            cases h
            exact rvInv_ok C hcB hM hcall hd hk2 (Or.inr (Or.inl ⟨idx, rfl, rfl, h9⟩)) hBF hBC hBS hBL hs9 k
          · cases h
      · rename_i idx
        cases h9 : Nat.beq a3 8 with
        | true =>
          rw [h9] at h
          simp only [cond_true] at h
          have hk2 : (bif Nat.beq a3 8 then rvW wi (.methodLink own idx arraycopyName) else Nat.blt a1 NM && (Nat.beq (kd a1).1 1 && (Nat.beq (kd a1).2 a2 && (bif Nat.beq a3 0 then rvW wi (.methodLink own idx (yn a1)) else rvNw wi own idx (yn a1))))) = true := hk2
          rw [h9] at hk2
          split at h
          · rename_i s9 hs9
            cases h
            exact rvCopy_ok C hB hd hk2 hBF hBL hs9 k
          · cases h
        | false =>
          rw [h9] at h
          simp only [cond_false] at h
          split at h
          · rename_i s9 hs9
            cases h
            exact rvInv_ok C hcB hM hcall hd hk2 (Or.inr (Or.inr ⟨idx, rfl, rfl, h9⟩)) hBF hBC hBS hBL hs9 k
          · cases h
      · split at h
        · rename_i s9 hs9
          cases h
          exact rvStep_ok C hd hk1 hBC hBS hs9 k
        · cases h
theorem rvRun_ok (C : rvCx p s m args meth c cc own mL D cT ex A ini sc) (hB : rvBase) (hcB : ∀ q, q < 6 → cB q = cT q) (hM : ∀ j, j < NM → rvMp yn cd info rets kd j) (hcall : ∀ j as aw r, j < NM → call j as aw = some r → rvMet l D cB ex yn cd info rets j as aw r) (hT : rvTk yn kd NM own cc ini tab)
    {stop BF BC BS BL : Nat} (hBF : BF ≤ R.frames) (hBC : BC ≤ R.cells) (hBS : BS ≤ R.slots) (hBL : BL ≤ R.locals) {o : rvS} (k : rvG p l e R s m args below meth c Q D cT ex A mL o) :
    ∀ (n pc : Nat) (al st : List rvV) (aw : rvH) (kc ks : Nat), rvRun rvTy rvNf rvTxt sc call info tab stop BF BC BS BL mL n pc al st aw kc ks = some o → rvG p l e R s m args below meth c Q D cT ex A mL (pc, al, st, aw, kc, ks)
  | 0, pc, al, st, aw, kc, ks, h => by
      have h : some (pc, al, st, aw, kc, ks) = some o := h
      cases h
      exact k
  | n + 1, pc, al, st, aw, kc, ks, h => by
      have h : (match rvNext rvTy rvNf rvTxt sc call info tab stop BF BC BS BL mL pc al st aw kc ks with
        | none => none
        | some none => some (pc, al, st, aw, kc, ks)
        | some (some (pc, al, st, aw, kc, ks)) => rvRun rvTy rvNf rvTxt sc call info tab stop BF BC BS BL mL n pc al st aw kc ks) = some o := h
      split at h
      · cases h
      · cases h
        exact k
      · rename_i pc1 al1 st1 aw1 kc1 ks1 hn
        exact rvNext_ok C hB hcB hM hcall hT hBF hBC hBS hBL hn (rvRun_ok C hB hcB hM hcall hT hBF hBC hBS hBL k n pc1 al1 st1 aw1 kc1 ks1 h)
end RVR
section RVM
variable {l : Launch} {D : va_G} {cB : Nat → ClassId} {ex : Nat → Nat → Nat} {yn : Nat → MethodName} {cd : Nat → ByteArray} {info : Nat → rvM} {rets : Nat → Option FieldType} {kd : Nat → Nat × Nat} {NM : Nat} {tabs : Nat → Nat → Option rvE} {orc : Nat → List rvV → rvH → rvO}
set_option maxHeartbeats 4000000 in
set_option maxRecDepth 100000 in
/-- a method by a run of its body -/
theorem rvBody_ok {call : Nat → List rvV → rvH → rvO} (hB : rvBase) (hM : ∀ j, j < NM → rvMp yn cd info rets kd j) (hT : ∀ j, j < NM → rvTk yn kd NM (yn j).cls (cd j) (decide ((yn j).name = "<init>")) (tabs j))
    (hcall : ∀ j as aw r, j < NM → call j as aw = some r → rvMet l D cB ex yn cd info rets j as aw r) {n j : Nat} (hj : j < NM) (hpn : plainName (yn j).cls = true) {as : List rvV} {aw : rvH} {r : Option rvV × rvH} (hent : rvLen (rvEnt as) ≤ (info j).1)
    (h : rvEnd (tabs j) (rets j) (info j).2.2.1 (info j).2.2.2.1 (rvRun rvTy rvNf rvTxt [] call info (tabs j) 99999999 (info j).2.1 (info j).2.2.1 (info j).2.2.2.1 (info j).2.2.2.2.1 (info j).1 n 0 (rvEnt as ++ List.replicate ((info j).1 - rvLen (rvEnt as)) rvU) [] aw 0 0) = some r) : rvMet l D cB ex yn cd info rets j as aw r := by
  intro ws xs sz hw hxs
  refine Met.ofW (cc := cd j) (maxL := (info j).1) (ret := rets j) hpn rfl ?_
  intro p e s m args below meth c s₁ B hml hv
  obtain ⟨rfl, hsz, hP, hK, hD0, hX⟩ := hv
  subst hsz
  have hx := B.exec
  have hb := B.bytes
  have hr := B.returns
  have hlocks := B.notSynchronized
  have hown : s.vm.findClass (yn j).cls = some m.cls := findClass_of_methodNamed B.named
  have hts : ∀ w ∈ rvWl, w.before xs.toArray s = true := fun w hw9 => atoms_spec (ws := Cond.code (yn j) (cd j) (info j).1 (rets j) :: rvWl) B.pre w (List.mem_cons_of_mem _ hw9)
  have hnm : meth.name = (yn j).name := (name_of_methodNamed B.named B.method).1
  have hD := hD0.self (sz := s.heap.size)
  have hA : ∀ q : Nat, s.heap.size ≤ q → va_A ws s.heap.size q := fun q h9 => Or.inr h9
  have hcB : ∀ q, q < 6 → cB q = rvCt cB (rvAd ws) q := rvCt_c cB (rvAd ws)
  have C : rvCx p s m xs.toArray meth c (cd j) (yn j).cls (info j).1 D (rvCt cB (rvAd ws)) ex (va_A ws s.heap.size) (decide ((yn j).name = "<init>")) [] :=
    ⟨hx, hb, hml, hown, hts, by rw [rvTys_c hcB]; exact hK, hA, hX, fun q => by rw [hnm]; exact of_decide_eq_true q, Or.inl rfl⟩
  unfold rvEnd at h
  split at h
  · rename_i pc1 al1 st1 aw1 kc1 ks1 hrun
    cases hbud : (Nat.ble kc1 (info j).2.2.1 && Nat.ble ks1 (info j).2.2.2.1) with
    | false => rw [hbud] at h; cases h
    | true =>
      rw [hbud] at h
      simp only [cond_true] at h
      obtain ⟨b1, b2⟩ := rv_and hbud
      have b1 := rv_ble b1
      have b2 := rv_ble b2
      have key : rvG p l e (headSpec (Cond.code (yn j) (cd j) (info j).1 (rets j) :: rvWl) (rvRm (info j))).room s m xs.toArray below meth c (MQ below (rvQ D cB ex ws s.heap.size r) xs.toArray s (info j).2.2.1 (info j).2.2.2.1 (va_A ws s.heap.size)) D (rvCt cB (rvAd ws)) ex (va_A ws s.heap.size) (info j).1 (pc1, al1, st1, aw1, kc1, ks1) := by
        intro ws1 H locs ls stk hw1 hl1 hs1 hP1 hD1 hS1
        dsimp only at hw1 hl1 hs1 ⊢
        obtain ⟨hw2, t1, ht1⟩ := rvWo_out hw1
        refine W.widen (k := (info j).2.2.1) (n := (info j).2.2.2.1) b1 b2 ?_
        split at h
        · rename_i i0 rst htab
          obtain ⟨hd, -, -⟩ := hT j hj pc1 .ireturn _ _ _ _ _ htab
          split at h
          · rename_i a ty hty
            obtain ⟨hc, rfl⟩ := rv_bif h
            obtain ⟨x, stk1, rfl, ⟨n1, rfl, p1, q1⟩, hs2⟩ := rvRs_cons hs1
            have hnil := rvRs_nil hs2
            subst hnil
            obtain ⟨g1, -⟩ := rvFit_ok (ad := rvAd ws1) (ex := ex) hc ⟨n1, rfl, p1, q1⟩
            exact W.zret hx hb (hr.trans hty) g1 (fun t ht hW => ⟨_, ws1, rfl, ⟨t1, ht1⟩, hw2, ⟨n1, rfl, p1, q1⟩, by rw [ht]; exact hP1, hD1, hS1.F ht⟩) hS1.2.2 hd
          · cases h
        · rename_i i0 rst htab
          obtain ⟨hd, -, -⟩ := hT j hj pc1 .lreturn _ _ _ _ _ htab
          split at h
          · rename_i z hty
            cases h
            obtain ⟨x, stk1, rfl, ⟨n1, rfl, hq1⟩, hs2⟩ := rvRs_cons hs1
            have hnil := rvRs_nil hs2
            subst hnil
            exact W.lret hx hb (hr.trans hty) (fun t ht hW => ⟨_, ws1, rfl, ⟨t1, ht1⟩, hw2, ⟨n1, rfl, hq1⟩, by rw [ht]; exact hP1, hD1, hS1.F ht⟩) hS1.2.2 hd
          · cases h
        · rename_i i0 rst htab
          obtain ⟨hd, -, -⟩ := hT j hj pc1 .return_ _ _ _ _ _ htab
          split at h
          · rename_i hty
            cases h
            have hnil := rvRs_nil hs1
            subst hnil
            exact W.vret hx hb (hr.trans hty) (fun t ht hW => ⟨none, ws1, rfl, ⟨t1, ht1⟩, hw2, trivial, by rw [ht]; exact hP1, hD1, hS1.F ht⟩) hS1.2.2 hd
          · cases h
        · cases h
      have hg := rvRun_ok C hB hcB hM hcall (hT j hj) (Nat.le_refl (info j).2.1) (Nat.le_refl (info j).2.2.1) (Nat.le_refl (info j).2.2.2.1) (Nat.le_refl (info j).2.2.2.2.1) key n 0 _ [] aw 0 0 hrun
      rw [lg_entry_eq]
      exact hg ws s.heap [] _ [] (rvWo_in hw) (rvLo_entry hxs hent) trivial hP hD va_S.rf
  · cases h
theorem rvExec_ok (hpn : ∀ j, j < NM → plainName (yn j).cls = true) (hB : rvBase) (hM : ∀ j, j < NM → rvMp yn cd info rets kd j) (hT : ∀ j, j < NM → rvTk yn kd NM (yn j).cls (cd j) (decide ((yn j).name = "<init>")) (tabs j))
    (horc : ∀ j as aw r, j < NM → orc j as aw = some r → rvMet l D cB ex yn cd info rets j as aw r) (n : Nat) : ∀ (d j : Nat) (as : List rvV) (aw : rvH) (r : Option rvV × rvH), j < NM → rvExec rvTy rvNf rvTxt orc info rets tabs n d j as aw = some r → rvMet l D cB ex yn cd info rets j as aw r
  | 0, j, as, aw, r, hj, h => horc j as aw r hj h
  | d + 1, j, as, aw, r, hj, h => by
      have h : (match orc j as aw with
        | some r => some r
        | none => match info j with
          | (mL, fr, ce, sl, lo, _) => bif Nat.ble (rvLen (rvEnt as)) mL then rvEnd (tabs j) (rets j) ce sl (rvRun rvTy rvNf rvTxt [] (rvExec rvTy rvNf rvTxt orc info rets tabs n d) info (tabs j) 99999999 fr ce sl lo mL n 0 (rvEnt as ++ List.replicate (mL - rvLen (rvEnt as)) rvU) [] aw 0 0) else none) = some r := h
      split at h
      · rename_i r9 h9
        cases h
        exact horc j as aw r hj h9
      · rcases hinf : info j with ⟨mL, fr, ce, sl, lo, cls⟩
        rw [hinf] at h
        dsimp only at h
        cases hb : Nat.ble (rvLen (rvEnt as)) mL with
        | false => rw [hb] at h; cases h
        | true =>
          rw [hb] at h
          simp only [cond_true] at h
          refine rvBody_ok hB hM hT (fun j9 as9 aw9 r9 hj9 h9 => rvExec_ok hpn hB hM hT horc n d j9 as9 aw9 r9 hj9 h9) (n := n) hj (hpn j hj) (by rw [hinf]; exact rv_ble hb) ?_
          rw [hinf]
          exact h
end RVM
