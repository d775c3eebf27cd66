/-! Calls, runs and methods. -/
def rvOp (ad : List Nat) (ex : Nat → Nat → Nat) : Option rvV → Option Value → Prop
  | none, none => True
  | some a, some x => rvR ad ex a x
  | _, _ => False
def rvQ (D : va_G) (cT : Nat → ClassId) (ex : Nat → Nat → Nat) (ws : va_W) (sz : Nat) (r : Option rvV × rvH) : Array Value → State → Outcome → State → Prop := fun _ st oc t =>
  ∃ (v : Option Value) (w1 : va_W), oc = .returned v ∧ (∃ t1, rvAd w1 = rvAd ws ++ t1) ∧ rvWoo cT (rvAd w1) ex r.2 w1 ∧ rvOp (rvAd w1) ex r.1 v ∧ va_P D vwCl w1 t.heap ∧ va_D (va_A ws sz) w1 ∧ va_F (va_A ws sz) st t
def rvPc (D : va_G) (cT : Nat → ClassId) (ex : Nat → Nat → Nat) (ws : va_W) (sz : Nat) (xs : List Value) : Array Value → State → Prop :=
  va_Pc xs (fun U => U.heap.size = sz ∧ va_P D vwCl ws U.heap ∧ va_K D vwCl (rvTys cT) U ∧ va_D (fun _ => True) ws ∧ rvKx ex (va_A ws sz) U U.heap)
def rvRm (i : rvM) : Room := { frames := i.2.1, cells := i.2.2.1, slots := i.2.2.2.1, locals := i.2.2.2.2.1 }
/-- the contract of a method: what rvExec answers of it -/
def rvMet (l : Launch) (D : va_G) (cT : Nat → ClassId) (ex : Nat → Nat → Nat) (yn : Nat → MethodName) (cd : Nat → ByteArray) (info : Nat → rvM) (rets : Nat → Option FieldType) (j : Nat) (as : List rvV) (aw : rvH) (r : Option rvV × rvH) : Prop :=
  ∀ (ws : va_W) (xs : List Value) (sz : Nat), rvWoo cT (rvAd ws) ex aw ws → rvRs (rvAd ws) ex as xs →
    Met l (yn j) (.code (yn j) (cd j) (info j).1 (rets j) :: rvWl) (rvRm (info j)) (rvPc D cT ex ws sz xs) (rvQ D cT ex ws sz r) (info j).2.2.1 (info j).2.2.2.1 (va_A ws sz)
/-- what the tables say of a method -/
def rvMp (yn : Nat → MethodName) (cd : Nat → ByteArray) (info : Nat → rvM) (rets : Nat → Option FieldType) (kd : Nat → Nat × Nat) (j : Nat) : Prop :=
  True ∧ ((yn j).cls ≠ "java/lang/invoke/MethodHandle" ∧ (yn j).cls ≠ "java/lang/invoke/VarHandle" ∧ (parseMethodDescriptor (yn j).desc).map (fun d => d.parameters.length) = some (kd j).2) ∧
  Cond.code (yn j) (cd j) (info j).1 (rets j) ∈ rvWl ∧ Cond.initialized (yn j).cls ∈ rvWl ∧
  ((kd j).1 = 0 → Cond.instanceMethod (yn j) ∈ rvWl ∧ Cond.selects (yn j).cls (yn j) (yn j) ∈ rvWl ∧ (((info j).2.2.2.2.2 < 13 ∧ rvCn (info j).2.2.2.2.2 = (yn j).cls) ∨ ((info j).2.2.2.2.2 = 100 ∧ (yn j).cls = "java/lang/String"))) ∧
  ((kd j).1 = 1 → Cond.static (yn j) ∈ rvWl) ∧ ((kd j).1 = 2 → Cond.instanceMethod (yn j) ∈ rvWl ∧ (yn j).name = "<init>" ∧ rets j = none)
def rvNw (wi : Nat) (own : String) (idx : Nat) (y : MethodName) : Bool := match lw_tbl[wi]? with
  | some (.methodLinkNest ow k y' _) => decide (ow = own) && (Nat.beq k idx && decide (y' = y))
  | _ => false
theorem rvNw_ok {wi idx : Nat} {own : String} {y : MethodName} (h : rvNw wi own idx y = true) : ∃ host, Cond.methodLinkNest own idx y host ∈ rvNl := by
  unfold rvNw at h
  split at h
  · rename_i ow k y' host he
    obtain ⟨h1, h2⟩ := rv_and h
    obtain ⟨h2, h3⟩ := rv_and h2
    have e1 := of_decide_eq_true h1
    have e2 := rv_beq h2
    have e3 := of_decide_eq_true h3
    subst e1; subst e2; subst e3
    exact ⟨host, List.mem_filter.mpr ⟨List.mem_of_getElem? he, rfl⟩⟩
  · cases h
/-- what a call links to -/
def rvCk (yn : Nat → MethodName) (kd : Nat → Nat × Nat) (NM : Nat) (own : String) (i : Instr) (a1 a2 a3 wi : Nat) : Bool := match i with
  | .invokevirtual idx => Nat.blt a1 NM && (Nat.beq (kd a1).1 0 && (Nat.beq (kd a1).2 a2 && rvW wi (.methodLink own idx (yn a1))))
  | .invokespecial idx => bif Nat.beq a3 9 then rvW wi (.methodLink own idx objectInit) else Nat.blt a1 NM && (Nat.beq (kd a1).1 2 && (Nat.beq (kd a1).2 a2 && (bif Nat.beq a3 0 then rvW wi (.methodLink own idx (yn a1)) else rvNw wi own idx (yn a1))))
  | .invokestatic idx => bif Nat.beq a3 8 then rvW wi (.methodLink own idx arraycopyName) else Nat.blt a1 NM && (Nat.beq (kd a1).1 1 && (Nat.beq (kd a1).2 a2 && (bif Nat.beq a3 0 then rvW wi (.methodLink own idx (yn a1)) else rvNw wi own idx (yn a1))))
  | _ => true
def rvTk (yn : Nat → MethodName) (kd : Nat → Nat × Nat) (NM : Nat) (own : String) (cc : ByteArray) (ini : Bool) (tab : Nat → Option rvE) : Prop :=
  ∀ (pc : Nat) (i : Instr) (len a1 a2 a3 wi : Nat), tab pc = some (i, len, a1, a2, a3, wi) → decode cc pc = .ok (i, rvSz i len) ∧ rvAux own ini i a1 a2 wi = true ∧ rvCk yn kd NM own i a1 a2 a3 wi = true
/-- the words of Object's constructor and of arraycopy -/
def rvBase : Prop := Cond.instanceMethod objectInit ∈ rvWl ∧ Cond.code objectInit ⟨#[0xb1]⟩ 1 none ∈ rvWl ∧ Cond.native arraycopyName ∈ rvWl ∧ Cond.static arraycopyName ∈ rvWl ∧ Cond.initialized "java/lang/System" ∈ rvWl
theorem rvGood_cons {w : Cond} {ws : List Cond} (h : w ∈ rvWl) (h2 : GoodIn rvWl ws) : GoodIn rvWl (w :: ws) := fun v hv => (List.mem_cons.mp hv).elim (fun e => by rw [e]; exact ⟨h, good_of_word (rvWl_good w h)⟩) (h2 v)
theorem rvGood_self : GoodIn rvWl rvWl := fun w h => ⟨h, good_of_word (rvWl_good w h)⟩
theorem rvOp_rs {ad : List Nat} {ex : Nat → Nat → Nat} {a : Option rvV} {v : Option Value} {rs : List rvV} {xs : List Value} (h : rvOp ad ex a v) (hs : rvRs ad ex rs xs) : rvRs ad ex (a.toList ++ rs) (v.toList ++ xs) := by
  cases a with
  | none =>
    cases v with
    | none => exact hs
    | some x => exact absurd h id
  | some a =>
    cases v with
    | none => exact absurd h id
    | some x => exact ⟨h, hs⟩
section RVC
variable {p : Program} {l : Launch} {e : Env} {R : Room} {s : State} {m : MethodId} {args : Array Value} {below : List Frame} {meth : Method} {c : Code} {Q : State → Prop} {cc : ByteArray} {own : String} {mL : Nat} {D : va_G} {cT cB : Nat → ClassId} {ex : Nat → Nat → Nat} {A : Nat → Prop} {sc : List (Int × Int)} {ini : Bool}
variable {yn : Nat → MethodName} {cd : Nat → ByteArray} {info : Nat → rvM} {rets : Nat → Option FieldType} {kd : Nat → Nat × Nat} {NM : Nat} {call : Nat → List rvV → rvH → rvO}
/-- which cells a callee may change are among the caller's -/
theorem rv_free {ws : va_W} {H : Heap} {locs : List Loc} (hD : va_D A ws) (hS : va_S A s.heap H locs) (hA : ∀ q, s.heap.size ≤ q → A q) : ∀ q, va_A ws H.size q → A q := by
  intro q h
  rcases h with ⟨k, e0, h⟩ | h
  · exact hD.2 k (q, e0) h
  · exact hA q (Nat.le_trans hS.1 h)
theorem rv_go {ws : va_W} {H : Heap} {locs : List Loc} {kc ks mc ms pc : Nat} {ls : Array Slot} {st0 rest : List Value} {a : Array Value} {r : Option rvV × rvH} {aw : rvH} {al rst : List rvV} (hA : ∀ q, s.heap.size ≤ q → A q) (hcB : ∀ q, q < 6 → cB q = cT q)
    (hr : va_Run p l e R s m args below meth c H locs kc ks mc ms (F0 m pc ls st0) rest (rvQ D cB ex ws H.size r a) (va_A ws H.size)) (hw : rvWo cT (rvAd ws) ex aw ws) (hl : rvLo (rvAd ws) ex mL al ls) (hs : rvRs (rvAd ws) ex rst rest) (hD : va_D A ws) (hS : va_S A s.heap H locs)
    (k : rvG p l e R s m args below meth c Q D cT ex A mL (pc + 3, al, r.1.toList ++ rst, r.2, kc + mc, ks + ms)) : W p l e R s m args below meth c H locs kc ks Q (F0 m pc ls st0) := by
  intro T hT X
  obtain ⟨v, st₀, t, T', L, h0, X', hL, e1, e2, ⟨v', w1, hv, ⟨t1, ht1⟩, hw1, ho, hP1, hD1, hz, hk⟩, st⟩ := hr T hT X
  cases hv
  rw [h0] at hz hk
  have hF := rv_free hD hS hA
  have hS1 : va_S A s.heap T'.heap (locs ++ L) := ⟨Nat.le_trans hS.1 (by rw [e1]; exact hz), fun q h1 h2 => by rw [e1, hk q (Nat.lt_of_lt_of_le h1 hS.1) (fun z => h2 (hF q z))]; exact hS.2.1 q h1 h2, fun q hq => by
      rcases List.mem_append.mp hq with h | h
      · exact hS.2.2 q h
      · exact hF _ (hL q h)⟩
  rw [← e1] at hP1
  have hw2 : rvWo cT (rvAd w1) ex r.2 w1 := ⟨rvWoo_c hcB hw1, fun k9 hk9 => by
    have h9 := hw.2 k9 hk9
    rw [ht1, List.getElem?_append_left (List.getElem?_eq_some_iff.mp h9).1]
    exact h9⟩
  obtain ⟨t2, a1, b1⟩ := k w1 T'.heap (locs ++ L) ls (v.toList ++ rest) hw2 (by rw [ht1]; exact rvLo_mono _ hl) (rvOp_rs ho (by rw [ht1]; exact rvRs_mono _ hs)) hP1 (hD1.weaken (fun _ q _ h => hF q.1 h)) hS1 T' rfl X'
  exact ⟨t2, st t2 a1, b1⟩
theorem rv_blind {ws : va_W} {sz : Nat} {xs : List Value} : FrameBlind (rvPc D cB ex ws sz xs) := fun a U g mk q => by
  obtain ⟨q0, q1, qP, qK, qD, qX⟩ := q
  exact ⟨q0, q1, qP, va_K.moved (u := U) (U := U.calling g mk a) (Vm.Alike.refl U.vm) qK, qD, rvKx_same (u := U) rfl qX⟩
theorem rv_pre {ws : va_W} {H : Heap} {locs : List Loc} {xs : List Value} (hK : va_K D vwCl (rvTys cB) s) (hX : rvKx ex A s s.heap) (hA : ∀ q, s.heap.size ≤ q → A q) (hP : va_P D vwCl ws H) (hD : va_D A ws) (hS : va_S A s.heap H locs) : ∀ U : State, U.heap = H → s.WarmedH U.vm → rvPc D cB ex ws H.size xs xs.toArray U := by
  intro U hU hW
  refine ⟨rfl, by rw [hU], by rw [hU]; exact hP, va_K.moved hW.alike hK, hD.weaken (fun _ _ _ _ => trivial), ?_⟩
  rw [hU]
  exact rvKx_warm hW (rvKx_narrow (rvKx_kept hX hS.1 (fun a h1 h2 => hS.2.1 a h1 h2)) (rv_free hD hS hA))
theorem rvTys_c (hcB : ∀ q, q < 6 → cB q = cT q) : rvTys cT = rvTys cB := by
  simp only [rvTys, hcB 0 (by decide), hcB 1 (by decide), hcB 2 (by decide), hcB 3 (by decide), hcB 4 (by decide), hcB 5 (by decide)]
set_option maxHeartbeats 4000000 in
set_option maxRecDepth 100000 in
/-- a call of an own method -/
theorem rvInv_ok (C : rvCx p s m args meth c cc own mL D cT ex A ini sc) (hcB : ∀ q, q < 6 → cB q = cT q) (hM : ∀ j, j < NM → rvMp yn cd info rets kd j) (hcall : ∀ j as aw r, j < NM → call j as aw = some r → rvMet l D cB ex yn cd info rets j as aw r)
    {BF BC BS BL a1 a2 a3 wi pc kc ks len : Nat} {i : Instr} {virt : Bool} {al st : List rvV} {aw : rvH} {o : rvS} (hd : decode cc pc = .ok (i, rvSz i len)) (hk : rvCk yn kd NM own i a1 a2 a3 wi = true)
    (hi : (∃ idx, i = .invokevirtual idx ∧ virt = true) ∨ (∃ idx, i = .invokespecial idx ∧ virt = true ∧ Nat.beq a3 9 = false) ∨ (∃ idx, i = .invokestatic idx ∧ virt = false ∧ Nat.beq a3 8 = false))
    (hBF : BF ≤ R.frames) (hBC : BC ≤ R.cells) (hBS : BS ≤ R.slots) (hBL : BL ≤ R.locals)
    (h : rvInv call info BF BC BS BL a1 a2 virt pc al st aw kc ks = some o) (k : rvG p l e R s m args below meth c Q D cT ex A mL o) : rvG p l e R s m args below meth c Q D cT ex A mL (pc, al, st, aw, kc, ks) := by
  obtain ⟨hx, hb, hml, hown, hts, hK, hA, hX, hini, hsc⟩ := C
  intro ws H locs ls stk hw hl hs hP hD hS
  dsimp only at hw hl hs ⊢
  have hKB : va_K D vwCl (rvTys cB) s := by rw [← rvTys_c hcB]; exact hK
  have hwB : rvWoo cB (rvAd ws) ex aw ws := rvWoo_c (fun q hq => (hcB q hq).symm) hw.1
  have hls : ls.size = mL := by obtain ⟨-, l9, h9, -⟩ := hl; exact h9.1
  unfold rvInv at h
  split at h
  · rename_i as rest hpop
    rcases hinf : info a1 with ⟨mL', fr, ce, sl, lo, cls⟩
    rw [hinf] at h
    dsimp only at h
    cases hbud : (Nat.ble (fr + 1) BF && (Nat.ble (8 + (mL' + 11) + lo) BL && (Nat.ble (kc + ce) BC && Nat.ble (ks + sl) BS))) with
    | false => rw [hbud] at h; cases h
    | true =>
      rw [hbud] at h
      simp only [cond_true] at h
      obtain ⟨b1, b2⟩ := rv_and hbud
      obtain ⟨b2, b3⟩ := rv_and b2
      obtain ⟨b3, b4⟩ := rv_and b3
      have b1 := rv_ble b1
      have b2 := rv_ble b2
      have b3 := rv_ble b3
      have b4 := rv_ble b4
      have hmt : ∀ as' r, a1 < NM → call a1 as' aw = some r → ∀ xs, rvRs (rvAd ws) ex as' xs → Met l (yn a1) (.code (yn a1) (cd a1) mL' (rets a1) :: rvWl) (rvRm (info a1)) (rvPc D cB ex ws H.size xs) (rvQ D cB ex ws H.size r) ce sl (va_A ws H.size) := by
        intro as' r hj hc xs hxs
        have h9 := hcall a1 as' aw r hj hc ws xs H.size hwB hxs
        rw [hinf] at h9 ⊢
        exact h9
      have hrm : rvRm (info a1) = { frames := fr, cells := ce, slots := sl, locals := lo } := by rw [hinf]; rfl
      rw [hrm] at hmt
      obtain ⟨us, vs, rfl, hlen, hus, hvs⟩ := rvRs_pop a2 (ys := []) hpop hs trivial
      rw [List.append_nil] at hus
      have huslen : us.reverse.length = a2 := by rw [List.length_reverse]; exact hlen
      rcases hi with ⟨idx, rfl, rfl⟩ | ⟨idx, rfl, rfl, h9⟩ | ⟨idx, rfl, rfl, h9⟩
      · -- virtual
        obtain ⟨g1, g2⟩ := rv_and (show (Nat.blt a1 NM && (Nat.beq (kd a1).1 0 && (Nat.beq (kd a1).2 a2 && rvW wi (.methodLink own idx (yn a1))))) = true from hk)
        obtain ⟨g2, g3⟩ := rv_and g2
        obtain ⟨g3, g4⟩ := rv_and g3
        have g1 := rv_blt g1
        obtain ⟨m1, ⟨m2, m3, m4⟩, m5, m6, m7, -, -⟩ := hM a1 g1
        obtain ⟨m8, m9, m10⟩ := m7 (rv_beq g2)
        rw [rv_beq g3] at m4
        rw [hinf] at m5 m10
        dsimp only at m5 m10
        have cw : ∀ C, (yn a1).cls = C → CallW R s args own C idx (yn a1) (cd a1) mL' (rets a1) (.code (yn a1) (cd a1) mL' (rets a1) :: rvWl) { frames := fr, cells := ce, slots := sl, locals := lo } ce sl a2 := by
          intro C hC
          subst hC
          exact cwV a2 hts (rvGood_cons (rvW_ok g4) (rvGood_cons m8 (rvGood_cons m9 (rvGood_cons m6 (rvGood_cons m5 rvGood_self))))) rfl rfl rfl ⟨rfl, m2, m3, m4⟩ ⟨by show fr + 1 ≤ _; omega, by show 8 + (mL' + 11) + lo ≤ _; omega⟩
        simp only [cond_true] at h
        split at h
        · rename_i k0 rst
          split at h
          · rename_i ci fs hc0
            cases hcc : (Nat.beq ci cls && Nat.ble (rvWd rst) 8) with
            | false => rw [hcc] at h; cases h
            | true =>
              rw [hcc] at h
              simp only [cond_true] at h
              obtain ⟨f1, f2⟩ := rv_and hcc
              have f1 := rv_beq f1
              subst f1
              obtain ⟨x, stk1, rfl, ⟨q, hq, rfl⟩, hs1⟩ := rvRs_cons hvs
              obtain ⟨⟨a, e0⟩, hq1, fvs, he, hfvs⟩ := rvWo_get hw hc0
              have he : e0 = .inr (ci, fvs) := he
              subst he
              have hqa := rvAd_ref hq1 hq
              subst hqa
              have fin : ∀ r, call a1 (.inr (2, k0) :: as) aw = some r → rvG p l e R s m args below meth c Q D cT ex A mL (pc + 3, al, r.1.toList ++ rst, r.2, kc + ce, ks + sl) → W p l e R s m args below meth c H locs kc ks Q (F0 m pc ls (us ++ .ref q :: stk1)) := by
                intro r hcr kr
                have hM9 := hmt _ r g1 hcr (.ref q :: us.reverse) ⟨⟨q, hq, rfl⟩, hus⟩
                rcases m10 with ⟨m11, m12⟩ | ⟨m11, m12⟩
                · have hcl := (rvCl ci m11).2.1
                  refine rv_go hA hcB (va_runV (As := us.reverse) (rest := stk1) ⟨hx, hb, hml, hown, hts⟩ hM9 (cw (rvCn ci) m12.symm) ⟨rv_blind, va_recv hK hP hcl hq1, rv_pre hKB hX hA hP hD hS⟩ rfl huslen hls (by rw [List.reverse_reverse]) ?_ hd ⟨by omega, by omega⟩) hw hl hs1 hD hS kr
                  exact lv_room (by rw [rvRs_wd hs1]; exact rv_ble f2)
                · rw [m11] at hq1
                  obtain ⟨rr, hrr, -⟩ := hP k0 _ hq1
                  exact absurd hrr (by rw [rvCl_none (by omega)]; exact fun z => by cases z)
              split at h
              · rename_i v aw' hcr
                cases h
                exact fin _ hcr k
              · rename_i aw' hcr
                cases h
                exact fin _ hcr k
              · cases h
          · cases h
        · rename_i k0 rst
          cases hcc : ((Nat.beq cls 100 && Nat.blt k0 6) && Nat.ble (rvWd rst) 8) with
          | false => rw [hcc] at h; cases h
          | true =>
            rw [hcc] at h
            simp only [cond_true] at h
            obtain ⟨f1, f2⟩ := rv_and hcc
            obtain ⟨f0, f1⟩ := rv_and f1
            have f0 := rv_beq f0
            have f1 := rv_blt f1
            obtain ⟨x, stk1, rfl, hx3, hs1⟩ := rvRs_cons hvs
            have hx3 : x = .ref (ex 3 k0) := hx3
            subst hx3
            have fin : ∀ r, call a1 (.inr (3, k0) :: as) aw = some r → rvG p l e R s m args below meth c Q D cT ex A mL (pc + 3, al, r.1.toList ++ rst, r.2, kc + ce, ks + sl) → W p l e R s m args below meth c H locs kc ks Q (F0 m pc ls (us ++ .ref (ex 3 k0) :: stk1)) := by
              intro r hcr kr
              have hM9 := hmt _ r g1 hcr (.ref (ex 3 k0) :: us.reverse) ⟨rfl, hus⟩
              have hstr : (yn a1).cls = "java/lang/String" := by
                rcases m10 with ⟨m11, m12⟩ | ⟨m11, m12⟩
                · omega
                · exact m12
              obtain ⟨-, -, -, -, hSt, -⟩ := id hX
              refine rv_go hA hcB (va_runV (As := us.reverse) (rest := stk1) ⟨hx, hb, hml, hown, hts⟩ hM9 (cw _ hstr) ⟨rv_blind, vk_recv (i := 0) (hSt k0 f1) (by decide) hS, rv_pre hKB hX hA hP hD hS⟩ rfl huslen hls (by rw [List.reverse_reverse]) ?_ hd ⟨by omega, by omega⟩) hw hl hs1 hD hS kr
              exact lv_room (by rw [rvRs_wd hs1]; exact rv_ble f2)
            split at h
            · rename_i v aw' hcr
              cases h
              exact fin _ hcr k
            · rename_i aw' hcr
              cases h
              exact fin _ hcr k
            · cases h
        · cases h
      · -- a constructor
        have hk : (bif Nat.beq a3 9 then rvW wi (.methodLink own idx objectInit) else Nat.blt a1 NM && (Nat.beq (kd a1).1 2 && (Nat.beq (kd a1).2 a2 && (bif Nat.beq a3 0 then rvW wi (.methodLink own idx (yn a1)) else rvNw wi own idx (yn a1))))) = true := hk
        rw [h9] at hk
        obtain ⟨g1, g2⟩ := rv_and (show (Nat.blt a1 NM && (Nat.beq (kd a1).1 2 && (Nat.beq (kd a1).2 a2 && (bif Nat.beq a3 0 then rvW wi (.methodLink own idx (yn a1)) else rvNw wi own idx (yn a1))))) = true from hk)
        obtain ⟨g2, g3⟩ := rv_and g2
        obtain ⟨g3, g4⟩ := rv_and g3
        have g1 := rv_blt g1
        obtain ⟨m1, ⟨m2, m3, m4⟩, m5, m6, -, -, m7⟩ := hM a1 g1
        obtain ⟨m8, m9, m10⟩ := m7 (rv_beq g2)
        rw [rv_beq g3] at m4
        rw [hinf] at m5
        dsimp only at m5
        rw [m10] at m5 hmt
        simp only [cond_true] at h
        split at h
        · rename_i k0 rst
          split at h
          · rename_i ci fs hc0
            cases hcc : (Nat.beq ci cls && Nat.ble (rvWd rst) 8) with
            | false => rw [hcc] at h; cases h
            | true =>
              rw [hcc] at h
              simp only [cond_true] at h
              obtain ⟨f1, f2⟩ := rv_and hcc
              obtain ⟨x, stk1, rfl, ⟨q, hq, rfl⟩, hs1⟩ := rvRs_cons hvs
              have fin : ∀ r, call a1 (.inr (2, k0) :: as) aw = some r → rvG p l e R s m args below meth c Q D cT ex A mL (pc + 3, al, r.1.toList ++ rst, r.2, kc + ce, ks + sl) → W p l e R s m args below meth c H locs kc ks Q (F0 m pc ls (us ++ .ref q :: stk1)) := by
                intro r hcr kr
                have hM9 := hmt _ r g1 hcr (.ref q :: us.reverse) ⟨⟨q, hq, rfl⟩, hus⟩
                cases h3 : Nat.beq a3 0 with
                | true =>
                  rw [h3] at g4
                  refine rv_go hA hcB (va_runI (As := us.reverse) (rest := stk1) ⟨hx, hb, hml, hown, hts⟩ hM9 (cwI a2 hts (rvGood_cons m5 rvGood_self) rfl rfl rfl (hts _ m6) (hts _ (rvW_ok g4)) (hts _ m8) m9 ⟨m2, m3, m4⟩ ⟨by show fr + 1 ≤ _; omega, by show 8 + (mL' + 11) + lo ≤ _; omega⟩) ⟨rv_blind, rv_pre hKB hX hA hP hD hS⟩ rfl huslen hls (by rw [List.reverse_reverse]) ?_ hd ⟨by omega, by omega⟩) hw hl hs1 hD hS kr
                  exact lv_room (by rw [rvRs_wd hs1]; exact rv_ble f2)
                | false =>
                  rw [h3] at g4
                  obtain ⟨host, hhost⟩ := rvNw_ok g4
                  refine rv_go hA hcB (va_runIN (As := us.reverse) (rest := stk1) ⟨hx, hb, hml, hown, hts⟩ hM9 ⟨va_cnB a2 hts (rvGood_cons m5 rvGood_self) rfl rfl rfl (hX.1 _ hhost) (hts _ m6) ⟨m2, m3, m4⟩ ⟨by show fr + 1 ≤ _; omega, by show 8 + (mL' + 11) + lo ≤ _; omega⟩, m9, hts _ m8⟩ ⟨rv_blind, rv_pre hKB hX hA hP hD hS⟩ rfl huslen hls (by rw [List.reverse_reverse]) ?_ hd ⟨by omega, by omega⟩) hw hl hs1 hD hS kr
                  exact lv_room (by rw [rvRs_wd hs1]; exact rv_ble f2)
              split at h
              · rename_i v aw' hcr
                cases h
                exact fin _ hcr k
              · rename_i aw' hcr
                cases h
                exact fin _ hcr k
              · cases h
          · cases h
        · rename_i k0 rst
          cases hcc : ((Nat.beq cls 100 && Nat.blt k0 6) && Nat.ble (rvWd rst) 8) with
          | false => rw [hcc] at h; cases h
          | true =>
            rw [hcc] at h
            simp only [cond_true] at h
            obtain ⟨f1, f2⟩ := rv_and hcc
            obtain ⟨x, stk1, rfl, hx3, hs1⟩ := rvRs_cons hvs
            have hx3 : x = .ref (ex 3 k0) := hx3
            subst hx3
            have fin : ∀ r, call a1 (.inr (3, k0) :: as) aw = some r → rvG p l e R s m args below meth c Q D cT ex A mL (pc + 3, al, r.1.toList ++ rst, r.2, kc + ce, ks + sl) → W p l e R s m args below meth c H locs kc ks Q (F0 m pc ls (us ++ .ref (ex 3 k0) :: stk1)) := by
              intro r hcr kr
              have hM9 := hmt _ r g1 hcr (.ref (ex 3 k0) :: us.reverse) ⟨rfl, hus⟩
              cases h3 : Nat.beq a3 0 with
              | true =>
                rw [h3] at g4
                refine rv_go hA hcB (va_runI (As := us.reverse) (rest := stk1) ⟨hx, hb, hml, hown, hts⟩ hM9 (cwI a2 hts (rvGood_cons m5 rvGood_self) rfl rfl rfl (hts _ m6) (hts _ (rvW_ok g4)) (hts _ m8) m9 ⟨m2, m3, m4⟩ ⟨by show fr + 1 ≤ _; omega, by show 8 + (mL' + 11) + lo ≤ _; omega⟩) ⟨rv_blind, rv_pre hKB hX hA hP hD hS⟩ rfl huslen hls (by rw [List.reverse_reverse]) ?_ hd ⟨by omega, by omega⟩) hw hl hs1 hD hS kr
                exact lv_room (by rw [rvRs_wd hs1]; exact rv_ble f2)
              | false =>
                rw [h3] at g4
                obtain ⟨host, hhost⟩ := rvNw_ok g4
                refine rv_go hA hcB (va_runIN (As := us.reverse) (rest := stk1) ⟨hx, hb, hml, hown, hts⟩ hM9 ⟨va_cnB a2 hts (rvGood_cons m5 rvGood_self) rfl rfl rfl (hX.1 _ hhost) (hts _ m6) ⟨m2, m3, m4⟩ ⟨by show fr + 1 ≤ _; omega, by show 8 + (mL' + 11) + lo ≤ _; omega⟩, m9, hts _ m8⟩ ⟨rv_blind, rv_pre hKB hX hA hP hD hS⟩ rfl huslen hls (by rw [List.reverse_reverse]) ?_ hd ⟨by omega, by omega⟩) hw hl hs1 hD hS kr
                exact lv_room (by rw [rvRs_wd hs1]; exact rv_ble f2)
            split at h
            · rename_i v aw' hcr
              cases h
              exact fin _ hcr k
            · rename_i aw' hcr
              cases h
              exact fin _ hcr k
            · cases h
        · cases h
      · -- static
        have hk : (bif Nat.beq a3 8 then rvW wi (.methodLink own idx arraycopyName) else Nat.blt a1 NM && (Nat.beq (kd a1).1 1 && (Nat.beq (kd a1).2 a2 && (bif Nat.beq a3 0 then rvW wi (.methodLink own idx (yn a1)) else rvNw wi own idx (yn a1))))) = true := hk
        rw [h9] at hk
        obtain ⟨g1, g2⟩ := rv_and (show (Nat.blt a1 NM && (Nat.beq (kd a1).1 1 && (Nat.beq (kd a1).2 a2 && (bif Nat.beq a3 0 then rvW wi (.methodLink own idx (yn a1)) else rvNw wi own idx (yn a1))))) = true from hk)
        obtain ⟨g2, g3⟩ := rv_and g2
        obtain ⟨g3, g4⟩ := rv_and g3
        have g1 := rv_blt g1
        obtain ⟨m1, ⟨m2, m3, m4⟩, m5, m6, -, m7, -⟩ := hM a1 g1
        have m8 := m7 (rv_beq g2)
        rw [rv_beq g3] at m4
        rw [hinf] at m5
        dsimp only at m5
        simp only [cond_false] at h
        cases hcc : (Nat.ble (rvWd rest) 8) with
        | false => rw [hcc] at h; cases h
        | true =>
          rw [hcc] at h
          simp only [cond_true] at h
          have fin : ∀ r, call a1 as aw = some r → rvG p l e R s m args below meth c Q D cT ex A mL (pc + 3, al, r.1.toList ++ rest, r.2, kc + ce, ks + sl) → W p l e R s m args below meth c H locs kc ks Q (F0 m pc ls (us ++ vs)) := by
            intro r hcr kr
            have hM9 := hmt _ r g1 hcr us.reverse hus
            cases h3 : Nat.beq a3 0 with
            | true =>
              rw [h3] at g4
              refine rv_go hA hcB (va_runS (As := us.reverse) (rest := vs) ⟨hx, hb, hml, hown, hts⟩ hM9 (va_cwS a2 hts (rvGood_cons (rvW_ok g4) (rvGood_cons m8 (rvGood_cons m6 (rvGood_cons m5 rvGood_self)))) rfl rfl rfl ⟨m2, m3, m4⟩ ⟨by show fr + 1 ≤ _; omega, by show 8 + (mL' + 11) + lo ≤ _; omega⟩) ⟨rv_blind, rv_pre hKB hX hA hP hD hS⟩ rfl huslen hls (by rw [List.reverse_reverse]) ?_ hd ⟨by omega, by omega⟩) hw hl hvs hD hS kr
              exact lv_room (by rw [rvRs_wd hvs]; exact rv_ble hcc)
            | false =>
              rw [h3] at g4
              obtain ⟨host, hhost⟩ := rvNw_ok g4
              refine rv_go hA hcB (va_runSN (As := us.reverse) (rest := vs) ⟨hx, hb, hml, hown, hts⟩ hM9 ⟨va_cnB a2 hts (rvGood_cons m5 rvGood_self) rfl rfl rfl (hX.1 _ hhost) (hts _ m6) ⟨m2, m3, m4⟩ ⟨by show fr + 1 ≤ _; omega, by show 8 + (mL' + 11) + lo ≤ _; omega⟩, hts _ m8, trivial⟩ ⟨rv_blind, rv_pre hKB hX hA hP hD hS⟩ rfl huslen hls (by rw [List.reverse_reverse]) ?_ hd ⟨by omega, by omega⟩) hw hl hvs hD hS kr
              exact lv_room (by rw [rvRs_wd hvs]; exact rv_ble hcc)
          split at h
          · rename_i v aw' hcr
            cases h
            exact fin _ hcr k
          · rename_i aw' hcr
            cases h
            exact fin _ hcr k
          · cases h
  · cases h
end RVC
