section RVH
variable {p : Program} {l : Launch} {e : Env} {R : Room} {s : State} {m : MethodId} {args : Array Value} {below : List Frame} {meth : Method} {c : Code} {Q : State → Prop} {cc : ByteArray} {own : String} {mL : Nat} {D : va_G} {cT : Nat → ClassId} {ex : Nat → Nat → Nat} {A : Nat → Prop} {sc : List (Int × Int)} {ini : Bool}
set_option maxHeartbeats 4000000 in
set_option maxRecDepth 100000 in
theorem rs_goto (C : rvCx p s m args meth c cc own mL D cT ex A ini sc) {BC BS a1 a2 a3 wi pc kc ks : Nat} {off : Int} {al st : List rvV} {aw : rvH} {o : rvS} (hd : decode cc pc = .ok (.goto off, 3)) (hk : rvAux own ini (.goto off) a1 a2 wi = true) (hBC : BC ≤ R.cells) (hBS : BS ≤ R.slots)
    (h : rvStep rvTy rvNf rvTxt sc BC BS mL (.goto off) a1 a2 a3 pc al st aw kc ks = some o) (k : rvG p l e R s m args below meth c Q D cT ex A mL o) : rvG p l e R s m args below meth c Q D cT ex A mL (pc, al, st, aw, kc, ks) := by
  obtain ⟨hx, hb, hml, hown, hts, hK, hA, hX, hini, hsc⟩ := C
  intro ws H locs ls stk hw hl hs hP hD hS
  dsimp only at hw hl hs ⊢
  simp only [rvStep] at h
  split at h
  · rename_i t ht
    cases h
    exact lv_goto hx hb hd (rvJ_ok ht) (k ws H locs ls _ hw hl hs hP hD hS)
  · cases h
set_option maxHeartbeats 4000000 in
set_option maxRecDepth 100000 in
theorem rs_ifnull (C : rvCx p s m args meth c cc own mL D cT ex A ini sc) {BC BS a1 a2 a3 wi pc kc ks : Nat} {off : Int} {al st : List rvV} {aw : rvH} {o : rvS} (hd : decode cc pc = .ok (.ifnull off, 3)) (hk : rvAux own ini (.ifnull off) a1 a2 wi = true) (hBC : BC ≤ R.cells) (hBS : BS ≤ R.slots)
    (h : rvStep rvTy rvNf rvTxt sc BC BS mL (.ifnull off) a1 a2 a3 pc al st aw kc ks = some o) (k : rvG p l e R s m args below meth c Q D cT ex A mL o) : rvG p l e R s m args below meth c Q D cT ex A mL (pc, al, st, aw, kc, ks) := by
  obtain ⟨hx, hb, hml, hown, hts, hK, hA, hX, hini, hsc⟩ := C
  intro ws H locs ls stk hw hl hs hP hD hS
  dsimp only at hw hl hs ⊢
  simp only [rvStep] at h
  split at h
  · rename_i z st
    cases h
    obtain ⟨x, stk1, rfl, ⟨q, hq, rfl⟩, hs1⟩ := rvRs_cons hs
    exact lv_ifnull hx hb hd (k ws H locs ls _ hw hl hs1 hP hD hS)
  · rename_i z st
    split at h
    · rename_i t ht
      cases h
      obtain ⟨x, stk1, rfl, hx2, hs1⟩ := rvRs_cons hs
      cases hx2
      exact lv_ifnullN hx hb hd (rvJ_ok ht) (k ws H locs ls _ hw hl hs1 hP hD hS)
    · cases h
  · cases h
set_option maxHeartbeats 4000000 in
set_option maxRecDepth 100000 in
theorem rs_ifnonnull (C : rvCx p s m args meth c cc own mL D cT ex A ini sc) {BC BS a1 a2 a3 wi pc kc ks : Nat} {off : Int} {al st : List rvV} {aw : rvH} {o : rvS} (hd : decode cc pc = .ok (.ifnonnull off, 3)) (hk : rvAux own ini (.ifnonnull off) a1 a2 wi = true) (hBC : BC ≤ R.cells) (hBS : BS ≤ R.slots)
    (h : rvStep rvTy rvNf rvTxt sc BC BS mL (.ifnonnull off) a1 a2 a3 pc al st aw kc ks = some o) (k : rvG p l e R s m args below meth c Q D cT ex A mL o) : rvG p l e R s m args below meth c Q D cT ex A mL (pc, al, st, aw, kc, ks) := by
  obtain ⟨hx, hb, hml, hown, hts, hK, hA, hX, hini, hsc⟩ := C
  intro ws H locs ls stk hw hl hs hP hD hS
  dsimp only at hw hl hs ⊢
  simp only [rvStep] at h
  split at h
  · rename_i z st
    cases h
    obtain ⟨x, stk1, rfl, hx2, hs1⟩ := rvRs_cons hs
    cases hx2
    exact lv_ifnonnullN hx hb hd (k ws H locs ls _ hw hl hs1 hP hD hS)
  · rename_i z st
    split at h
    · rename_i t ht
      cases h
      obtain ⟨x, stk1, rfl, ⟨q, hq, rfl⟩, hs1⟩ := rvRs_cons hs
      exact lv_ifnonnull hx hb hd (rvJ_ok ht) (k ws H locs ls _ hw hl hs1 hP hD hS)
    · cases h
  · cases h
set_option maxHeartbeats 4000000 in
set_option maxRecDepth 100000 in
theorem rs_tableswitch (C : rvCx p s m args meth c cc own mL D cT ex A ini sc) {BC BS a1 a2 a3 wi pc kc ks len : Nat} {dflt lo hi : Int} {offs : Array Int} {al st : List rvV} {aw : rvH} {o : rvS} (hd : decode cc pc = .ok (.tableswitch dflt lo hi offs, len)) (hk : rvAux own ini (.tableswitch dflt lo hi offs) a1 a2 wi = true) (hBC : BC ≤ R.cells) (hBS : BS ≤ R.slots)
    (h : rvStep rvTy rvNf rvTxt sc BC BS mL (.tableswitch dflt lo hi offs) a1 a2 a3 pc al st aw kc ks = some o) (k : rvG p l e R s m args below meth c Q D cT ex A mL o) : rvG p l e R s m args below meth c Q D cT ex A mL (pc, al, st, aw, kc, ks) := by
  obtain ⟨hx, hb, hml, hown, hts, hK, hA, hX, hini, hsc⟩ := C
  intro ws H locs ls stk hw hl hs hP hD hS
  dsimp only at hw hl hs ⊢
  simp only [rvStep] at h
  split at h
  · rename_i a st
    obtain ⟨x, stk1, rfl, ⟨n1, rfl, p1, q1⟩, hs1⟩ := rvRs_cons hs
    cases hc : (decide (a.2 < lo) || decide (hi < a.1)) with
    | true =>
      rw [hc] at h
      simp only [cond_true] at h
      split at h
      · rename_i t ht
        cases h
        refine lv_tableOut hx hb hd ?_ (rvJ_ok ht) (k ws H locs ls _ hw hl hs1 hP hD hS)
        rcases rv_or' hc with q | q
        · have := of_decide_eq_true q
          exact Or.inl (by omega)
        · have := of_decide_eq_true q
          exact Or.inr (by omega)
      · cases h
    | false =>
      rw [hc] at h
      simp only [cond_false] at h
      cases hc2 : (rvOne a && (decide (lo ≤ a.1) && decide (a.1 ≤ hi))) with
      | false => rw [hc2] at h; cases h
      | true =>
        rw [hc2] at h
        simp only [cond_true] at h
        obtain ⟨g1, g2⟩ := rv_and hc2
        obtain ⟨g2, g3⟩ := rv_and g2
        have g2 := of_decide_eq_true g2
        have g3 := of_decide_eq_true g3
        obtain ⟨e1, -⟩ := rv_one g1 p1 q1
        split at h
        · rename_i off ho
          split at h
          · rename_i t ht
            cases h
            exact lv_tableIn hx hb hd (by omega) (by omega) (by rw [e1]; exact ho) (rvJ_ok ht) (k ws H locs ls _ hw hl hs1 hP hD hS)
          · cases h
        · cases h
  · cases h
set_option maxHeartbeats 4000000 in
set_option maxRecDepth 100000 in
theorem rs_getfield (C : rvCx p s m args meth c cc own mL D cT ex A ini sc) {BC BS a1 a2 a3 wi pc kc ks idx : Nat} {al st : List rvV} {aw : rvH} {o : rvS} (hd : decode cc pc = .ok (.getfield idx, 3)) (hk : rvAux own ini (.getfield idx) a1 a2 wi = true) (hBC : BC ≤ R.cells) (hBS : BS ≤ R.slots)
    (h : rvStep rvTy rvNf rvTxt sc BC BS mL (.getfield idx) a1 a2 a3 pc al st aw kc ks = some o) (k : rvG p l e R s m args below meth c Q D cT ex A mL o) : rvG p l e R s m args below meth c Q D cT ex A mL (pc, al, st, aw, kc, ks) := by
  obtain ⟨hx, hb, hml, hown, hts, hK, hA, hX, hini, hsc⟩ := C
  intro ws H locs ls stk hw hl hs hP hD hS
  dsimp only at hw hl hs ⊢
  simp only [rvStep] at h
  split at h
  · rename_i k0 st
    obtain ⟨x, stk1, rfl, ⟨q, hq, rfl⟩, hs1⟩ := rvRs_cons hs
    split at h
    · rename_i ci fs hc0
      cases hbe : Nat.beq ci a1 with
      | false => rw [hbe] at h; cases h
      | true =>
        rw [hbe] at h
        simp only [cond_true] at h
        have e1 := rv_beq hbe
        subst e1
        split at h
        · rename_i w hw0
          cases h
          obtain ⟨⟨a, e0⟩, hq1, vs, he, hvs⟩ := rvWo_get hw hc0
          have he : e0 = .inr (ci, vs) := he
          subst he
          have hqa := rvAd_ref hq1 hq
          subst hqa
          obtain ⟨y, hy1, hy2⟩ := rvRs_get hvs hw0
          cases hq2 : Nat.beq ci 100 with
          | true =>
            obtain ⟨r, hr, -⟩ := hP k0 _ hq1
            rw [show ci = 100 from rv_beq hq2] at hr
            exact absurd hr (by rw [rvCl_none (by omega)]; exact fun z => by cases z)
          | false =>
            have hk : (bif Nat.beq ci 100 then (bif Nat.beq a2 0 then rvW wi (.fieldLink own idx "java/lang/String" "value" "[B") else rvW wi (.fieldLink own idx "java/lang/String" "coder" "B")) else Nat.blt ci 13 && (Nat.blt a2 (rvNf ci) && rvW wi (.fieldLink own idx (rvFt ci a2).1 (rvFt ci a2).2.1 (rvFt ci a2).2.2.1))) = true := hk
            rw [hq2] at hk
            obtain ⟨g1, g2⟩ := rv_and (show (Nat.blt ci 13 && (Nat.blt a2 (rvNf ci) && rvW wi (.fieldLink own idx (rvFt ci a2).1 (rvFt ci a2).2.1 (rvFt ci a2).2.2.1))) = true from hk)
            obtain ⟨g2, g3⟩ := rv_and g2
            obtain ⟨⟨-, -, hin, -⟩, hcl, -⟩ := rvCl ci (rv_blt g1)
            exact va_get (D := D) hx hb hts hin hown hK hP k0 hq1 hcl a2 (rv_blt g2) (hts _ (rvW_ok g3)) (fun _ h9 => h9) hy1 hd (k ws H locs ls _ hw hl ⟨hy2, hs1⟩ hP hD hS)
        · cases h
    · cases h
  · rename_i j st
    obtain ⟨hc, rfl⟩ := rv_bif h
    obtain ⟨x, stk1, rfl, hx2, hs1⟩ := rvRs_cons hs
    have hx2 : x = .ref (ex 3 j) := hx2
    subst hx2
    have hj := rv_blt (rv_and hc).2
    have hc1 : Nat.beq a1 100 = true := (rv_and hc).1
    have hk : (bif Nat.beq a1 100 then (bif Nat.beq a2 0 then rvW wi (.fieldLink own idx "java/lang/String" "value" "[B") else rvW wi (.fieldLink own idx "java/lang/String" "coder" "B")) else Nat.blt a1 13 && (Nat.blt a2 (rvNf a1) && rvW wi (.fieldLink own idx (rvFt a1 a2).1 (rvFt a1 a2).2.1 (rvFt a1 a2).2.2.1))) = true := hk
    rw [hc1] at hk
    simp only [cond_true] at hk
    obtain ⟨-, -, -, -, hSt, -⟩ := hX
    obtain ⟨-, hco, hva, -⟩ := (hSt j hj).1 0 (by decide)
    cases h2 : Nat.beq a2 0 with
    | true =>
      rw [h2] at hk k
      exact vk_getf hx hb hva hS hown (hts _ (rvW_ok hk)) (fun _ h9 => h9) hd (k ws H locs ls _ hw hl ⟨rfl, hs1⟩ hP hD hS)
    | false =>
      rw [h2] at hk k
      exact vk_getf hx hb hco hS hown (hts _ (rvW_ok hk)) (fun _ h9 => h9) hd (k ws H locs ls _ hw hl ⟨rvR_K rfl, hs1⟩ hP hD hS)
  · cases h
set_option maxHeartbeats 4000000 in
set_option maxRecDepth 100000 in
theorem rs_putfield (C : rvCx p s m args meth c cc own mL D cT ex A ini sc) {BC BS a1 a2 a3 wi pc kc ks idx : Nat} {al st : List rvV} {aw : rvH} {o : rvS} (hd : decode cc pc = .ok (.putfield idx, 3)) (hk : rvAux own ini (.putfield idx) a1 a2 wi = true) (hBC : BC ≤ R.cells) (hBS : BS ≤ R.slots)
    (h : rvStep rvTy rvNf rvTxt sc BC BS mL (.putfield idx) a1 a2 a3 pc al st aw kc ks = some o) (k : rvG p l e R s m args below meth c Q D cT ex A mL o) : rvG p l e R s m args below meth c Q D cT ex A mL (pc, al, st, aw, kc, ks) := by
  obtain ⟨hx, hb, hml, hown, hts, hK, hA, hX, hini, hsc⟩ := C
  intro ws H locs ls stk hw hl hs hP hD hS
  dsimp only at hw hl hs ⊢
  simp only [rvStep] at h
  split at h
  · rename_i v k0 st
    obtain ⟨x, stk1, rfl, hx2, hs1⟩ := rvRs_cons hs
    obtain ⟨x1, stk2, rfl, ⟨q, hq, rfl⟩, hs2⟩ := rvRs_cons hs1
    split at h
    · rename_i ci fs hc0
      obtain ⟨hc, rfl⟩ := rv_bif h
      obtain ⟨c1, c2⟩ := rv_and hc
      obtain ⟨c2, c3⟩ := rv_and c2
      have e1 := rv_beq c1
      subst e1
      obtain ⟨⟨a, e0⟩, hq1, vs, he, hvs⟩ := rvWo_get hw hc0
      have he : e0 = .inr (ci, vs) := he
      subst he
      have hqa := rvAd_ref hq1 hq
      subst hqa
      obtain ⟨g1, g2⟩ := rv_and (show (Nat.blt ci 13 && (Nat.blt a2 (rvNf ci) && (rvW wi (.fieldLink own idx (rvFt ci a2).1 (rvFt ci a2).2.1 (rvFt ci a2).2.2.1) && (!(rvFt ci a2).2.2.2 || (ini && decide ((rvFt ci a2).1 = own)))))) = true from hk)
      obtain ⟨g2, g3⟩ := rv_and g2
      obtain ⟨g3, g4⟩ := rv_and g3
      obtain ⟨⟨-, -, hin, hty⟩, hcl, hnm⟩ := rvCl ci (rv_blt g1)
      obtain ⟨f1, f2⟩ := rvFit_ok c2 hx2
      have hlen : a2 < vs.length := by rw [← rvRs_len hvs]; exact rv_blt c3
      have hnew : ∀ (H1 : Heap) (locs1 : List Loc), va_P D vwCl (ws.set k0 (q, .inr (ci, vs.set a2 x))) H1 → va_D A (ws.set k0 (q, .inr (ci, vs.set a2 x))) → va_S A s.heap H1 locs1 → W p l e R s m args below meth c H1 locs1 kc ks Q (F0 m (pc + 3) ls stk2) := by
        intro H1 locs1 hP1 hD1 hS1
        have ea := rvAd_set (e := .inr (ci, vs.set a2 x)) hq1
        refine k _ H1 locs1 ls stk2 ?_ ?_ ?_ hP1 hD1 hS1
        · rw [ea]
          exact rvWo_set hw ⟨_, rfl, rvRs_set hvs hx2⟩
        · rw [ea]; exact hl
        · rw [ea]; exact hs2
      cases hfin : (rvFt ci a2).2.2.2 with
      | false =>
        exact va_put (D := D) hx hb hts hin (rvTy ci) (fun j hj => (hty j hj).2) hnm hown hK hP hD hS k0 hq1 hcl a2 (rv_blt g2) (hts _ (rvW_ok g3)) (fun _ h9 => h9) hfin (hty a2 (rv_blt g2)).2 f1 f2 hlen hd hnew
      | true =>
        rw [hfin] at g4
        obtain ⟨i1, i2⟩ := rv_and (show (ini && decide ((rvFt ci a2).1 = own)) = true from g4)
        exact va_putF (D := D) hx hb hts hin (rvTy ci) (fun j hj => (hty j hj).2) hnm hown hK hP hD hS k0 hq1 hcl a2 (rv_blt g2) (hts _ (rvW_ok g3)) (fun _ h9 => h9) hfin (hini i1) (of_decide_eq_true i2) (hty a2 (rv_blt g2)).2 f1 f2 hlen hd hnew
    · cases h
  · cases h
set_option maxHeartbeats 4000000 in
set_option maxRecDepth 100000 in
theorem rs_getstatic (C : rvCx p s m args meth c cc own mL D cT ex A ini sc) {BC BS a1 a2 a3 wi pc kc ks idx : Nat} {al st : List rvV} {aw : rvH} {o : rvS} (hd : decode cc pc = .ok (.getstatic idx, 3)) (hk : rvAux own ini (.getstatic idx) a1 a2 wi = true) (hBC : BC ≤ R.cells) (hBS : BS ≤ R.slots)
    (h : rvStep rvTy rvNf rvTxt sc BC BS mL (.getstatic idx) a1 a2 a3 pc al st aw kc ks = some o) (k : rvG p l e R s m args below meth c Q D cT ex A mL o) : rvG p l e R s m args below meth c Q D cT ex A mL (pc, al, st, aw, kc, ks) := by
  obtain ⟨hx, hb, hml, hown, hts, hK, hA, hX, hini, hsc⟩ := C
  intro ws H locs ls stk hw hl hs hP hD hS
  dsimp only at hw hl hs ⊢
  cases h
  obtain ⟨hNl, -, -, -, -, hZ, hZq, hZr⟩ := hX
  have hk : (bif Nat.beq a1 0 then rvW wi (.fieldLink own idx "java/lang/String" "COMPACT_STRINGS" "Z") else bif Nat.beq a1 1 then rvW wi (.fieldLink own idx "jdk/internal/util/Preconditions" "SIOOBE_FORMATTER" "Ljava/util/function/BiFunction;")
    else Nat.blt a1 4 && (match lw_tbl[wi]? with
      | some (.fieldLinkNest ow k rf n d _) => decide (ow = own) && (Nat.beq k idx && (decide (rf = "OboeDistrict") && (decide (n = rvSn (a1 - 2)) && decide (d = "[I"))))
      | _ => false)) = true := hk
  cases h1 : Nat.beq a1 0 with
  | true =>
    rw [h1] at hk k
    exact va_gets hx hb hZ hS hown (hts _ (rvW_ok hk)) (fun _ h9 => h9) hd (k ws H locs ls _ hw hl ⟨rvR_K rfl, hs⟩ hP hD hS)
  | false =>
    rw [h1] at hk k
    simp only [cond_false] at hk k
    cases h2 : Nat.beq a1 1 with
    | true =>
      rw [h2] at hk k
      rcases hZq with hZ | ⟨t, hZ⟩
      · exact va_gets hx hb hZ hS hown (hts _ (rvW_ok hk)) (fun _ h9 => h9) hd (k ws H locs ls _ hw hl ⟨Or.inl rfl, hs⟩ hP hD hS)
      · exact va_gets hx hb hZ hS hown (hts _ (rvW_ok hk)) (fun _ h9 => h9) hd (k ws H locs ls _ hw hl ⟨Or.inr ⟨t, rfl⟩, hs⟩ hP hD hS)
    | false =>
      rw [h2] at hk k
      simp only [cond_false] at hk k
      obtain ⟨g0, g1⟩ := rv_and hk
      have g0 := rv_blt g0
      have n0 : a1 ≠ 0 := fun q => by rw [q] at h1; cases h1
      have n1 : a1 ≠ 1 := fun q => by rw [q] at h2; cases h2
      split at g1
      · rename_i ow k9 rf n d host he
        obtain ⟨f1, f2⟩ := rv_and g1
        obtain ⟨f2, f3⟩ := rv_and f2
        obtain ⟨f3, f4⟩ := rv_and f3
        obtain ⟨f4, f5⟩ := rv_and f4
        have e1 := of_decide_eq_true f1
        have e2 := rv_beq f2
        have e3 := of_decide_eq_true f3
        have e4 := of_decide_eq_true f4
        have e5 := of_decide_eq_true f5
        subst e1; subst e2; subst e3; subst e4; subst e5
        have hl9 := va_Nw.use (A := args) rfl (hNl _ (List.mem_filter.mpr ⟨List.mem_of_getElem? he, rfl⟩))
        exact va_getsN hx hb (hZr (a1 - 2) (by omega)).1 hS hown hl9 (fun _ h9 => h9) hd (k ws H locs ls _ hw hl ⟨rfl, hs⟩ hP hD hS)
      · cases g1
set_option maxHeartbeats 4000000 in
set_option maxRecDepth 100000 in
theorem rs_arraylength (C : rvCx p s m args meth c cc own mL D cT ex A ini sc) {BC BS a1 a2 a3 wi pc kc ks : Nat} {al st : List rvV} {aw : rvH} {o : rvS} (hd : decode cc pc = .ok (.arraylength, 1)) (hk : rvAux own ini (.arraylength) a1 a2 wi = true) (hBC : BC ≤ R.cells) (hBS : BS ≤ R.slots)
    (h : rvStep rvTy rvNf rvTxt sc BC BS mL (.arraylength) a1 a2 a3 pc al st aw kc ks = some o) (k : rvG p l e R s m args below meth c Q D cT ex A mL o) : rvG p l e R s m args below meth c Q D cT ex A mL (pc, al, st, aw, kc, ks) := by
  obtain ⟨hx, hb, hml, hown, hts, hK, hA, hX, hini, hsc⟩ := C
  intro ws H locs ls stk hw hl hs hP hD hS
  dsimp only at hw hl hs ⊢
  simp only [rvStep] at h
  split at h
  · rename_i k0 st
    obtain ⟨x, stk1, rfl, ⟨q, hq, rfl⟩, hs1⟩ := rvRs_cons hs
    split at h
    · rename_i q0 n d ov hc0
      obtain ⟨hc, rfl⟩ := rv_bif h
      have hn := rv_blt hc
      obtain ⟨⟨a, e0⟩, hq1, hce⟩ := rvWo_get hw hc0
      have hqa := rvAd_ref hq1 hq
      subst hqa
      have fin : ∀ (t0 : Nat) (cA : ClassId) (ty : FieldType) (z : vp_A), z.1 = n → ws[k0]? = some (q, .inl (cA, z)) → (rvTys cT)[t0]? = some (cA, ty) → W p l e R s m args below meth c H locs kc ks Q (F0 m pc ls (.ref q :: stk1)) := by
        intro t0 cA ty z hz h1 h2
        exact va_alen (D := D) hx hb hK hP k0 t0 h1 h2 (v := Int32.ofNat n) (by rw [hz]) hd (k ws H locs ls _ hw hl ⟨rvR_K (nI_toInt (n := n) hn), hs1⟩ hP hD hS)
      rcases hce with ⟨h0, f, he, -⟩ | ⟨rfl, f, he, -⟩ | ⟨h0, f, he, -⟩
      · have he : e0 = .inl (cT q0, n, .inl f) := he
        subst he
        match q0, h0, hq1 with
        | 0, _, hq1 => exact fin 0 _ .int _ rfl hq1 rfl
        | 1, _, hq1 => exact fin 1 _ .byte _ rfl hq1 rfl
        | 2, _, hq1 => exact fin 2 _ .boolean _ rfl hq1 rfl
      · have he : e0 = .inl (cT 3, n, .inr (.inl f)) := he
        subst he
        exact fin 3 _ .long _ rfl hq1 rfl
      · have he : e0 = .inl (cT q0, n, .inr (.inr (.inr (.inr f)))) := he
        subst he
        rcases h0 with rfl | rfl
        · exact fin 4 _ (.object RX2) _ rfl hq1 rfl
        · exact fin 5 _ (.object RX6) _ rfl hq1 rfl
    · cases h
  · rename_i j st
    obtain ⟨hc, rfl⟩ := rv_bif h
    have hj := rv_blt hc
    obtain ⟨x, stk1, rfl, hx2, hs1⟩ := rvRs_cons hs
    have hx2 : x = .ref (ex 4 j) := hx2
    subst hx2
    obtain ⟨-, -, -, -, hSt, -⟩ := hX
    obtain ⟨-, -, -, hT⟩ := (hSt j hj).1 0 (by decide)
    have hlen : (rvTxt j).length < 2 ^ 31 := Nat.lt_trans (rvTxt_in j (by omega)).1 (by decide)
    exact va_tlen (v := Int32.ofNat (rvTxt j).length) hx hb hT hS rfl hd (k ws H locs ls _ hw hl ⟨rvR_K (nI_toInt hlen), hs1⟩ hP hD hS)
  · rename_i j st
    obtain ⟨hc, rfl⟩ := rv_bif h
    have hj := rv_blt hc
    obtain ⟨x, stk1, rfl, hx2, hs1⟩ := rvRs_cons hs
    have hx2 : x = .ref (ex 10 j) := hx2
    subst hx2
    obtain ⟨-, hX1, hX2, hX3⟩ := hX.2.2.2.2.2.2.2 j hj
    have hlen : (rvTxt (10 + j)).length < 2 ^ 31 := Nat.lt_trans (rvTxt_in (10 + j) (by omega)).1 (by decide)
    exact va_slen hx hb hX1 hX2 hX3 hS hd (k ws H locs ls _ hw hl ⟨rvR_K (nI_toInt hlen), hs1⟩ hP hD hS)
  · cases h
set_option maxHeartbeats 4000000 in
set_option maxRecDepth 100000 in
theorem rs_iaload (C : rvCx p s m args meth c cc own mL D cT ex A ini sc) {BC BS a1 a2 a3 wi pc kc ks : Nat} {al st : List rvV} {aw : rvH} {o : rvS} (hd : decode cc pc = .ok (.iaload, 1)) (hk : rvAux own ini (.iaload) a1 a2 wi = true) (hBC : BC ≤ R.cells) (hBS : BS ≤ R.slots)
    (h : rvStep rvTy rvNf rvTxt sc BC BS mL (.iaload) a1 a2 a3 pc al st aw kc ks = some o) (k : rvG p l e R s m args below meth c Q D cT ex A mL o) : rvG p l e R s m args below meth c Q D cT ex A mL (pc, al, st, aw, kc, ks) := by
  obtain ⟨hx, hb, hml, hown, hts, hK, hA, hX, hini, hsc⟩ := C
  intro ws H locs ls stk hw hl hs hP hD hS
  dsimp only at hw hl hs ⊢
  simp only [rvStep] at h
  split at h
  · rename_i a0 k0 st
    obtain ⟨y1, stk1, rfl, ⟨n1, rfl, p1, q1⟩, hs1⟩ := rvRs_cons hs
    obtain ⟨x, stk2, rfl, ⟨q, hq, rfl⟩, hs2⟩ := rvRs_cons hs1
    split at h
    · rename_i n d ov hc0
      obtain ⟨⟨a, e0⟩, hq1, hce⟩ := rvWo_get hw hc0
      have hqa := rvAd_ref hq1 hq
      subst hqa
      split at h
      · rename_i j hj
        cases h
        obtain ⟨i1, i2, i3⟩ := rvIdx_ok hj p1 q1
        rcases hce with ⟨-, f, he, hf⟩ | ⟨h0, -⟩ | ⟨h0, -⟩
        · have he : e0 = .inl (cT 0, n, .inl f) := he
          subst he
          exact va_iald (D := D) hx hb hK hP k0 0 hq1 rfl i1 hd (k ws H locs ls _ hw hl ⟨by rw [i2]; exact hf j i3, hs2⟩ hP hD hS)
        · exact absurd h0 (by decide)
        · exact absurd h0 (by decide)
      · cases h
    · cases h
  · rename_i a0 z st
    obtain ⟨y1, stk1, rfl, ⟨n1, rfl, p1, q1⟩, hs1⟩ := rvRs_cons hs
    obtain ⟨x, stk2, rfl, hx2, hs2⟩ := rvRs_cons hs1
    split at h
    · rename_i j hj
      split at h
      · rename_i b hb0
        obtain ⟨hc, rfl⟩ := rv_bif h
        have hz := rv_blt hc
        obtain ⟨i1, i2, i3⟩ := rvIdx_ok hj p1 q1
        have hx2 : x = .ref (ex 10 z) := hx2
        subst hx2
        obtain ⟨-, hX1, hX2, hX3⟩ := hX.2.2.2.2.2.2.2 z hz
        have hval : (Int32.ofInt ((rvTxt (10 + z)).getD n1.toNatClampNeg 0)).toInt = b := by
          rw [i2, List.getD_eq_getElem?_getD, hb0]
          exact (rvTxt_in (10 + z) (by omega)).2 b (List.mem_of_getElem? hb0)
        exact va_sld hx hb hX1 hX2 hX3 hS i1 hd (k ws H locs ls _ hw hl ⟨rvR_K hval, hs2⟩ hP hD hS)
      · cases h
    · cases h
  · rename_i a0 z st
    obtain ⟨y1, stk1, rfl, ⟨n1, rfl, p1, q1⟩, hs1⟩ := rvRs_cons hs
    obtain ⟨x, stk2, rfl, hx2, hs2⟩ := rvRs_cons hs1
    split at h
    · rename_i j hj
      split at h
      · rename_i a ha
        obtain ⟨hc, rfl⟩ := rv_bif h
        obtain ⟨i1, i2, i3⟩ := rvIdx_ok hj p1 q1
        have hz := rv_beq hc
        subst hz
        have hx2 : x = .ref (ex 5 0) := hx2
        subst hx2
        rcases hsc with rfl | ⟨xs, h1, h2, h3, h4⟩
        · simp at ha
        · exact va_sld hx hb h1 h2 h3 hS i1 hd (k ws H locs ls _ hw hl ⟨⟨_, rfl, by rw [i2]; exact (h4 j a ha).1, by rw [i2]; exact (h4 j a ha).2⟩, hs2⟩ hP hD hS)
      · cases h
    · cases h
  · cases h
set_option maxHeartbeats 4000000 in
set_option maxRecDepth 100000 in
theorem rs_baload (C : rvCx p s m args meth c cc own mL D cT ex A ini sc) {BC BS a1 a2 a3 wi pc kc ks : Nat} {al st : List rvV} {aw : rvH} {o : rvS} (hd : decode cc pc = .ok (.baload, 1)) (hk : rvAux own ini (.baload) a1 a2 wi = true) (hBC : BC ≤ R.cells) (hBS : BS ≤ R.slots)
    (h : rvStep rvTy rvNf rvTxt sc BC BS mL (.baload) a1 a2 a3 pc al st aw kc ks = some o) (k : rvG p l e R s m args below meth c Q D cT ex A mL o) : rvG p l e R s m args below meth c Q D cT ex A mL (pc, al, st, aw, kc, ks) := by
  obtain ⟨hx, hb, hml, hown, hts, hK, hA, hX, hini, hsc⟩ := C
  intro ws H locs ls stk hw hl hs hP hD hS
  dsimp only at hw hl hs ⊢
  simp only [rvStep] at h
  split at h
  · rename_i a0 k0 st
    obtain ⟨y1, stk1, rfl, ⟨n1, rfl, p1, q1⟩, hs1⟩ := rvRs_cons hs
    obtain ⟨x, stk2, rfl, ⟨q, hq, rfl⟩, hs2⟩ := rvRs_cons hs1
    split at h
    · rename_i n d ov hc0
      obtain ⟨⟨a, e0⟩, hq1, hce⟩ := rvWo_get hw hc0
      have hqa := rvAd_ref hq1 hq
      subst hqa
      split at h
      · rename_i j hj
        cases h
        obtain ⟨i1, i2, i3⟩ := rvIdx_ok hj p1 q1
        rcases hce with ⟨-, f, he, hf⟩ | ⟨h0, -⟩ | ⟨h0, -⟩
        · have he : e0 = .inl (cT 1, n, .inl f) := he
          subst he
          exact va_bald (D := D) hx hb hK hP k0 1 hq1 rfl i1 hd (k ws H locs ls _ hw hl ⟨by rw [i2]; exact hf j i3, hs2⟩ hP hD hS)
        · exact absurd h0 (by decide)
        · exact absurd h0 (by decide)
      · cases h
    · rename_i n d ov hc0
      obtain ⟨⟨a, e0⟩, hq1, hce⟩ := rvWo_get hw hc0
      have hqa := rvAd_ref hq1 hq
      subst hqa
      split at h
      · rename_i j hj
        cases h
        obtain ⟨i1, i2, i3⟩ := rvIdx_ok hj p1 q1
        rcases hce with ⟨-, f, he, hf⟩ | ⟨h0, -⟩ | ⟨h0, -⟩
        · have he : e0 = .inl (cT 2, n, .inl f) := he
          subst he
          exact va_zald (D := D) hx hb hK hP k0 2 hq1 rfl i1 hd (k ws H locs ls _ hw hl ⟨by rw [i2]; exact hf j i3, hs2⟩ hP hD hS)
        · exact absurd h0 (by decide)
        · exact absurd h0 (by decide)
      · cases h
    · cases h
  · rename_i a0 z st
    obtain ⟨y1, stk1, rfl, ⟨n1, rfl, p1, q1⟩, hs1⟩ := rvRs_cons hs
    obtain ⟨x, stk2, rfl, hx2, hs2⟩ := rvRs_cons hs1
    split at h
    · rename_i j hj
      split at h
      · rename_i b hb0
        obtain ⟨hc, rfl⟩ := rv_bif h
        have hz := rv_blt hc
        obtain ⟨i1, i2, i3⟩ := rvIdx_ok hj p1 q1
        have hx2 : x = .ref (ex 4 z) := hx2
        subst hx2
        obtain ⟨-, -, -, -, hSt, -⟩ := hX
        obtain ⟨-, -, -, hT⟩ := (hSt z hz).1 0 (by decide)
        have hval : (((rvTxt z).map Int32.ofInt).getD j 0).toInt = b := by
          have e1 : ((rvTxt z).map Int32.ofInt).getD j 0 = Int32.ofInt b := by
            rw [List.getD_eq_getElem?_getD, List.getElem?_map, hb0]
            rfl
          rw [e1]
          exact (rvTxt_in z (by omega)).2 b (List.mem_of_getElem? hb0)
        exact va_tb hx hb hT hS i1 (v := .int (((rvTxt z).map Int32.ofInt).getD j 0)) (by rw [i2]; rfl) hd (k ws H locs ls _ hw hl ⟨rvR_K hval, hs2⟩ hP hD hS)
      · cases h
    · cases h
  · cases h
set_option maxHeartbeats 4000000 in
set_option maxRecDepth 100000 in
theorem rs_laload (C : rvCx p s m args meth c cc own mL D cT ex A ini sc) {BC BS a1 a2 a3 wi pc kc ks : Nat} {al st : List rvV} {aw : rvH} {o : rvS} (hd : decode cc pc = .ok (.laload, 1)) (hk : rvAux own ini (.laload) a1 a2 wi = true) (hBC : BC ≤ R.cells) (hBS : BS ≤ R.slots)
    (h : rvStep rvTy rvNf rvTxt sc BC BS mL (.laload) a1 a2 a3 pc al st aw kc ks = some o) (k : rvG p l e R s m args below meth c Q D cT ex A mL o) : rvG p l e R s m args below meth c Q D cT ex A mL (pc, al, st, aw, kc, ks) := by
  obtain ⟨hx, hb, hml, hown, hts, hK, hA, hX, hini, hsc⟩ := C
  intro ws H locs ls stk hw hl hs hP hD hS
  dsimp only at hw hl hs ⊢
  simp only [rvStep] at h
  split at h
  · rename_i a0 k0 st
    obtain ⟨y1, stk1, rfl, ⟨n1, rfl, p1, q1⟩, hs1⟩ := rvRs_cons hs
    obtain ⟨x, stk2, rfl, ⟨q, hq, rfl⟩, hs2⟩ := rvRs_cons hs1
    split at h
    · rename_i n d ov hc0
      obtain ⟨⟨a, e0⟩, hq1, hce⟩ := rvWo_get hw hc0
      have hqa := rvAd_ref hq1 hq
      subst hqa
      split at h
      · rename_i j hj
        obtain ⟨i1, i2, i3⟩ := rvIdx_ok hj p1 q1
        rcases hce with ⟨h0, -⟩ | ⟨-, f, he, hf⟩ | ⟨h0, -⟩
        · exact absurd h0 (by decide)
        · have he : e0 = .inl (cT 3, n, .inr (.inl f)) := he
          subst he
          have hf := hf j i3
          split at h
          · rename_i z hz
            cases h
            rw [hz] at hf
            exact va_lald (D := D) hx hb hK hP k0 3 hq1 rfl i1 hd (k ws H locs ls _ hw hl ⟨by rw [i2]; exact hf, hs2⟩ hP hD hS)
          · cases h
        · exact absurd h0 (by decide)
      · cases h
    · cases h
  · cases h
set_option maxHeartbeats 4000000 in
set_option maxRecDepth 100000 in
theorem rs_aaload (C : rvCx p s m args meth c cc own mL D cT ex A ini sc) {BC BS a1 a2 a3 wi pc kc ks : Nat} {al st : List rvV} {aw : rvH} {o : rvS} (hd : decode cc pc = .ok (.aaload, 1)) (hk : rvAux own ini (.aaload) a1 a2 wi = true) (hBC : BC ≤ R.cells) (hBS : BS ≤ R.slots)
    (h : rvStep rvTy rvNf rvTxt sc BC BS mL (.aaload) a1 a2 a3 pc al st aw kc ks = some o) (k : rvG p l e R s m args below meth c Q D cT ex A mL o) : rvG p l e R s m args below meth c Q D cT ex A mL (pc, al, st, aw, kc, ks) := by
  obtain ⟨hx, hb, hml, hown, hts, hK, hA, hX, hini, hsc⟩ := C
  intro ws H locs ls stk hw hl hs hP hD hS
  dsimp only at hw hl hs ⊢
  simp only [rvStep] at h
  split at h
  · rename_i a0 k0 st
    obtain ⟨y1, stk1, rfl, ⟨n1, rfl, p1, q1⟩, hs1⟩ := rvRs_cons hs
    obtain ⟨x, stk2, rfl, ⟨q, hq, rfl⟩, hs2⟩ := rvRs_cons hs1
    split at h
    · rename_i n d ov hc0
      obtain ⟨⟨a, e0⟩, hq1, hce⟩ := rvWo_get hw hc0
      have hqa := rvAd_ref hq1 hq
      subst hqa
      split at h
      · rename_i j hj
        cases h
        obtain ⟨i1, i2, i3⟩ := rvIdx_ok hj p1 q1
        rcases hce with ⟨h0, -⟩ | ⟨h0, -⟩ | ⟨-, f, he, hf⟩
        · exact absurd h0 (by decide)
        · exact absurd h0 (by decide)
        · have he : e0 = .inl (cT 4, n, .inr (.inr (.inr (.inr f)))) := he
          subst he
          exact va_aldq (D := D) (C := RX2) hx hb hK hP k0 4 hq1 rfl i1 hd (k ws H locs ls _ hw hl ⟨by rw [i2]; exact hf j i3, hs2⟩ hP hD hS)
      · cases h
    · rename_i n d ov hc0
      obtain ⟨⟨a, e0⟩, hq1, hce⟩ := rvWo_get hw hc0
      have hqa := rvAd_ref hq1 hq
      subst hqa
      split at h
      · rename_i j hj
        cases h
        obtain ⟨i1, i2, i3⟩ := rvIdx_ok hj p1 q1
        rcases hce with ⟨h0, -⟩ | ⟨h0, -⟩ | ⟨-, f, he, hf⟩
        · exact absurd h0 (by decide)
        · exact absurd h0 (by decide)
        · have he : e0 = .inl (cT 5, n, .inr (.inr (.inr (.inr f)))) := he
          subst he
          exact va_aldq (D := D) (C := RX6) hx hb hK hP k0 5 hq1 rfl i1 hd (k ws H locs ls _ hw hl ⟨by rw [i2]; exact hf j i3, hs2⟩ hP hD hS)
      · cases h
    · cases h
  · cases h
/-- a row of ints behind a store -/
theorem rvRow_up {ad : List Nat} {d : rvV} {ov : List (Nat × rvV)} {n j : Nat} {v : rvV} {f : Nat → Int32} {y : Int32} (hf : ∀ i, i < n → rvR ad ex (rvLook d ov i) (.int (f i))) (hv : rvR ad ex v (.int y)) : ∀ i, i < n → rvR ad ex (rvLook d (rvUp ov j v) i) (.int (upd f j y i)) := by
  intro i hi
  rw [rvLook_up]
  by_cases h : i = j
  · rw [if_pos h]
    show rvR ad ex v (.int (if i = j then y else f i))
    rw [if_pos h]
    exact hv
  · rw [if_neg h]
    show rvR ad ex (rvLook d ov i) (.int (if i = j then y else f i))
    rw [if_neg h]
    exact hf i hi
theorem rvRow_upq {ad : List Nat} {d : rvV} {ov : List (Nat × rvV)} {n j : Nat} {v : rvV} {f : Nat → Option Nat} {y : Option Nat} (hf : ∀ i, i < n → rvR ad ex (rvLook d ov i) (va_rf (f i))) (hv : rvR ad ex v (va_rf y)) : ∀ i, i < n → rvR ad ex (rvLook d (rvUp ov j v) i) (va_rf (va_up f j y i)) := by
  intro i hi
  rw [rvLook_up]
  by_cases h : i = j
  · rw [if_pos h, h, va_up_self]
    exact hv
  · rw [if_neg h, va_up_ne _ _ h]
    exact hf i hi
set_option maxHeartbeats 4000000 in
set_option maxRecDepth 100000 in
theorem rs_iastore (C : rvCx p s m args meth c cc own mL D cT ex A ini sc) {BC BS a1 a2 a3 wi pc kc ks : Nat} {al st : List rvV} {aw : rvH} {o : rvS} (hd : decode cc pc = .ok (.iastore, 1)) (hk : rvAux own ini (.iastore) a1 a2 wi = true) (hBC : BC ≤ R.cells) (hBS : BS ≤ R.slots)
    (h : rvStep rvTy rvNf rvTxt sc BC BS mL (.iastore) a1 a2 a3 pc al st aw kc ks = some o) (k : rvG p l e R s m args below meth c Q D cT ex A mL o) : rvG p l e R s m args below meth c Q D cT ex A mL (pc, al, st, aw, kc, ks) := by
  obtain ⟨hx, hb, hml, hown, hts, hK, hA, hX, hini, hsc⟩ := C
  intro ws H locs ls stk hw hl hs hP hD hS
  dsimp only at hw hl hs ⊢
  simp only [rvStep] at h
  split at h
  · rename_i v0 a0 k0 st
    obtain ⟨y0, stk0, rfl, ⟨n0, rfl, p0, q0⟩, hs0⟩ := rvRs_cons hs
    obtain ⟨y1, stk1, rfl, ⟨n1, rfl, p1, q1⟩, hs1⟩ := rvRs_cons hs0
    obtain ⟨x, stk2, rfl, ⟨q, hq, rfl⟩, hs2⟩ := rvRs_cons hs1
    split at h
    · rename_i n d ov hc0
      obtain ⟨⟨a, e0⟩, hq1, hce⟩ := rvWo_get hw hc0
      have hqa := rvAd_ref hq1 hq
      subst hqa
      split at h
      · rename_i j hj
        cases h
        obtain ⟨i1, i2, i3⟩ := rvIdx_ok hj p1 q1
        rcases hce with ⟨-, f, he, hf⟩ | ⟨h0, -⟩ | ⟨h0, -⟩
        · have he : e0 = .inl (cT 0, n, .inl f) := he
          subst he
          refine va_iast (D := D) hx hb hK hP hD hS k0 0 hq1 rfl i1 hd (fun H1 locs1 hP1 hD1 hS1 => ?_)
          have ea := rvAd_set (e := .inl (cT 0, n, .inl (upd f n1.toNatClampNeg n0))) hq1
          refine k _ H1 locs1 ls stk2 ?_ ?_ ?_ hP1 hD1 hS1
          · rw [ea]
            refine rvWo_set hw (Or.inl ⟨by decide, _, rfl, ?_⟩)
            rw [i2]
            exact rvRow_up hf ⟨n0, rfl, p0, q0⟩
          · rw [ea]; exact hl
          · rw [ea]; exact hs2
        · exact absurd h0 (by decide)
        · exact absurd h0 (by decide)
      · cases h
    · cases h
  · cases h
set_option maxHeartbeats 4000000 in
set_option maxRecDepth 100000 in
theorem rs_bastore (C : rvCx p s m args meth c cc own mL D cT ex A ini sc) {BC BS a1 a2 a3 wi pc kc ks : Nat} {al st : List rvV} {aw : rvH} {o : rvS} (hd : decode cc pc = .ok (.bastore, 1)) (hk : rvAux own ini (.bastore) a1 a2 wi = true) (hBC : BC ≤ R.cells) (hBS : BS ≤ R.slots)
    (h : rvStep rvTy rvNf rvTxt sc BC BS mL (.bastore) a1 a2 a3 pc al st aw kc ks = some o) (k : rvG p l e R s m args below meth c Q D cT ex A mL o) : rvG p l e R s m args below meth c Q D cT ex A mL (pc, al, st, aw, kc, ks) := by
  obtain ⟨hx, hb, hml, hown, hts, hK, hA, hX, hini, hsc⟩ := C
  intro ws H locs ls stk hw hl hs hP hD hS
  dsimp only at hw hl hs ⊢
  simp only [rvStep] at h
  split at h
  · rename_i v0 a0 k0 st
    obtain ⟨y0, stk0, rfl, ⟨n0, rfl, p0, q0⟩, hs0⟩ := rvRs_cons hs
    obtain ⟨y1, stk1, rfl, ⟨n1, rfl, p1, q1⟩, hs1⟩ := rvRs_cons hs0
    obtain ⟨x, stk2, rfl, ⟨q, hq, rfl⟩, hs2⟩ := rvRs_cons hs1
    split at h
    · rename_i n d ov hc0
      obtain ⟨⟨a, e0⟩, hq1, hce⟩ := rvWo_get hw hc0
      have hqa := rvAd_ref hq1 hq
      subst hqa
      split at h
      · rename_i j hj
        obtain ⟨hc, rfl⟩ := rv_bif h
        have hna : vp_nar .byte n0 = n0 := by
          obtain ⟨g1, -⟩ := rvFit_ok (ad := rvAd ws) (ex := ex) (ty := .byte) (v := .inl v0) (x := .int n0) hc ⟨n0, rfl, p0, q0⟩
          exact Value.int.inj g1
        obtain ⟨i1, i2, i3⟩ := rvIdx_ok hj p1 q1
        rcases hce with ⟨-, f, he, hf⟩ | ⟨h0, -⟩ | ⟨h0, -⟩
        · have he : e0 = .inl (cT 1, n, .inl f) := he
          subst he
          refine va_bast (D := D) hx hb hK hP hD hS k0 1 hq1 rfl i1 hd (fun H1 locs1 hP1 hD1 hS1 => ?_)
          have ea := rvAd_set (e := .inl (cT 1, n, .inl (upd f n1.toNatClampNeg (vp_nar .byte n0)))) hq1
          refine k _ H1 locs1 ls stk2 ?_ ?_ ?_ hP1 hD1 hS1
          · rw [ea]
            refine rvWo_set hw (Or.inl ⟨by decide, _, rfl, ?_⟩)
            rw [i2]
            exact rvRow_up hf ⟨n0, by rw [hna], p0, q0⟩
          · rw [ea]; exact hl
          · rw [ea]; exact hs2
        · exact absurd h0 (by decide)
        · exact absurd h0 (by decide)
      · cases h
    · rename_i n d ov hc0
      obtain ⟨⟨a, e0⟩, hq1, hce⟩ := rvWo_get hw hc0
      have hqa := rvAd_ref hq1 hq
      subst hqa
      split at h
      · rename_i j hj
        obtain ⟨hc, rfl⟩ := rv_bif h
        have hna : vp_nar .boolean n0 = n0 := by
          obtain ⟨g1, -⟩ := rvFit_ok (ad := rvAd ws) (ex := ex) (ty := .boolean) (v := .inl v0) (x := .int n0) hc ⟨n0, rfl, p0, q0⟩
          exact Value.int.inj g1
        obtain ⟨i1, i2, i3⟩ := rvIdx_ok hj p1 q1
        rcases hce with ⟨-, f, he, hf⟩ | ⟨h0, -⟩ | ⟨h0, -⟩
        · have he : e0 = .inl (cT 2, n, .inl f) := he
          subst he
          refine va_zast (D := D) hx hb hK hP hD hS k0 2 hq1 rfl i1 hd (fun H1 locs1 hP1 hD1 hS1 => ?_)
          have ea := rvAd_set (e := .inl (cT 2, n, .inl (upd f n1.toNatClampNeg (vp_nar .boolean n0)))) hq1
          refine k _ H1 locs1 ls stk2 ?_ ?_ ?_ hP1 hD1 hS1
          · rw [ea]
            refine rvWo_set hw (Or.inl ⟨by decide, _, rfl, ?_⟩)
            rw [i2]
            exact rvRow_up hf ⟨n0, by rw [hna], p0, q0⟩
          · rw [ea]; exact hl
          · rw [ea]; exact hs2
        · exact absurd h0 (by decide)
        · exact absurd h0 (by decide)
      · cases h
    · cases h
  · cases h
set_option maxHeartbeats 4000000 in
set_option maxRecDepth 100000 in
theorem rs_lastore (C : rvCx p s m args meth c cc own mL D cT ex A ini sc) {BC BS a1 a2 a3 wi pc kc ks : Nat} {al st : List rvV} {aw : rvH} {o : rvS} (hd : decode cc pc = .ok (.lastore, 1)) (hk : rvAux own ini (.lastore) a1 a2 wi = true) (hBC : BC ≤ R.cells) (hBS : BS ≤ R.slots)
    (h : rvStep rvTy rvNf rvTxt sc BC BS mL (.lastore) a1 a2 a3 pc al st aw kc ks = some o) (k : rvG p l e R s m args below meth c Q D cT ex A mL o) : rvG p l e R s m args below meth c Q D cT ex A mL (pc, al, st, aw, kc, ks) := by
  obtain ⟨hx, hb, hml, hown, hts, hK, hA, hX, hini, hsc⟩ := C
  intro ws H locs ls stk hw hl hs hP hD hS
  dsimp only at hw hl hs ⊢
  simp only [rvStep] at h
  split at h
  · rename_i z0 a0 k0 st
    obtain ⟨y0, stk0, rfl, ⟨n0, rfl, hz0⟩, hs0⟩ := rvRs_cons hs
    obtain ⟨y1, stk1, rfl, ⟨n1, rfl, p1, q1⟩, hs1⟩ := rvRs_cons hs0
    obtain ⟨x, stk2, rfl, ⟨q, hq, rfl⟩, hs2⟩ := rvRs_cons hs1
    split at h
    · rename_i n d ov hc0
      obtain ⟨⟨a, e0⟩, hq1, hce⟩ := rvWo_get hw hc0
      have hqa := rvAd_ref hq1 hq
      subst hqa
      split at h
      · rename_i j hj
        cases h
        obtain ⟨i1, i2, i3⟩ := rvIdx_ok hj p1 q1
        rcases hce with ⟨h0, -⟩ | ⟨-, f, he, hf⟩ | ⟨h0, -⟩
        · exact absurd h0 (by decide)
        · have he : e0 = .inl (cT 3, n, .inr (.inl f)) := he
          subst he
          refine va_last (D := D) hx hb hK hP hD hS k0 3 hq1 rfl i1 hd (fun H1 locs1 hP1 hD1 hS1 => ?_)
          have ea := rvAd_set (e := .inl (cT 3, n, .inr (.inl (vp_updL f n1.toNatClampNeg n0)))) hq1
          refine k _ H1 locs1 ls stk2 ?_ ?_ ?_ hP1 hD1 hS1
          · rw [ea]
            refine rvWo_set hw (Or.inr (Or.inl ⟨rfl, _, rfl, fun j2 hj2 => ?_⟩))
            rw [rvLook_up, i2]
            unfold vp_updL
            by_cases hjj : j2 = j
            · rw [if_pos hjj]
              simp only [hjj, if_true]
              exact ⟨n0, rfl, hz0⟩
            · rw [if_neg hjj]
              simp only [hjj, if_false]
              exact hf j2 hj2
          · rw [ea]; exact hl
          · rw [ea]; exact hs2
        · exact absurd h0 (by decide)
      · cases h
    · cases h
  · cases h
end RVH
