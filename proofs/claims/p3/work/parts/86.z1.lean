section RVA
variable {tys : Nat → Nat → FieldType} {nf : Nat → Nat} {txt : Nat → List Int} {sc : List (Int × Int)} {call : Nat → List rvV → rvH → rvO} {info : Nat → rvM} {tab : Nat → Option rvE} {stop BF BC BS BL mL : Nat}
/-- a run behind a run -/
theorem rvRun_add {b : Nat} {o : rvS} {pc1 : Nat} {al1 st1 : List rvV} {aw1 : rvH} {kc1 ks1 : Nat} (h2 : rvRun tys nf txt sc call info tab stop BF BC BS BL mL b pc1 al1 st1 aw1 kc1 ks1 = some o) :
    ∀ (a pc : Nat) (al st : List rvV) (aw : rvH) (kc ks : Nat), rvRun tys nf txt sc call info tab stop BF BC BS BL mL a pc al st aw kc ks = some (pc1, al1, st1, aw1, kc1, ks1) → rvRun tys nf txt sc call info tab stop BF BC BS BL mL (a + b) pc al st aw kc ks = some o
  | 0, pc, al, st, aw, kc, ks, h => by
      have h : some (pc, al, st, aw, kc, ks) = some (pc1, al1, st1, aw1, kc1, ks1) := h
      cases h
      rw [Nat.zero_add]
      exact h2
  | a + 1, pc, al, st, aw, kc, ks, h => by
      have h : (match rvNext tys nf txt sc call info tab stop BF BC BS BL mL pc al st aw kc ks with
        | none => none
        | some none => some (pc, al, st, aw, kc, ks)
        | some (some (pc, al, st, aw, kc, ks)) => rvRun tys nf txt sc call info tab stop BF BC BS BL mL a pc al st aw kc ks) = some (pc1, al1, st1, aw1, kc1, ks1) := h
      rw [show a + 1 + b = (a + b) + 1 by omega]
      show (match rvNext tys nf txt sc call info tab stop BF BC BS BL mL pc al st aw kc ks with
        | none => none
        | some none => some (pc, al, st, aw, kc, ks)
        | some (some (pc, al, st, aw, kc, ks)) => rvRun tys nf txt sc call info tab stop BF BC BS BL mL (a + b) pc al st aw kc ks) = some o
      split at h
      · cases h
      · rename_i hn
        cases h
        cases b with
        | zero => exact h2
        | succ b =>
          have h2 : (match rvNext tys nf txt sc call info tab stop BF BC BS BL mL pc1 al1 st1 aw1 kc1 ks1 with
            | none => none
            | some none => some (pc1, al1, st1, aw1, kc1, ks1)
            | some (some (pc, al, st, aw, kc, ks)) => rvRun tys nf txt sc call info tab stop BF BC BS BL mL b pc al st aw kc ks) = some o := h2
          rw [hn] at h2
          exact h2
      · rename_i pc9 al9 st9 aw9 kc9 ks9 hn
        exact rvRun_add h2 a pc9 al9 st9 aw9 kc9 ks9 h
end RVA
def rvI1 : DecidableEq rvV := inferInstance
def rvI8 : DecidableEq rvC := @instDecidableEqSum _ _ (@instDecidableEqProd _ _ _ (@instDecidableEqList _ rvI1)) (@instDecidableEqProd _ _ _ (@instDecidableEqProd _ _ _ (@instDecidableEqProd _ _ rvI1 (@instDecidableEqList _ (@instDecidableEqProd _ _ _ rvI1)))))
def rvI9 : DecidableEq rvH := @instDecidableEqList _ rvI8
def rvOk (o : Option rvS) (r : rvS) : Bool := match o with
  | some (pc, al, st, aw, kc, ks) => Nat.beq pc r.1 && (decide (al = r.2.1) && (decide (st = r.2.2.1) && (@decide (aw = r.2.2.2.1) (rvI9 aw r.2.2.2.1) && (Nat.beq kc r.2.2.2.2.1 && Nat.beq ks r.2.2.2.2.2))))
  | none => false
theorem rvOk_ok {o : Option rvS} {r : rvS} (h : rvOk o r = true) : o = some r := by
  obtain ⟨a, b, c, d, e, f⟩ := r
  unfold rvOk at h
  split at h
  · rename_i pc al st aw kc ks
    obtain ⟨h1, h⟩ := rv_and h
    obtain ⟨h2, h⟩ := rv_and h
    obtain ⟨h3, h⟩ := rv_and h
    obtain ⟨h4, h⟩ := rv_and h
    obtain ⟨h5, h6⟩ := rv_and h
    have e1 : pc = a := rv_beq h1
    have e2 : al = b := of_decide_eq_true h2
    have e3 : st = c := of_decide_eq_true h3
    have e4 : aw = d := @of_decide_eq_true _ (rvI9 aw d) h4
    have e5 : kc = e := rv_beq h5
    have e6 : ks = f := rv_beq h6
    rw [e1, e2, e3, e4, e5, e6]
  · cases h
def rvOkm (o r : rvO) : Bool := match o, r with
  | some (v, aw), some (w, ax) => decide (v = w) && @decide (aw = ax) (rvI9 aw ax)
  | _, _ => false
theorem rvOkm_ok {o r : rvO} (h : rvOkm o r = true) : o = r := by
  unfold rvOkm at h
  split at h
  · rename_i v aw w ax
    obtain ⟨h1, h2⟩ := rv_and h
    have e1 : v = w := of_decide_eq_true h1
    have e2 : aw = ax := @of_decide_eq_true _ (rvI9 aw ax) h2
    rw [e1, e2]
  · cases h
noncomputable def rzX0 (d : Nat) : Nat → List rvV → rvH → rvO := rvExec rvTy rvNf rvTxt (fun _ _ _ => none) rzInf rzRet rzTab 100000 d
def rzAwT : rvH := [.inl (11, [.inr (0, 0), .inr (0, 0), .inr (0, 0), .inr (0, 0), .inr (0, 0), .inr (0, 0), .inr (0, 0), .inr (0, 0), .inr (0, 0), .inr (0, 0), .inr (0, 0), .inr (0, 0), .inr (0, 0), .inr (0, 0), .inl (0, 0)]), .inl (9, [.inr (0, 0), .inr (0, 0), .inl (0, 0), .inr (0, 0), .inr (0, 0), .inr (0, 0), .inr (0, 0), .inl (0, 0), .inl (0, 0), .inl (0, 0), .inl (0, 0), .inl (0, 0), .inr (1, 0), .inl (0, 0), .inl (0, 0)])]
def rzAwU : rvH := [.inl (11, [.inr (0, 0), .inr (0, 0), .inr (0, 0), .inr (0, 0), .inr (0, 0), .inr (0, 0), .inr (0, 0), .inr (0, 0), .inr (0, 0), .inr (0, 0), .inr (0, 0), .inr (0, 0), .inr (0, 0), .inr (0, 0), .inl (0, 0)]), .inl (9, [.inr (2, 2), .inr (2, 3), .inl (0, 0), .inr (2, 4), .inr (2, 5), .inr (2, 6), .inr (2, 7), .inl (0, 0), .inl (0, 0), .inl (0, 0), .inl (0, 0), .inl (0, 0), .inr (1, 0), .inl (0, 0), .inl (0, 0)]), .inr (1, 940, .inl (0, 0), []), .inr (3, 23, .inr (1, 0), []), .inr (1, 941, .inl (0, 0), []), .inr (0, 941, .inl (0, 0), []), .inr (0, 941, .inl (0, 0), []), .inr (3, 941, .inr (1, 0), [])]
theorem tzp_0 : rvRun rvTy rvNf rvTxt [] (rzX0 6) rzInf (rzTab 1) 99999999 4 6 4727 85 6 250 0 [.inr (2, 1), .inr (9, 0), .inr (9, 0), .inr (9, 0), .inr (9, 0), .inr (9, 0)] [] rzAwT 0 0 = some (93, [.inr (2, 1), .inl (1, 1), .inr (1, 0), .inr (9, 0), .inl (10, 10), .inl (109, 109)], [.inl (32, 32), .inl (109, 109)], rzAwU, 6, 4727) := rvOk_ok (by decide +kernel)
theorem tzp_1 : rvRun rvTy rvNf rvTxt [] (rzX0 6) rzInf (rzTab 1) 99999999 4 6 4727 85 6 250 93 [.inr (2, 1), .inl (1, 1), .inr (1, 0), .inr (9, 0), .inl (10, 10), .inl (109, 109)] [.inl (32, 32), .inl (109, 109)] rzAwU 6 4727 = some (93, [.inr (2, 1), .inl (3, 3), .inr (1, 0), .inr (9, 0), .inl (22, 22), .inl (107, 107)], [.inl (32, 32), .inl (107, 107)], rzAwU, 6, 4727) := rvOk_ok (by decide +kernel)
theorem tzp_2 : rvRun rvTy rvNf rvTxt [] (rzX0 6) rzInf (rzTab 1) 99999999 4 6 4727 85 6 250 93 [.inr (2, 1), .inl (3, 3), .inr (1, 0), .inr (9, 0), .inl (22, 22), .inl (107, 107)] [.inl (32, 32), .inl (107, 107)] rzAwU 6 4727 = some (82, [.inr (2, 1), .inl (6, 6), .inr (1, 1), .inr (9, 0), .inl (34, 34), .inl (32, 32)], [.inr (3, 0)], rzAwU, 6, 4727) := rvOk_ok (by decide +kernel)
theorem tzp_3 : rvRun rvTy rvNf rvTxt [] (rzX0 6) rzInf (rzTab 1) 99999999 4 6 4727 85 6 250 82 [.inr (2, 1), .inl (6, 6), .inr (1, 1), .inr (9, 0), .inl (34, 34), .inl (32, 32)] [.inr (3, 0)] rzAwU 6 4727 = some (82, [.inr (2, 1), .inl (8, 8), .inr (1, 0), .inr (9, 0), .inl (46, 46), .inl (111, 111)], [.inr (3, 0)], rzAwU, 6, 4727) := rvOk_ok (by decide +kernel)
theorem tzp_4 : rvRun rvTy rvNf rvTxt [] (rzX0 6) rzInf (rzTab 1) 99999999 4 6 4727 85 6 250 82 [.inr (2, 1), .inl (8, 8), .inr (1, 0), .inr (9, 0), .inl (46, 46), .inl (111, 111)] [.inr (3, 0)] rzAwU 6 4727 = some (82, [.inr (2, 1), .inl (10, 10), .inr (1, 0), .inr (9, 0), .inl (58, 58), .inl (116, 116)], [.inr (3, 0)], rzAwU, 6, 4727) := rvOk_ok (by decide +kernel)
theorem tzp_5 : rvRun rvTy rvNf rvTxt [] (rzX0 6) rzInf (rzTab 1) 99999999 4 6 4727 85 6 250 82 [.inr (2, 1), .inl (10, 10), .inr (1, 0), .inr (9, 0), .inl (58, 58), .inl (116, 116)] [.inr (3, 0)] rzAwU 6 4727 = some (82, [.inr (2, 1), .inl (12, 12), .inr (1, 0), .inr (9, 0), .inl (70, 70), .inl (101, 101)], [.inr (3, 0)], rzAwU, 6, 4727) := rvOk_ok (by decide +kernel)
theorem tzp_6 : rvRun rvTy rvNf rvTxt [] (rzX0 6) rzInf (rzTab 1) 99999999 4 6 4727 85 6 250 82 [.inr (2, 1), .inl (12, 12), .inr (1, 0), .inr (9, 0), .inl (70, 70), .inl (101, 101)] [.inr (3, 0)] rzAwU 6 4727 = some (82, [.inr (2, 1), .inl (14, 14), .inr (1, 0), .inr (9, 0), .inl (82, 82), .inl (109, 109)], [.inr (3, 0)], rzAwU, 6, 4727) := rvOk_ok (by decide +kernel)
theorem tzp_7 : rvRun rvTy rvNf rvTxt [] (rzX0 6) rzInf (rzTab 1) 99999999 4 6 4727 85 6 250 82 [.inr (2, 1), .inl (14, 14), .inr (1, 0), .inr (9, 0), .inl (82, 82), .inl (109, 109)] [.inr (3, 0)] rzAwU 6 4727 = some (71, [.inr (2, 1), .inl (17, 17), .inr (1, 0), .inr (9, 0), .inl (94, 94), .inl (97, 97)], [.inl (123, 123), .inl (94, 94)], rzAwU, 6, 4727) := rvOk_ok (by decide +kernel)
theorem tzp_8 : rvRun rvTy rvNf rvTxt [] (rzX0 6) rzInf (rzTab 1) 99999999 4 6 4727 85 6 250 71 [.inr (2, 1), .inl (17, 17), .inr (1, 0), .inr (9, 0), .inl (94, 94), .inl (97, 97)] [.inl (123, 123), .inl (94, 94)] rzAwU 6 4727 = some (118, [.inr (2, 1), .inl (20, 20), .inr (1, 0), .inr (9, 0), .inl (105, 105), .inl (105, 105)], [], rzAwU, 6, 4727) := rvOk_ok (by decide +kernel)
theorem tzp_9 : rvRun rvTy rvNf rvTxt [] (rzX0 6) rzInf (rzTab 1) 99999999 4 6 4727 85 6 250 118 [.inr (2, 1), .inl (20, 20), .inr (1, 0), .inr (9, 0), .inl (105, 105), .inl (105, 105)] [] rzAwU 6 4727 = some (118, [.inr (2, 1), .inl (22, 22), .inr (1, 0), .inr (9, 0), .inl (117, 117), .inl (117, 117)], [], rzAwU, 6, 4727) := rvOk_ok (by decide +kernel)
theorem tzp_10 : rvRun rvTy rvNf rvTxt [] (rzX0 6) rzInf (rzTab 1) 99999999 4 6 4727 85 6 250 118 [.inr (2, 1), .inl (22, 22), .inr (1, 0), .inr (9, 0), .inl (117, 117), .inl (117, 117)] [] rzAwU 6 4727 = some (124, [.inr (2, 1), .inl (23, 23), .inr (1, 1), .inr (9, 0), .inl (123, 123), .inl (32, 32)], [], rzAwU, 6, 4727) := rvOk_ok (by decide +kernel)
theorem rzInf_T : rzInf 1 = (6, 4, 6, 4727, 85, 9) := by decide +kernel
theorem tzp_all : rvRun rvTy rvNf rvTxt [] (rzX0 6) rzInf (rzTab 1) 99999999 4 6 4727 85 6 (250 + (250 + (250 + (250 + (250 + (250 + (250 + (250 + (250 + (250 + 250)))))))))) 0 [.inr (2, 1), .inr (9, 0), .inr (9, 0), .inr (9, 0), .inr (9, 0), .inr (9, 0)] [] rzAwT 0 0 = some (124, [.inr (2, 1), .inl (23, 23), .inr (1, 1), .inr (9, 0), .inl (123, 123), .inl (32, 32)], [], rzAwU, 6, 4727) := (rvRun_add (rvRun_add (rvRun_add (rvRun_add (rvRun_add (rvRun_add (rvRun_add (rvRun_add (rvRun_add (rvRun_add tzp_10 _ _ _ _ _ _ _ tzp_9) _ _ _ _ _ _ _ tzp_8) _ _ _ _ _ _ _ tzp_7) _ _ _ _ _ _ _ tzp_6) _ _ _ _ _ _ _ tzp_5) _ _ _ _ _ _ _ tzp_4) _ _ _ _ _ _ _ tzp_3) _ _ _ _ _ _ _ tzp_2) _ _ _ _ _ _ _ tzp_1) _ _ _ _ _ _ _ tzp_0)
theorem rzMet_T {l : Launch} {D : va_G} {cB : Nat → ClassId} {ex : Nat → Nat → Nat} : rvMet l D cB ex rzYn rzCd rzInf rzRet 1 [.inr (2, 1)] rzAwT (none, rzAwU) := by
  refine rvBody_ok (call := rzX0 6) rvBase_ok rzM_all rzT_all (fun j as aw r hj h => rvExec_ok rzP_all rvBase_ok rzM_all rzT_all (fun _ _ _ _ _ h => by cases h) 100000 6 j as aw r hj h) (n := (250 + (250 + (250 + (250 + (250 + (250 + (250 + (250 + (250 + (250 + 250))))))))))) (by decide) (rzP_all 1 (by decide)) (by rw [rzInf_T]; decide) ?_
  rw [rzInf_T]
  show rvEnd (rzTab 1) (rzRet 1) 6 4727 (rvRun rvTy rvNf rvTxt [] (rzX0 6) rzInf (rzTab 1) 99999999 4 6 4727 85 6 (250 + (250 + (250 + (250 + (250 + (250 + (250 + (250 + (250 + (250 + 250)))))))))) 0 [.inr (2, 1), .inr (9, 0), .inr (9, 0), .inr (9, 0), .inr (9, 0), .inr (9, 0)] [] rzAwT 0 0) = _
  rw [tzp_all]
  exact rvOkm_ok (by decide +kernel)
def rzOrc : Nat → List rvV → rvH → rvO := fun j as aw => bif Nat.beq j 1 && (decide (as = [.inr (2, 1)]) && @decide (aw = rzAwT) (rvI9 aw rzAwT)) then some (none, rzAwU) else none
theorem rzOrc_ok {l : Launch} {D : va_G} {cB : Nat → ClassId} {ex : Nat → Nat → Nat} : ∀ j as aw r, j < 20 → rzOrc j as aw = some r → rvMet l D cB ex rzYn rzCd rzInf rzRet j as aw r := by
  intro j as aw r hj h
  obtain ⟨hc, rfl⟩ := rv_bif h
  obtain ⟨h1, h2⟩ := rv_and hc
  obtain ⟨h2, h3⟩ := rv_and h2
  have e1 := rv_beq h1
  have e2 := of_decide_eq_true h2
  have e3 : aw = rzAwT := @of_decide_eq_true _ (rvI9 aw rzAwT) h3
  subst e1; subst e2; subst e3
  exact rzMet_T
noncomputable def rzX1 (d : Nat) : Nat → List rvV → rvH → rvO := rvExec rvTy rvNf rvTxt rzOrc rzInf rzRet rzTab 100000 d
def rzAw0 : rvH := [.inl (11, [.inr (2, 1), .inr (2, 35), .inr (2, 41), .inr (2, 47), .inr (2, 8), .inr (2, 9), .inr (2, 10), .inr (2, 11), .inr (2, 12), .inr (2, 13), .inr (2, 17), .inr (2, 22), .inr (2, 25), .inr (0, 0), .inl (0, 0)]), .inl (9, [.inr (2, 2), .inr (2, 3), .inl (0, 0), .inr (2, 4), .inr (2, 5), .inr (2, 6), .inr (2, 7), .inl (0, 0), .inl (0, 0), .inl (0, 0), .inl (0, 0), .inl (0, 0), .inr (1, 0), .inl (0, 0), .inl (0, 0)]), .inr (1, 940, .inl (0, 0), []), .inr (3, 23, .inr (1, 0), []), .inr (1, 941, .inl (0, 0), []), .inr (0, 941, .inl (0, 0), []), .inr (0, 941, .inl (0, 0), []), .inr (3, 941, .inr (1, 0), []), .inr (4, 2, .inr (0, 0), [(0, .inr (2, 97)), (1, .inr (2, 103))]), .inr (2, 2, .inl (0, 0), []), .inr (5, 2, .inr (0, 0), []), .inl (1, [.inr (2, 1), .inr (0, 0), .inr (0, 0)]), .inl (7, [.inr (2, 1), .inr (0, 0), .inr (0, 0), .inl (0, 0)]), .inl (0, [.inr (2, 14), .inr (2, 15), .inr (2, 16), .inl (0, 0), .inl (0, 0), .inl (0, 0), .inl (0, 0), .inl (0, 0), .inl (0, 0)]), .inr (0, 40, .inl (0, 0), []), .inr (0, 40, .inl (0, 0), []), .inr (0, 40, .inl (0, 0), []), .inl (5, [.inl ((-1), (-1)), .inl ((-1), (-1)), .inl ((-1), (-1)), .inl ((-1), (-1)), .inr (2, 18), .inr (2, 19), .inr (2, 20), .inr (2, 21), .inl (0, 0), .inl (0, 0)]), .inr (0, 1024, .inl (0, 0), []), .inr (0, 1024, .inl (0, 0), []), .inr (0, 128, .inl (0, 0), []), .inr (0, 10, .inl (0, 0), []), .inl (8, [.inl ((-1), (-1)), .inl ((-1), (-1)), .inr (2, 23), .inr (2, 24), .inl (0, 0)]), .inr (0, 1024, .inl (0, 0), []), .inr (0, 11, .inl (0, 0), []), .inl (4, [.inr (2, 26), .inl (0, 0)]), .inr (0, 64, .inl (0, 0), []), .inl (10, [.inr (2, 28), .inr (2, 29), .inr (2, 30), .inr (2, 31), .inr (2, 32), .inr (2, 33), .inr (2, 34), .inl (0, 0)]), .inr (0, 4, .inl (0, 0), []), .inr (3, 40, .inr (1, 0), []), .inr (0, 10, .inl (0, 0), []), .inr (0, 30, .inl (0, 0), []), .inr (0, 3, .inl (0, 0), []), .inr (0, 3, .inl (0, 0), []), .inr (0, 3, .inl (0, 0), []), .inl (2, [.inr (2, 27), .inl (0, 0), .inl (0, 0), .inl (0, 0), .inl (0, 0), .inl (0, 0), .inr (2, 36), .inr (2, 37), .inr (2, 38), .inr (2, 39), .inr (2, 40)]), .inr (0, 10, .inl (0, 0), []), .inr (0, 3, .inl (0, 0), []), .inr (0, 12, .inl (0, 0), []), .inr (0, 10, .inl (0, 0), []), .inr (0, 36, .inl (0, 0), []), .inl (2, [.inr (2, 27), .inl (0, 0), .inl (0, 0), .inl (0, 0), .inl (0, 0), .inl (0, 0), .inr (2, 42), .inr (2, 43), .inr (2, 44), .inr (2, 45), .inr (2, 46)]), .inr (0, 10, .inl (0, 0), []), .inr (0, 3, .inl (0, 0), []), .inr (0, 12, .inl (0, 0), []), .inr (0, 10, .inl (0, 0), []), .inr (0, 36, .inl (0, 0), []), .inl (3, [.inr (2, 48), .inl (0, 0)]), .inr (4, 8, .inr (0, 0), [(0, .inr (2, 49)), (1, .inr (2, 55)), (2, .inr (2, 61)), (3, .inr (2, 67)), (4, .inr (2, 73)), (5, .inr (2, 79)), (6, .inr (2, 85)), (7, .inr (2, 91))]), .inl (2, [.inr (2, 27), .inl (0, 0), .inl (0, 0), .inl (0, 0), .inl (0, 0), .inl (0, 0), .inr (2, 50), .inr (2, 51), .inr (2, 52), .inr (2, 53), .inr (2, 54)]), .inr (0, 10, .inl (0, 0), []), .inr (0, 3, .inl (0, 0), []), .inr (0, 12, .inl (0, 0), []), .inr (0, 10, .inl (0, 0), []), .inr (0, 36, .inl (0, 0), []), .inl (2, [.inr (2, 27), .inl (0, 0), .inl (0, 0), .inl (0, 0), .inl (0, 0), .inl (0, 0), .inr (2, 56), .inr (2, 57), .inr (2, 58), .inr (2, 59), .inr (2, 60)]), .inr (0, 10, .inl (0, 0), []), .inr (0, 3, .inl (0, 0), []), .inr (0, 12, .inl (0, 0), []), .inr (0, 10, .inl (0, 0), []), .inr (0, 36, .inl (0, 0), []), .inl (2, [.inr (2, 27), .inl (0, 0), .inl (0, 0), .inl (0, 0), .inl (0, 0), .inl (0, 0), .inr (2, 62), .inr (2, 63), .inr (2, 64), .inr (2, 65), .inr (2, 66)]), .inr (0, 10, .inl (0, 0), []), .inr (0, 3, .inl (0, 0), []), .inr (0, 12, .inl (0, 0), []), .inr (0, 10, .inl (0, 0), []), .inr (0, 36, .inl (0, 0), []), .inl (2, [.inr (2, 27), .inl (0, 0), .inl (0, 0), .inl (0, 0), .inl (0, 0), .inl (0, 0), .inr (2, 68), .inr (2, 69), .inr (2, 70), .inr (2, 71), .inr (2, 72)]), .inr (0, 10, .inl (0, 0), []), .inr (0, 3, .inl (0, 0), []), .inr (0, 12, .inl (0, 0), []), .inr (0, 10, .inl (0, 0), []), .inr (0, 36, .inl (0, 0), []), .inl (2, [.inr (2, 27), .inl (0, 0), .inl (0, 0), .inl (0, 0), .inl (0, 0), .inl (0, 0), .inr (2, 74), .inr (2, 75), .inr (2, 76), .inr (2, 77), .inr (2, 78)]), .inr (0, 10, .inl (0, 0), []), .inr (0, 3, .inl (0, 0), []), .inr (0, 12, .inl (0, 0), []), .inr (0, 10, .inl (0, 0), []), .inr (0, 36, .inl (0, 0), []), .inl (2, [.inr (2, 27), .inl (0, 0), .inl (0, 0), .inl (0, 0), .inl (0, 0), .inl (0, 0), .inr (2, 80), .inr (2, 81), .inr (2, 82), .inr (2, 83), .inr (2, 84)]), .inr (0, 10, .inl (0, 0), []), .inr (0, 3, .inl (0, 0), []), .inr (0, 12, .inl (0, 0), []), .inr (0, 10, .inl (0, 0), []), .inr (0, 36, .inl (0, 0), []), .inl (2, [.inr (2, 27), .inl (0, 0), .inl (0, 0), .inl (0, 0), .inl (0, 0), .inl (0, 0), .inr (2, 86), .inr (2, 87), .inr (2, 88), .inr (2, 89), .inr (2, 90)]), .inr (0, 10, .inl (0, 0), []), .inr (0, 3, .inl (0, 0), []), .inr (0, 12, .inl (0, 0), []), .inr (0, 10, .inl (0, 0), []), .inr (0, 36, .inl (0, 0), []), .inl (2, [.inr (2, 27), .inl (0, 0), .inl (0, 0), .inl (0, 0), .inl (0, 0), .inl (0, 0), .inr (2, 92), .inr (2, 93), .inr (2, 94), .inr (2, 95), .inr (2, 96)]), .inr (0, 10, .inl (0, 0), []), .inr (0, 3, .inl (0, 0), []), .inr (0, 12, .inl (0, 0), []), .inr (0, 10, .inl (0, 0), []), .inr (0, 36, .inl (0, 0), []), .inl (2, [.inr (2, 27), .inl (0, 0), .inl (0, 0), .inl (0, 0), .inl (0, 0), .inl (0, 0), .inr (2, 98), .inr (2, 99), .inr (2, 100), .inr (2, 101), .inr (2, 102)]), .inr (0, 10, .inl (0, 0), []), .inr (0, 3, .inl (0, 0), []), .inr (0, 12, .inl (0, 0), []), .inr (0, 10, .inl (0, 0), []), .inr (0, 36, .inl (0, 0), []), .inl (2, [.inr (2, 27), .inl (0, 0), .inl (0, 0), .inl (0, 0), .inl (0, 0), .inl (0, 0), .inr (2, 104), .inr (2, 105), .inr (2, 106), .inr (2, 107), .inr (2, 108)]), .inr (0, 10, .inl (0, 0), []), .inr (0, 3, .inl (0, 0), []), .inr (0, 12, .inl (0, 0), []), .inr (0, 10, .inl (0, 0), []), .inr (0, 36, .inl (0, 0), []), .inl (12, [.inl (0, 0), .inr (2, 110), .inl (0, 0), .inl (0, 0), .inl (0, 0), .inl (0, 0), .inr (2, 111), .inr (2, 112), .inr (2, 113), .inr (2, 114), .inr (2, 115), .inl (0, 0), .inl (0, 0), .inl (0, 0), .inl (0, 0), .inl (0, 0), .inl (0, 0), .inr (1, 0), .inl (0, 0), .inl (0, 0), .inr (2, 116), .inr (2, 117), .inr (2, 118), .inl (0, 0), .inl (0, 0), .inl (0, 0), .inl (0, 0), .inr (2, 119), .inl (0, 0), .inl (0, 0), .inl (0, 0), .inl (0, 0), .inr (2, 120), .inr (2, 121), .inr (2, 122), .inr (2, 123), .inl (0, 0), .inl (0, 0), .inl (0, 0), .inr (2, 124), .inl (0, 0), .inl (0, 0), .inl (0, 0), .inr (2, 125), .inl (0, 0), .inr (2, 126), .inl (0, 0), .inl (0, 0), .inl (0, 0), .inl (0, 0), .inl (0, 0), .inr (2, 127), .inr (2, 128), .inr (2, 129), .inr (2, 130)]), .inr (1, 940, .inl (0, 0), []), .inr (0, 296, .inl (0, 0), []), .inr (0, 91, .inl (0, 0), []), .inr (0, 135, .inl (0, 0), []), .inr (3, 40, .inr (1, 0), []), .inr (3, 23, .inr (1, 0), []), .inr (0, 12, .inl (0, 0), []), .inr (0, 192, .inl (0, 0), []), .inr (0, 24, .inl (0, 0), []), .inr (2, 4096, .inl (0, 0), []), .inr (0, 1024, .inl (0, 0), []), .inr (0, 1024, .inl (0, 0), []), .inr (0, 1024, .inl (0, 0), []), .inr (0, 11, .inl (0, 0), []), .inr (1, 56, .inl (0, 0), []), .inr (0, 4, .inl (0, 0), []), .inr (0, 45, .inl (0, 0), []), .inr (2, 45, .inl (0, 0), []), .inr (0, 592, .inl (0, 0), []), .inr (3, 40, .inr (1, 0), []), .inr (2, 2, .inl (0, 0), []), .inr (3, 1, .inr (1, 0), [])]
def rzAl0 : List rvV := [.inr (5, 0), .inr (2, 0), .inr (2, 109), .inr (2, 131), .inl (0, 0), .inr (9, 0), .inr (9, 0)]
theorem rz_made : rvRun rvTy rvNf rvTxt [] (rzX1 7) rzInf (rvFind2 tz_L) 23 2048 600000 7000000 84000 7 100 0 [.inr (5, 0), .inr (9, 0), .inr (9, 0), .inr (9, 0), .inr (9, 0), .inr (9, 0), .inr (9, 0)] [] [] 0 0 = some (23, rzAl0, [], rzAw0, 132, 19068) := rvOk_ok (by decide +kernel)
