/-! The call person of the law. The model's person and what it needs, in tables of their own; its isPerson out of the tables ahead. -/
def yQ_0 : MethodName := ⟨RX12, "person", "(II)I"⟩
def yQ_1 : MethodName := ⟨RX12, "throwsIf", "(Z)Z"⟩
def yQ_2 : MethodName := ⟨RX12, "thrown", "()I"⟩
def yQ : Nat → MethodName := fun n => match n with
  | 0 => yQ_0
  | 1 => yQ_1
  | 2 => yQ_2
  | _ => rvYn 49
theorem yQ_e3 : yQ 3 = rvYn 49 := rfl
def cQ : Nat → ByteArray := fun n => match n with
  | 0 => prog_14_method_50_code
  | 1 => prog_14_method_2_code
  | 2 => prog_14_method_1_code
  | _ => rvCd 49
theorem cQ_e3 : cQ 3 = rvCd 49 := rfl
def iQ : Nat → rvM := fun n => match n with
  | 0 => (3, 10, 0, 0, 300, 12)
  | 1 => (2, 2, 0, 0, 50, 12)
  | 2 => (1, 2, 0, 0, 50, 12)
  | _ => rvInf 49
theorem iQ_e3 : iQ 3 = rvInf 49 := rfl
def rQ : Nat → Option FieldType := fun n => match n with
  | 0 => (some .int)
  | 1 => (some .boolean)
  | 2 => (some .int)
  | _ => rvRet 49
theorem rQ_e3 : rQ 3 = rvRet 49 := rfl
def kQ : Nat → Nat × Nat := fun n => match n with
  | 0 => (0, 2)
  | 1 => (0, 1)
  | 2 => (0, 0)
  | _ => rvKd 49
theorem kQ_e3 : kQ 3 = rvKd 49 := rfl
def tbQ_0 : List (Nat × List (Nat × rvE)) := [(99999, [(0, (.aload_n 0, 1, 0, 0, 0, 0)), (1, (.aload_n 0, 1, 0, 0, 0, 0)), (2, (.iload_n 1, 1, 0, 0, 0, 0)), (3, (.invokevirtual 272, 3, 3, 1, 0, 1704)), (6, (.ifCond .eq 13, 3, 0, 0, 0, 0)), (19, (.iconst 1, 1, 0, 0, 0, 0)), (20, (.goto 4, 3, 0, 0, 0, 0)), (24, (.invokevirtual 275, 3, 1, 1, 0, 1708)), (27, (.ifCond .eq 5, 3, 0, 0, 0, 0)), (30, (.iconst 0, 1, 0, 0, 0, 0)), (31, (.ireturn, 1, 0, 0, 0, 0))])]
def tbQ_1 : List (Nat × List (Nat × rvE)) := [(99999, [(0, (.aload_n 0, 1, 0, 0, 0, 0)), (1, (.iload_n 1, 1, 0, 0, 0, 0)), (2, (.ifCond .eq 7, 3, 0, 0, 0, 0)), (5, (.iconst 1, 1, 0, 0, 0, 0)), (6, (.goto 4, 3, 0, 0, 0, 0)), (10, (.putfield 1, 3, 12, 0, 0, 1435)), (13, (.iload_n 1, 1, 0, 0, 0, 0)), (14, (.ireturn, 1, 0, 0, 0, 0))])]
def tbQ_2 : List (Nat × List (Nat × rvE)) := [(99999, [(0, (.aload_n 0, 1, 0, 0, 0, 0)), (1, (.getfield 1, 3, 12, 0, 0, 1435)), (4, (.ireturn, 1, 0, 0, 0, 0))])]
def tQ : Nat → Nat → Option rvE := fun n => match n with
  | 0 => rvFind2 tbQ_0
  | 1 => rvFind2 tbQ_1
  | 2 => rvFind2 tbQ_2
  | _ => fun _ => none
def tb_p4 : List (Nat × List (Nat × rvE)) := [(99999, [(360, (.aload_n 1, 1, 0, 0, 0, 0)), (361, (.aload_n 0, 1, 0, 0, 0, 0)), (362, (.iload 4, 2, 0, 0, 0, 0)), (364, (.iconst 1, 1, 0, 0, 0, 0)), (365, (.iadd, 1, 0, 0, 0, 0)), (366, (.iaload, 1, 0, 0, 0, 0)), (367, (.aload_n 0, 1, 0, 0, 0, 0)), (368, (.iload 4, 2, 0, 0, 0, 0)), (370, (.iconst 2, 1, 0, 0, 0, 0)), (371, (.iadd, 1, 0, 0, 0, 0)), (372, (.iaload, 1, 0, 0, 0, 0)), (373, (.aload_n 3, 1, 0, 0, 0, 0)), (377, (.istore 5, 2, 0, 0, 0, 0)), (379, (.aload_n 2, 1, 0, 0, 0, 0)), (380, (.aload_n 0, 1, 0, 0, 0, 0)), (381, (.iload 4, 2, 0, 0, 0, 0)), (383, (.iconst 1, 1, 0, 0, 0, 0)), (384, (.iadd, 1, 0, 0, 0, 0)), (385, (.iaload, 1, 0, 0, 0, 0)), (386, (.aload_n 0, 1, 0, 0, 0, 0)), (387, (.iload 4, 2, 0, 0, 0, 0)), (389, (.iconst 2, 1, 0, 0, 0, 0)), (390, (.iadd, 1, 0, 0, 0, 0)), (391, (.iaload, 1, 0, 0, 0, 0)), (392, (.invokevirtual 43, 3, 0, 2, 0, 1700)), (395, (.istore 6, 2, 0, 0, 0, 0)), (397, (.aload_n 2, 1, 0, 0, 0, 0)), (398, (.invokevirtual 44, 3, 2, 0, 0, 1390)), (401, (.iload 5, 2, 0, 0, 0, 0)), (403, (.if_icmp .eq 5, 3, 0, 0, 0, 0)), (408, (.iload 5, 2, 0, 0, 0, 0)), (410, (.ifCond .ne 15, 3, 0, 0, 0, 0)), (425, (.goto 1051, 3, 0, 0, 0, 0))])]
def rvEg (yn : Nat → MethodName) (kd : Nat → Nat × Nat) (NM : Nat) (own : String) (cc : ByteArray) (ini : Bool) (q : Nat × rvE) : Bool := match q with
  | (pc, i, len, a1, a2, a3, wi) => decide (decode cc pc = .ok (i, rvSz i len)) && (rvAux own ini i a1 a2 wi && rvCk yn kd NM own i a1 a2 a3 wi)
theorem rvTg_ok {yn : Nat → MethodName} {kd : Nat → Nat × Nat} {NM : Nat} {own : String} {cc : ByteArray} {ini : Bool} {l : List (Nat × List (Nat × rvE))} (h : l.all (fun ch => ch.2.all (rvEg yn kd NM own cc ini)) = true) : rvTk yn kd NM own cc ini (rvFind2 l) := by
  intro pc i len a1 a2 a3 wi hf
  obtain ⟨ch, h1, h2⟩ := rvFind2_mem hf
  have h3 := List.all_eq_true.mp (List.all_eq_true.mp h ch h1) _ h2
  obtain ⟨g1, g2⟩ := rv_and (show (decide (decode cc pc = .ok (i, rvSz i len)) && (rvAux own ini i a1 a2 wi && rvCk yn kd NM own i a1 a2 a3 wi)) = true from h3)
  obtain ⟨g2, g3⟩ := rv_and g2
  exact ⟨of_decide_eq_true g1, g2, g3⟩
theorem tQ_4 : rvTk yQ kQ 4 RL cL_law false (rvFind2 tb_p4) := rvTg_ok (by decide +kernel)
theorem tQ_0 : rvTk yQ kQ 4 RX12 prog_14_method_50_code false (rvFind2 tbQ_0) := rvTg_ok (by decide +kernel)
theorem mQ_0 : rvMp yQ cQ iQ rQ kQ 0 := ⟨by decide +kernel, ⟨by decide +kernel, by decide +kernel, by decide +kernel⟩, rvW_ok (i := 1703) (w := .code yQ_0 prog_14_method_50_code 3 (some .int)) (by decide +kernel), rvW_ok (i := 135) (w := .initialized RX12) (by decide +kernel), fun _ => ⟨rvW_ok (i := 1701) (w := .instanceMethod yQ_0) (by decide +kernel), rvW_ok (i := 1702) (w := .selects RX12 yQ_0 yQ_0) (by decide +kernel), Or.inl ⟨by decide +kernel, by decide +kernel⟩⟩, fun h => absurd h (by decide +kernel), fun h => absurd h (by decide +kernel)⟩
theorem tQ_1 : rvTk yQ kQ 4 RX12 prog_14_method_2_code false (rvFind2 tbQ_1) := rvTg_ok (by decide +kernel)
theorem mQ_1 : rvMp yQ cQ iQ rQ kQ 1 := ⟨by decide +kernel, ⟨by decide +kernel, by decide +kernel, by decide +kernel⟩, rvW_ok (i := 1711) (w := .code yQ_1 prog_14_method_2_code 2 (some .boolean)) (by decide +kernel), rvW_ok (i := 135) (w := .initialized RX12) (by decide +kernel), fun _ => ⟨rvW_ok (i := 1710) (w := .instanceMethod yQ_1) (by decide +kernel), rvW_ok (i := 69) (w := .selects RX12 yQ_1 yQ_1) (by decide +kernel), Or.inl ⟨by decide +kernel, by decide +kernel⟩⟩, fun h => absurd h (by decide +kernel), fun h => absurd h (by decide +kernel)⟩
theorem tQ_2 : rvTk yQ kQ 4 RX12 prog_14_method_1_code false (rvFind2 tbQ_2) := rvTg_ok (by decide +kernel)
theorem mQ_2 : rvMp yQ cQ iQ rQ kQ 2 := ⟨by decide +kernel, ⟨by decide +kernel, by decide +kernel, by decide +kernel⟩, rvW_ok (i := 1393) (w := .code yQ_2 prog_14_method_1_code 1 (some .int)) (by decide +kernel), rvW_ok (i := 135) (w := .initialized RX12) (by decide +kernel), fun _ => ⟨rvW_ok (i := 1391) (w := .instanceMethod yQ_2) (by decide +kernel), rvW_ok (i := 1392) (w := .selects RX12 yQ_2 yQ_2) (by decide +kernel), Or.inl ⟨by decide +kernel, by decide +kernel⟩⟩, fun h => absurd h (by decide +kernel), fun h => absurd h (by decide +kernel)⟩
theorem mQ_all : ∀ j, j < 4 → rvMp yQ cQ iQ rQ kQ j := fun j h => by
  match j, h with
  | 0, _ => exact mQ_0
  | 1, _ => exact mQ_1
  | 2, _ => exact mQ_2
  | 3, _ =>
    have h9 := rvM_all 49 (by decide)
    unfold rvMp at h9 ⊢
    rw [yQ_e3, cQ_e3, iQ_e3, rQ_e3, kQ_e3]
    exact h9
  | n + 4, h => exact absurd h (by omega)
theorem tQ_all : ∀ j, j < 4 → rvTk yQ kQ 4 (yQ j).cls (cQ j) (decide ((yQ j).name = "<init>")) (tQ j) := fun j h => by
  match j, h with
  | 0, _ =>
    have e : decide ((yQ 0).name = "<init>") = false := by decide +kernel
    rw [e]
    exact tQ_0
  | 1, _ =>
    have e : decide ((yQ 1).name = "<init>") = false := by decide +kernel
    rw [e]
    exact tQ_1
  | 2, _ =>
    have e : decide ((yQ 2).name = "<init>") = false := by decide +kernel
    rw [e]
    exact tQ_2
  | 3, _ => exact fun _ _ _ _ _ _ _ h => by cases h
  | n + 4, h => exact absurd h (by omega)
noncomputable def oQ : Nat → List rvV → rvH → rvO := fun j as aw => match j with
  | 3 => rvX0 6 49 as aw
  | _ => none
theorem oQ_ok {l : Launch} {D : va_G} {cB : Nat → ClassId} {ex : Nat → Nat → Nat} : ∀ j as aw r, j < 4 → oQ j as aw = some r → rvMet l D cB ex yQ cQ iQ rQ j as aw r := by
  intro j as aw r hj h
  match j, hj, h with
  | 0, _, h => cases h
  | 1, _, h => cases h
  | 2, _, h => cases h
  | 3, _, h =>
    have h : rvX0 6 49 as aw = some r := h
    have h9 : rvMet l D cB ex rvYn rvCd rvInf rvRet 49 as aw r := rvExec_ok rvBase_ok rvM_all rvT_all (fun _ _ _ _ _ h => by cases h) 100000 6 49 as aw r (by decide) h
    unfold rvMet at h9 ⊢
    rw [yQ_e3, cQ_e3, iQ_e3, rQ_e3]
    exact h9
  | n + 4, hj, _ => exact absurd hj (by omega)
noncomputable def xQ : Nat → List rvV → rvH → rvO := rvExec rvTy rvNf rvTxt oQ iQ rQ tQ 100000 3
theorem xQ_ok {l : Launch} {D : va_G} {cB : Nat → ClassId} {ex : Nat → Nat → Nat} : ∀ j as aw r, j < 4 → xQ j as aw = some r → rvMet l D cB ex yQ cQ iQ rQ j as aw r := fun j as aw r hj h => rvExec_ok rvBase_ok mQ_all tQ_all oQ_ok 100000 3 j as aw r hj h
theorem q4_0 : rvRun rvTy rvNf rvTxt [(-2147483648, 2147483647), (-2147483648, -1), (-2147483648, 2147483647), (-2147483648, 2147483647), (-2147483648, 2147483647), (-2147483648, 2147483647)] xQ iQ (rvFind2 tb_p4) 374 2048 600002 7302232 84000 7 100 360 rvAl0 [] rvAw0 132 19068 = some (374, rvAl0, [.inr (2, 131), rvTop, .inl (-2147483648, -1), .inr (2, 0)], rvAw0, 132, 19068) := rvOk_ok (by decide +kernel)
theorem r4_0 : rvGd (rvRun rvTy rvNf rvTxt [(-2147483648, 2147483647), (-2147483648, -1), (-2147483648, 2147483647), (-2147483648, 2147483647), (-2147483648, 2147483647), (-2147483648, 2147483647)] xQ iQ (rvFind2 tb_p4) 1476 2048 600002 7302232 84000 7 100 377 rvAl0 [rvK 1] rvAw0 133 19074) = true := by decide +kernel
theorem q4_1 : rvRun rvTy rvNf rvTxt [(-2147483648, 2147483647), (0, 2147483647), (-2147483648, 2147483647), (-2147483648, 2147483647), (-2147483648, 2147483647), (-2147483648, 2147483647)] xQ iQ (rvFind2 tb_p4) 374 2048 600002 7302232 84000 7 100 360 rvAl0 [] rvAw0 132 19068 = some (374, rvAl0, [.inr (2, 131), rvTop, .inl (0, 2147483647), .inr (2, 0)], rvAw0, 132, 19068) := rvOk_ok (by decide +kernel)
theorem r4_1 : rvGd (rvRun rvTy rvNf rvTxt [(-2147483648, 2147483647), (0, 2147483647), (-2147483648, 2147483647), (-2147483648, 2147483647), (-2147483648, 2147483647), (-2147483648, 2147483647)] xQ iQ (rvFind2 tb_p4) 1476 2048 600002 7302232 84000 7 100 377 rvAl0 [rvK 1] rvAw0 133 19074) = true := by decide +kernel
theorem rvLd_374 : decode cL_law 374 = .ok (.invokestatic 38, 3) := by decide +kernel
theorem rvLw_l : rvW 1309 (.methodLink RL 38 yL_person) = true := by decide +kernel
theorem rvLw_s : rvW 1310 (.static yL_person) = true := by decide +kernel
theorem rvLw_i : rvW 119 (.initialized RL) = true := by decide +kernel
theorem rvLw_c : rvW 1311 (.codeWith yL_person cL_person 5 (some .int) [(0, 10, 13, 13)]) = true := by decide +kernel
section RVP4
variable {p : Program} {l : Launch} {e : Env} {s : State} {m : MethodId} {args : Array Value} {below : List Frame} {meth : Method} {c : Code} {Q : State → Prop} {D : va_G} {cT : Nat → ClassId} {ex : Nat → Nat → Nat} {A : Nat → Prop} {xs : Nat → Int32} {sa : Nat}
set_option maxHeartbeats 1000000 in
theorem rvOp4_at {sc : List (Int × Int)} {a1 : Int × Int} (C : rvCx p s m args meth c code RL 7 D cT ex A false sc) (hl : l.stackTraces = false) (hPx : rvPx sa A s s.heap) (hrun : rvPr a1)
    (k : rvG p l e room_1 s m args below meth c Q D cT ex A 7 (377, rvAl0, [rvK 1], rvAw0, 133, 19074)) : rvG p l e room_1 s m args below meth c Q D cT ex A 7 (374, rvAl0, [.inr (2, 131), rvTop, .inl a1, .inr (2, 0)], rvAw0, 132, 19068) := by
  obtain ⟨hx, hb, hml, hown, hts, hK, hA, hX, hini, hsc⟩ := C
  intro ws H locs ls stk hw hl1 hs hP hD hS
  dsimp only at hw hl1 hs ⊢
  have hls : ls.size = 7 := by obtain ⟨-, l9, h9, -⟩ := hl1; exact h9.1
  obtain ⟨x3, stk3, rfl, ⟨q3, hq3, rfl⟩, hs3⟩ := rvRs_cons hs
  obtain ⟨x2, stk2, rfl, ⟨n2, rfl, -, -⟩, hs2⟩ := rvRs_cons hs3
  obtain ⟨x1, stk1, rfl, ⟨n1, rfl, p1, q1⟩, hs1⟩ := rvRs_cons hs2
  obtain ⟨x0, stk0, rfl, ⟨q0, hq0, rfl⟩, hs0⟩ := rvRs_cons hs1
  have hnil := rvRs_nil hs0
  subst hnil
  have hM9 := rv_personL (l := l) (D := D) (sz := H.size) (sa := sa) (xs := [.ref q0, .int n1, .int n2, .ref q3]) hl hrun hw.1 ⟨⟨q0, hq0, rfl⟩, ⟨n1, rfl, p1, q1⟩, rvR_top n2, ⟨q3, hq3, rfl⟩, trivial⟩
  have cw : vx_CSW room_1 s args RL 38 yL_person cL_person 5 (some .int) [(0, 10, 13, 13)] (.codeWith yL_person cL_person 5 (some .int) [(0, 10, 13, 13)] :: rvWl) { frames := 12, cells := 1, slots := 6, locals := 300 } 1 6 4 :=
    vx_cwSW 4 hts (rvGood_cons (rvW_ok rvLw_l) (rvGood_cons (rvW_ok rvLw_s) (rvGood_cons (rvW_ok rvLw_i) (rvGood_cons (rvW_ok rvLw_c) rvGood_self)))) rfl rfl rfl ⟨by decide +kernel, by decide +kernel, by decide +kernel⟩ ⟨by show 12 + 1 ≤ 2048; decide, by show 8 + (5 + 11) + 300 ≤ 84000; decide⟩
  have hrn := vx_runSX (g := F0 m 374 ls [.ref q3, .int n2, .int n1, .ref q0]) (locs := locs) (cells := 132) (slots := 19068) (As := [.ref q0, .int n1, .int n2, .ref q3]) (rest := []) (nL := 7) (e := e) (below := below) (meth := meth) ⟨hx, hb, hml, hown, hts⟩ hM9 cw ⟨rv_blindx, rv_prex hK hX hPx hA hP hD hS⟩ rfl rfl hls rfl (lv_room (by decide)) rvLd_374 ⟨by show 132 + 1 ≤ 600002; decide, by show 19068 + 6 ≤ 7302232; decide⟩
  have hr : va_Run p l e room_1 s m args below meth c H locs 132 19068 1 6 (F0 m 374 ls [.ref q3, .int n2, .int n1, .ref q0]) [] (rvQ D cT ex ws H.size (some (rvK 1), rvAw0) [.ref q0, .int n1, .int n2, .ref q3].toArray) (va_A ws H.size) := by
    intro T hT X
    rcases hrn T hT X with h | ⟨q9, st₀, t, T', L, E, ce, h0, X', hL, e1, e2, hF, -⟩
    · exact h
    · exact absurd hF id
  exact rv_go hA (fun _ _ => rfl) hr hw hl1 (rst := []) trivial hD hS k
theorem rvOp_4 (hC : ∀ sc, rvSx ex A s sc → rvCx p s m args meth c code RL 7 D cT ex A false sc) (h6 : va_X (ex 5 0) 6 xs s s.heap ∧ ex 5 0 < s.heap.size ∧ ¬ A (ex 5 0)) (K : rvEnds p l e s m args below meth c Q D cT ex A) (hl : l.stackTraces = false) (hPx : rvPx sa A s s.heap) : rvG p l e room_1 s m args below meth c Q D cT ex A 7 (40, rvAl0, [.inl (4, 4)], rvAw0, 132, 19068) := by
  refine rvSw hC rvSw_4 ?_
  rcases (show (-2147483648 ≤ (xs 1).toInt ∧ (xs 1).toInt ≤ -1) ∨ (0 ≤ (xs 1).toInt ∧ (xs 1).toInt ≤ 2147483647) by have := rv_lo (xs 1); have := rv_hi (xs 1); omega) with ⟨g0, g1⟩ | ⟨g0, g1⟩
  · have C := hC _ (rvSx6 (a1 := (-2147483648, -1)) h6 ⟨g0, g1⟩ (rv_any _) (rv_any _) (rv_any _) (rv_any _))
    refine rvRun_ok C rvBase_ok (fun _ _ => rfl) mQ_all xQ_ok tQ_4 (Nat.le_refl 2048) (Nat.le_refl 600002) (Nat.le_refl 7302232) (Nat.le_refl 84000) (rvOp4_at C hl hPx rvPr_0 ?_) 100 360 rvAl0 [] rvAw0 132 19068 q4_0
    obtain ⟨al1, aw1, kc1, ks1, he, h1, h2, h3, h4⟩ := rvGd_ok r4_0
    exact rvRun_ok C rvBase_ok (fun _ _ => rfl) mQ_all xQ_ok tQ_4 (Nat.le_refl 2048) (Nat.le_refl 600002) (Nat.le_refl 7302232) (Nat.le_refl 84000) (K al1 aw1 kc1 ks1 h1 h2 h3 h4) 100 377 rvAl0 [rvK 1] rvAw0 133 19074 he
  · have C := hC _ (rvSx6 (a1 := (0, 2147483647)) h6 ⟨g0, g1⟩ (rv_any _) (rv_any _) (rv_any _) (rv_any _))
    refine rvRun_ok C rvBase_ok (fun _ _ => rfl) mQ_all xQ_ok tQ_4 (Nat.le_refl 2048) (Nat.le_refl 600002) (Nat.le_refl 7302232) (Nat.le_refl 84000) (rvOp4_at C hl hPx rvPr_1 ?_) 100 360 rvAl0 [] rvAw0 132 19068 q4_1
    obtain ⟨al1, aw1, kc1, ks1, he, h1, h2, h3, h4⟩ := rvGd_ok r4_1
    exact rvRun_ok C rvBase_ok (fun _ _ => rfl) mQ_all xQ_ok tQ_4 (Nat.le_refl 2048) (Nat.le_refl 600002) (Nat.le_refl 7302232) (Nat.le_refl 84000) (K al1 aw1 kc1 ks1 h1 h2 h3 h4) 100 377 rvAl0 [rvK 1] rvAw0 133 19074 he
end RVP4
