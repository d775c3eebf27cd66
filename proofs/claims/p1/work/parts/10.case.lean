section RVK
variable {p : Program} {l : Launch} {e : Env} {s : State} {m : MethodId} {args : Array Value} {below : List Frame} {meth : Method} {c : Code} {Q : State → Prop} {D : va_G} {cT : Nat → ClassId} {ex : Nat → Nat → Nat} {A : Nat → Prop} {xs : Nat → Int32}
/-- the script's numbers in their intervals -/
theorem rvSx6 {a1 a2 a3 a4 a5 : Int × Int} (h : va_X (ex 5 0) 6 xs s s.heap ∧ ex 5 0 < s.heap.size ∧ ¬ A (ex 5 0)) (h1 : a1.1 ≤ (xs 1).toInt ∧ (xs 1).toInt ≤ a1.2) (h2 : a2.1 ≤ (xs 2).toInt ∧ (xs 2).toInt ≤ a2.2) (h3 : a3.1 ≤ (xs 3).toInt ∧ (xs 3).toInt ≤ a3.2) (h4 : a4.1 ≤ (xs 4).toInt ∧ (xs 4).toInt ≤ a4.2) (h5 : a5.1 ≤ (xs 5).toInt ∧ (xs 5).toInt ≤ a5.2) :
    rvSx ex A s [(-2147483648, 2147483647), a1, a2, a3, a4, a5] := by
  refine Or.inr ⟨xs, h.1, h.2.1, h.2.2, fun j a hj => ?_⟩
  match j, hj with
  | 0, hj => cases hj; exact ⟨rv_lo _, rv_hi _⟩
  | 1, hj => cases hj; exact h1
  | 2, hj => cases hj; exact h2
  | 3, hj => cases hj; exact h3
  | 4, hj => cases hj; exact h4
  | 5, hj => cases hj; exact h5
  | n + 6, hj => cases hj
theorem rv_any (n : Int32) : (((-2147483648 : Int), (2147483647 : Int)) : Int × Int).1 ≤ n.toInt ∧ n.toInt ≤ (((-2147483648 : Int), (2147483647 : Int)) : Int × Int).2 := ⟨rv_lo n, rv_hi n⟩
abbrev rvEnds (p : Program) (l : Launch) (e : Env) (s : State) (m : MethodId) (args : Array Value) (below : List Frame) (meth : Method) (c : Code) (Q : State → Prop) (D : va_G) (cT : Nat → ClassId) (ex : Nat → Nat → Nat) (A : Nat → Prop) : Prop :=
  ∀ (al : List rvV) (aw : rvH) (kc ks : Nat), al[0]? = some (.inr (5, 0)) → al[4]? = some (.inl (0, 0)) → kc ≤ 600002 → ks ≤ 7302232 → rvG p l e room_1 s m args below meth c Q D cT ex A 7 (1476, al, [], aw, kc, ks)
def tb_S : List (Nat × List (Nat × rvE)) := [(41, [(40, (.tableswitch 1436 0 44 #[196, 269, 294, 307, 320, 388, 425, 450, 487, 524, 561, 586, 611, 648, 685, 722, 747, 772, 797, 810, 835, 848, 861, 886, 899, 924, 937, 962, 999, 1048, 1061, 1074, 1087, 1124, 1137, 1162, 1187, 1224, 1273, 1298, 1323, 1336, 1361, 1386, 1411], 196, 0, 0, 0, 0))])]
theorem rvT_S : rvTk rvYn rvKd 168 RL cL_law false (rvFind2 tb_S) := rvTc_ok (by decide +kernel)
theorem rvSw {j : Int} {pc : Nat} (hC : ∀ sc, rvSx ex A s sc → rvCx p s m args meth c code RL 7 D cT ex A false sc) (h : rvRun rvTy rvNf rvTxt [] (fun _ _ _ => none) rvInf (rvFind2 tb_S) 99999999 0 0 0 0 7 1 40 rvAl0 [.inl (j, j)] rvAw0 132 19068 = some (pc, rvAl0, [], rvAw0, 132, 19068)) (k : rvG p l e room_1 s m args below meth c Q D cT ex A 7 (pc, rvAl0, [], rvAw0, 132, 19068)) : rvG p l e room_1 s m args below meth c Q D cT ex A 7 (40, rvAl0, [.inl (j, j)], rvAw0, 132, 19068) :=
  rvRun_ok (hC [] (Or.inl rfl)) rvBase_ok (fun _ _ => rfl) rvM_all (fun _ _ _ _ _ h => by cases h) rvT_S (Nat.zero_le _) (Nat.zero_le _) (Nat.zero_le _) (Nat.zero_le _) k 1 40 _ _ _ _ _ h
theorem rvSw_0 : rvRun rvTy rvNf rvTxt [] (fun _ _ _ => none) rvInf (rvFind2 tb_S) 99999999 0 0 0 0 7 1 40 rvAl0 [.inl (0, 0)] rvAw0 132 19068 = some (236, rvAl0, [], rvAw0, 132, 19068) := rvOk_ok (by decide +kernel)
theorem rvSw_1 : rvRun rvTy rvNf rvTxt [] (fun _ _ _ => none) rvInf (rvFind2 tb_S) 99999999 0 0 0 0 7 1 40 rvAl0 [.inl (1, 1)] rvAw0 132 19068 = some (309, rvAl0, [], rvAw0, 132, 19068) := rvOk_ok (by decide +kernel)
theorem rvSw_2 : rvRun rvTy rvNf rvTxt [] (fun _ _ _ => none) rvInf (rvFind2 tb_S) 99999999 0 0 0 0 7 1 40 rvAl0 [.inl (2, 2)] rvAw0 132 19068 = some (334, rvAl0, [], rvAw0, 132, 19068) := rvOk_ok (by decide +kernel)
theorem rvSw_3 : rvRun rvTy rvNf rvTxt [] (fun _ _ _ => none) rvInf (rvFind2 tb_S) 99999999 0 0 0 0 7 1 40 rvAl0 [.inl (3, 3)] rvAw0 132 19068 = some (347, rvAl0, [], rvAw0, 132, 19068) := rvOk_ok (by decide +kernel)
theorem rvSw_4 : rvRun rvTy rvNf rvTxt [] (fun _ _ _ => none) rvInf (rvFind2 tb_S) 99999999 0 0 0 0 7 1 40 rvAl0 [.inl (4, 4)] rvAw0 132 19068 = some (360, rvAl0, [], rvAw0, 132, 19068) := rvOk_ok (by decide +kernel)
theorem rvSw_5 : rvRun rvTy rvNf rvTxt [] (fun _ _ _ => none) rvInf (rvFind2 tb_S) 99999999 0 0 0 0 7 1 40 rvAl0 [.inl (5, 5)] rvAw0 132 19068 = some (428, rvAl0, [], rvAw0, 132, 19068) := rvOk_ok (by decide +kernel)
theorem rvSw_6 : rvRun rvTy rvNf rvTxt [] (fun _ _ _ => none) rvInf (rvFind2 tb_S) 99999999 0 0 0 0 7 1 40 rvAl0 [.inl (6, 6)] rvAw0 132 19068 = some (465, rvAl0, [], rvAw0, 132, 19068) := rvOk_ok (by decide +kernel)
theorem rvSw_7 : rvRun rvTy rvNf rvTxt [] (fun _ _ _ => none) rvInf (rvFind2 tb_S) 99999999 0 0 0 0 7 1 40 rvAl0 [.inl (7, 7)] rvAw0 132 19068 = some (490, rvAl0, [], rvAw0, 132, 19068) := rvOk_ok (by decide +kernel)
theorem rvSw_8 : rvRun rvTy rvNf rvTxt [] (fun _ _ _ => none) rvInf (rvFind2 tb_S) 99999999 0 0 0 0 7 1 40 rvAl0 [.inl (8, 8)] rvAw0 132 19068 = some (527, rvAl0, [], rvAw0, 132, 19068) := rvOk_ok (by decide +kernel)
theorem rvSw_9 : rvRun rvTy rvNf rvTxt [] (fun _ _ _ => none) rvInf (rvFind2 tb_S) 99999999 0 0 0 0 7 1 40 rvAl0 [.inl (9, 9)] rvAw0 132 19068 = some (564, rvAl0, [], rvAw0, 132, 19068) := rvOk_ok (by decide +kernel)
theorem rvSw_10 : rvRun rvTy rvNf rvTxt [] (fun _ _ _ => none) rvInf (rvFind2 tb_S) 99999999 0 0 0 0 7 1 40 rvAl0 [.inl (10, 10)] rvAw0 132 19068 = some (601, rvAl0, [], rvAw0, 132, 19068) := rvOk_ok (by decide +kernel)
theorem rvSw_11 : rvRun rvTy rvNf rvTxt [] (fun _ _ _ => none) rvInf (rvFind2 tb_S) 99999999 0 0 0 0 7 1 40 rvAl0 [.inl (11, 11)] rvAw0 132 19068 = some (626, rvAl0, [], rvAw0, 132, 19068) := rvOk_ok (by decide +kernel)
theorem rvSw_12 : rvRun rvTy rvNf rvTxt [] (fun _ _ _ => none) rvInf (rvFind2 tb_S) 99999999 0 0 0 0 7 1 40 rvAl0 [.inl (12, 12)] rvAw0 132 19068 = some (651, rvAl0, [], rvAw0, 132, 19068) := rvOk_ok (by decide +kernel)
theorem rvSw_13 : rvRun rvTy rvNf rvTxt [] (fun _ _ _ => none) rvInf (rvFind2 tb_S) 99999999 0 0 0 0 7 1 40 rvAl0 [.inl (13, 13)] rvAw0 132 19068 = some (688, rvAl0, [], rvAw0, 132, 19068) := rvOk_ok (by decide +kernel)
theorem rvSw_14 : rvRun rvTy rvNf rvTxt [] (fun _ _ _ => none) rvInf (rvFind2 tb_S) 99999999 0 0 0 0 7 1 40 rvAl0 [.inl (14, 14)] rvAw0 132 19068 = some (725, rvAl0, [], rvAw0, 132, 19068) := rvOk_ok (by decide +kernel)
theorem rvSw_15 : rvRun rvTy rvNf rvTxt [] (fun _ _ _ => none) rvInf (rvFind2 tb_S) 99999999 0 0 0 0 7 1 40 rvAl0 [.inl (15, 15)] rvAw0 132 19068 = some (762, rvAl0, [], rvAw0, 132, 19068) := rvOk_ok (by decide +kernel)
theorem rvSw_16 : rvRun rvTy rvNf rvTxt [] (fun _ _ _ => none) rvInf (rvFind2 tb_S) 99999999 0 0 0 0 7 1 40 rvAl0 [.inl (16, 16)] rvAw0 132 19068 = some (787, rvAl0, [], rvAw0, 132, 19068) := rvOk_ok (by decide +kernel)
theorem rvSw_17 : rvRun rvTy rvNf rvTxt [] (fun _ _ _ => none) rvInf (rvFind2 tb_S) 99999999 0 0 0 0 7 1 40 rvAl0 [.inl (17, 17)] rvAw0 132 19068 = some (812, rvAl0, [], rvAw0, 132, 19068) := rvOk_ok (by decide +kernel)
theorem rvSw_18 : rvRun rvTy rvNf rvTxt [] (fun _ _ _ => none) rvInf (rvFind2 tb_S) 99999999 0 0 0 0 7 1 40 rvAl0 [.inl (18, 18)] rvAw0 132 19068 = some (837, rvAl0, [], rvAw0, 132, 19068) := rvOk_ok (by decide +kernel)
theorem rvSw_19 : rvRun rvTy rvNf rvTxt [] (fun _ _ _ => none) rvInf (rvFind2 tb_S) 99999999 0 0 0 0 7 1 40 rvAl0 [.inl (19, 19)] rvAw0 132 19068 = some (850, rvAl0, [], rvAw0, 132, 19068) := rvOk_ok (by decide +kernel)
theorem rvSw_20 : rvRun rvTy rvNf rvTxt [] (fun _ _ _ => none) rvInf (rvFind2 tb_S) 99999999 0 0 0 0 7 1 40 rvAl0 [.inl (20, 20)] rvAw0 132 19068 = some (875, rvAl0, [], rvAw0, 132, 19068) := rvOk_ok (by decide +kernel)
theorem rvSw_21 : rvRun rvTy rvNf rvTxt [] (fun _ _ _ => none) rvInf (rvFind2 tb_S) 99999999 0 0 0 0 7 1 40 rvAl0 [.inl (21, 21)] rvAw0 132 19068 = some (888, rvAl0, [], rvAw0, 132, 19068) := rvOk_ok (by decide +kernel)
theorem rvSw_22 : rvRun rvTy rvNf rvTxt [] (fun _ _ _ => none) rvInf (rvFind2 tb_S) 99999999 0 0 0 0 7 1 40 rvAl0 [.inl (22, 22)] rvAw0 132 19068 = some (901, rvAl0, [], rvAw0, 132, 19068) := rvOk_ok (by decide +kernel)
theorem rvSw_23 : rvRun rvTy rvNf rvTxt [] (fun _ _ _ => none) rvInf (rvFind2 tb_S) 99999999 0 0 0 0 7 1 40 rvAl0 [.inl (23, 23)] rvAw0 132 19068 = some (926, rvAl0, [], rvAw0, 132, 19068) := rvOk_ok (by decide +kernel)
theorem rvSw_24 : rvRun rvTy rvNf rvTxt [] (fun _ _ _ => none) rvInf (rvFind2 tb_S) 99999999 0 0 0 0 7 1 40 rvAl0 [.inl (24, 24)] rvAw0 132 19068 = some (939, rvAl0, [], rvAw0, 132, 19068) := rvOk_ok (by decide +kernel)
theorem rvSw_25 : rvRun rvTy rvNf rvTxt [] (fun _ _ _ => none) rvInf (rvFind2 tb_S) 99999999 0 0 0 0 7 1 40 rvAl0 [.inl (25, 25)] rvAw0 132 19068 = some (964, rvAl0, [], rvAw0, 132, 19068) := rvOk_ok (by decide +kernel)
theorem rvSw_26 : rvRun rvTy rvNf rvTxt [] (fun _ _ _ => none) rvInf (rvFind2 tb_S) 99999999 0 0 0 0 7 1 40 rvAl0 [.inl (26, 26)] rvAw0 132 19068 = some (977, rvAl0, [], rvAw0, 132, 19068) := rvOk_ok (by decide +kernel)
theorem rvSw_27 : rvRun rvTy rvNf rvTxt [] (fun _ _ _ => none) rvInf (rvFind2 tb_S) 99999999 0 0 0 0 7 1 40 rvAl0 [.inl (27, 27)] rvAw0 132 19068 = some (1002, rvAl0, [], rvAw0, 132, 19068) := rvOk_ok (by decide +kernel)
theorem rvSw_28 : rvRun rvTy rvNf rvTxt [] (fun _ _ _ => none) rvInf (rvFind2 tb_S) 99999999 0 0 0 0 7 1 40 rvAl0 [.inl (28, 28)] rvAw0 132 19068 = some (1039, rvAl0, [], rvAw0, 132, 19068) := rvOk_ok (by decide +kernel)
theorem rvSw_29 : rvRun rvTy rvNf rvTxt [] (fun _ _ _ => none) rvInf (rvFind2 tb_S) 99999999 0 0 0 0 7 1 40 rvAl0 [.inl (29, 29)] rvAw0 132 19068 = some (1088, rvAl0, [], rvAw0, 132, 19068) := rvOk_ok (by decide +kernel)
theorem rvSw_30 : rvRun rvTy rvNf rvTxt [] (fun _ _ _ => none) rvInf (rvFind2 tb_S) 99999999 0 0 0 0 7 1 40 rvAl0 [.inl (30, 30)] rvAw0 132 19068 = some (1101, rvAl0, [], rvAw0, 132, 19068) := rvOk_ok (by decide +kernel)
theorem rvSw_31 : rvRun rvTy rvNf rvTxt [] (fun _ _ _ => none) rvInf (rvFind2 tb_S) 99999999 0 0 0 0 7 1 40 rvAl0 [.inl (31, 31)] rvAw0 132 19068 = some (1114, rvAl0, [], rvAw0, 132, 19068) := rvOk_ok (by decide +kernel)
theorem rvSw_32 : rvRun rvTy rvNf rvTxt [] (fun _ _ _ => none) rvInf (rvFind2 tb_S) 99999999 0 0 0 0 7 1 40 rvAl0 [.inl (32, 32)] rvAw0 132 19068 = some (1127, rvAl0, [], rvAw0, 132, 19068) := rvOk_ok (by decide +kernel)
theorem rvSw_33 : rvRun rvTy rvNf rvTxt [] (fun _ _ _ => none) rvInf (rvFind2 tb_S) 99999999 0 0 0 0 7 1 40 rvAl0 [.inl (33, 33)] rvAw0 132 19068 = some (1164, rvAl0, [], rvAw0, 132, 19068) := rvOk_ok (by decide +kernel)
theorem rvSw_34 : rvRun rvTy rvNf rvTxt [] (fun _ _ _ => none) rvInf (rvFind2 tb_S) 99999999 0 0 0 0 7 1 40 rvAl0 [.inl (34, 34)] rvAw0 132 19068 = some (1177, rvAl0, [], rvAw0, 132, 19068) := rvOk_ok (by decide +kernel)
theorem rvSw_35 : rvRun rvTy rvNf rvTxt [] (fun _ _ _ => none) rvInf (rvFind2 tb_S) 99999999 0 0 0 0 7 1 40 rvAl0 [.inl (35, 35)] rvAw0 132 19068 = some (1202, rvAl0, [], rvAw0, 132, 19068) := rvOk_ok (by decide +kernel)
theorem rvSw_36 : rvRun rvTy rvNf rvTxt [] (fun _ _ _ => none) rvInf (rvFind2 tb_S) 99999999 0 0 0 0 7 1 40 rvAl0 [.inl (36, 36)] rvAw0 132 19068 = some (1227, rvAl0, [], rvAw0, 132, 19068) := rvOk_ok (by decide +kernel)
theorem rvSw_37 : rvRun rvTy rvNf rvTxt [] (fun _ _ _ => none) rvInf (rvFind2 tb_S) 99999999 0 0 0 0 7 1 40 rvAl0 [.inl (37, 37)] rvAw0 132 19068 = some (1264, rvAl0, [], rvAw0, 132, 19068) := rvOk_ok (by decide +kernel)
theorem rvSw_38 : rvRun rvTy rvNf rvTxt [] (fun _ _ _ => none) rvInf (rvFind2 tb_S) 99999999 0 0 0 0 7 1 40 rvAl0 [.inl (38, 38)] rvAw0 132 19068 = some (1313, rvAl0, [], rvAw0, 132, 19068) := rvOk_ok (by decide +kernel)
theorem rvSw_39 : rvRun rvTy rvNf rvTxt [] (fun _ _ _ => none) rvInf (rvFind2 tb_S) 99999999 0 0 0 0 7 1 40 rvAl0 [.inl (39, 39)] rvAw0 132 19068 = some (1338, rvAl0, [], rvAw0, 132, 19068) := rvOk_ok (by decide +kernel)
theorem rvSw_40 : rvRun rvTy rvNf rvTxt [] (fun _ _ _ => none) rvInf (rvFind2 tb_S) 99999999 0 0 0 0 7 1 40 rvAl0 [.inl (40, 40)] rvAw0 132 19068 = some (1363, rvAl0, [], rvAw0, 132, 19068) := rvOk_ok (by decide +kernel)
theorem rvSw_41 : rvRun rvTy rvNf rvTxt [] (fun _ _ _ => none) rvInf (rvFind2 tb_S) 99999999 0 0 0 0 7 1 40 rvAl0 [.inl (41, 41)] rvAw0 132 19068 = some (1376, rvAl0, [], rvAw0, 132, 19068) := rvOk_ok (by decide +kernel)
theorem rvSw_42 : rvRun rvTy rvNf rvTxt [] (fun _ _ _ => none) rvInf (rvFind2 tb_S) 99999999 0 0 0 0 7 1 40 rvAl0 [.inl (42, 42)] rvAw0 132 19068 = some (1401, rvAl0, [], rvAw0, 132, 19068) := rvOk_ok (by decide +kernel)
theorem rvSw_43 : rvRun rvTy rvNf rvTxt [] (fun _ _ _ => none) rvInf (rvFind2 tb_S) 99999999 0 0 0 0 7 1 40 rvAl0 [.inl (43, 43)] rvAw0 132 19068 = some (1426, rvAl0, [], rvAw0, 132, 19068) := rvOk_ok (by decide +kernel)
theorem rvSw_44 : rvRun rvTy rvNf rvTxt [] (fun _ _ _ => none) rvInf (rvFind2 tb_S) 99999999 0 0 0 0 7 1 40 rvAl0 [.inl (44, 44)] rvAw0 132 19068 = some (1451, rvAl0, [], rvAw0, 132, 19068) := rvOk_ok (by decide +kernel)
theorem rvSw_45 : rvRun rvTy rvNf rvTxt [] (fun _ _ _ => none) rvInf (rvFind2 tb_S) 99999999 0 0 0 0 7 1 40 rvAl0 [.inl (45, 45)] rvAw0 132 19068 = some (1476, rvAl0, [], rvAw0, 132, 19068) := rvOk_ok (by decide +kernel)
theorem rvSw_46 : rvRun rvTy rvNf rvTxt [] (fun _ _ _ => none) rvInf (rvFind2 tb_S) 99999999 0 0 0 0 7 1 40 rvAl0 [.inl (46, 46)] rvAw0 132 19068 = some (1476, rvAl0, [], rvAw0, 132, 19068) := rvOk_ok (by decide +kernel)
theorem rvSw_47 : rvRun rvTy rvNf rvTxt [] (fun _ _ _ => none) rvInf (rvFind2 tb_S) 99999999 0 0 0 0 7 1 40 rvAl0 [.inl (47, 47)] rvAw0 132 19068 = some (1476, rvAl0, [], rvAw0, 132, 19068) := rvOk_ok (by decide +kernel)
theorem rvSw_48 : rvRun rvTy rvNf rvTxt [] (fun _ _ _ => none) rvInf (rvFind2 tb_S) 99999999 0 0 0 0 7 1 40 rvAl0 [.inl (48, 48)] rvAw0 132 19068 = some (1476, rvAl0, [], rvAw0, 132, 19068) := rvOk_ok (by decide +kernel)
theorem rvSw_49 : rvRun rvTy rvNf rvTxt [] (fun _ _ _ => none) rvInf (rvFind2 tb_S) 99999999 0 0 0 0 7 1 40 rvAl0 [.inl (49, 49)] rvAw0 132 19068 = some (1476, rvAl0, [], rvAw0, 132, 19068) := rvOk_ok (by decide +kernel)
theorem rvSw_50 : rvRun rvTy rvNf rvTxt [] (fun _ _ _ => none) rvInf (rvFind2 tb_S) 99999999 0 0 0 0 7 1 40 rvAl0 [.inl (50, 50)] rvAw0 132 19068 = some (1476, rvAl0, [], rvAw0, 132, 19068) := rvOk_ok (by decide +kernel)
theorem rvSw_51 : rvRun rvTy rvNf rvTxt [] (fun _ _ _ => none) rvInf (rvFind2 tb_S) 99999999 0 0 0 0 7 1 40 rvAl0 [.inl (51, 51)] rvAw0 132 19068 = some (1476, rvAl0, [], rvAw0, 132, 19068) := rvOk_ok (by decide +kernel)
theorem rvSw_52 : rvRun rvTy rvNf rvTxt [] (fun _ _ _ => none) rvInf (rvFind2 tb_S) 99999999 0 0 0 0 7 1 40 rvAl0 [.inl (52, 52)] rvAw0 132 19068 = some (1476, rvAl0, [], rvAw0, 132, 19068) := rvOk_ok (by decide +kernel)
theorem rvSw_53 : rvRun rvTy rvNf rvTxt [] (fun _ _ _ => none) rvInf (rvFind2 tb_S) 99999999 0 0 0 0 7 1 40 rvAl0 [.inl (53, 53)] rvAw0 132 19068 = some (1476, rvAl0, [], rvAw0, 132, 19068) := rvOk_ok (by decide +kernel)
theorem rvSw_54 : rvRun rvTy rvNf rvTxt [] (fun _ _ _ => none) rvInf (rvFind2 tb_S) 99999999 0 0 0 0 7 1 40 rvAl0 [.inl (54, 54)] rvAw0 132 19068 = some (1476, rvAl0, [], rvAw0, 132, 19068) := rvOk_ok (by decide +kernel)
theorem rvSw_55 : rvRun rvTy rvNf rvTxt [] (fun _ _ _ => none) rvInf (rvFind2 tb_S) 99999999 0 0 0 0 7 1 40 rvAl0 [.inl (55, 55)] rvAw0 132 19068 = some (1476, rvAl0, [], rvAw0, 132, 19068) := rvOk_ok (by decide +kernel)
theorem rvSw_56 : rvRun rvTy rvNf rvTxt [] (fun _ _ _ => none) rvInf (rvFind2 tb_S) 99999999 0 0 0 0 7 1 40 rvAl0 [.inl (56, 56)] rvAw0 132 19068 = some (1476, rvAl0, [], rvAw0, 132, 19068) := rvOk_ok (by decide +kernel)
theorem rvSw_57 : rvRun rvTy rvNf rvTxt [] (fun _ _ _ => none) rvInf (rvFind2 tb_S) 99999999 0 0 0 0 7 1 40 rvAl0 [.inl (57, 57)] rvAw0 132 19068 = some (1476, rvAl0, [], rvAw0, 132, 19068) := rvOk_ok (by decide +kernel)
theorem rvSw_58 : rvRun rvTy rvNf rvTxt [] (fun _ _ _ => none) rvInf (rvFind2 tb_S) 99999999 0 0 0 0 7 1 40 rvAl0 [.inl (58, 58)] rvAw0 132 19068 = some (1476, rvAl0, [], rvAw0, 132, 19068) := rvOk_ok (by decide +kernel)
theorem rvSw_59 : rvRun rvTy rvNf rvTxt [] (fun _ _ _ => none) rvInf (rvFind2 tb_S) 99999999 0 0 0 0 7 1 40 rvAl0 [.inl (59, 59)] rvAw0 132 19068 = some (1476, rvAl0, [], rvAw0, 132, 19068) := rvOk_ok (by decide +kernel)
theorem rvSw_60 : rvRun rvTy rvNf rvTxt [] (fun _ _ _ => none) rvInf (rvFind2 tb_S) 99999999 0 0 0 0 7 1 40 rvAl0 [.inl (60, 60)] rvAw0 132 19068 = some (1476, rvAl0, [], rvAw0, 132, 19068) := rvOk_ok (by decide +kernel)
theorem rvSw_61 : rvRun rvTy rvNf rvTxt [] (fun _ _ _ => none) rvInf (rvFind2 tb_S) 99999999 0 0 0 0 7 1 40 rvAl0 [.inl (61, 61)] rvAw0 132 19068 = some (1476, rvAl0, [], rvAw0, 132, 19068) := rvOk_ok (by decide +kernel)
theorem rvSw_62 : rvRun rvTy rvNf rvTxt [] (fun _ _ _ => none) rvInf (rvFind2 tb_S) 99999999 0 0 0 0 7 1 40 rvAl0 [.inl (62, 62)] rvAw0 132 19068 = some (1476, rvAl0, [], rvAw0, 132, 19068) := rvOk_ok (by decide +kernel)
theorem rvSw_63 : rvRun rvTy rvNf rvTxt [] (fun _ _ _ => none) rvInf (rvFind2 tb_S) 99999999 0 0 0 0 7 1 40 rvAl0 [.inl (63, 63)] rvAw0 132 19068 = some (1476, rvAl0, [], rvAw0, 132, 19068) := rvOk_ok (by decide +kernel)
theorem rvOp_run {sc : List (Int × Int)} {call : Nat → List rvV → rvH → rvO} {pc kc ks : Nat} {al st : List rvV} {aw : rvH} (C : rvCx p s m args meth c code RL 7 D cT ex A false sc) (hcall : ∀ j as aw r, j < 168 → call j as aw = some r → rvMet l D cT ex rvYn rvCd rvInf rvRet j as aw r) (K : rvEnds p l e s m args below meth c Q D cT ex A)
    (h : rvGd (rvRun rvTy rvNf rvTxt sc call rvInf (rvFind2 tb_L) 1476 2048 600002 7302232 84000 7 100 pc al st aw kc ks) = true) : rvG p l e room_1 s m args below meth c Q D cT ex A 7 (pc, al, st, aw, kc, ks) := by
  obtain ⟨al1, aw1, kc1, ks1, he, h1, h2, h3, h4⟩ := rvGd_ok h
  exact rvRun_ok C rvBase_ok (fun _ _ => rfl) rvM_all hcall rvT_L (Nat.le_refl 2048) (Nat.le_refl 600002) (Nat.le_refl 7302232) (Nat.le_refl 84000) (K al1 aw1 kc1 ks1 h1 h2 h3 h4) 100 pc al st aw kc ks he
theorem rvX0_ok : ∀ j as aw r, j < 168 → rvX0 7 j as aw = some r → rvMet l D cT ex rvYn rvCd rvInf rvRet j as aw r := fun j as aw r hj h => rvExec_ok rvBase_ok rvM_all rvT_all (fun _ _ _ _ _ h => by cases h) 100000 7 j as aw r hj h
theorem rvOp_0 (hC : ∀ sc, rvSx ex A s sc → rvCx p s m args meth c code RL 7 D cT ex A false sc) (h6 : va_X (ex 5 0) 6 xs s s.heap ∧ ex 5 0 < s.heap.size ∧ ¬ A (ex 5 0)) (K : rvEnds p l e s m args below meth c Q D cT ex A) : rvG p l e room_1 s m args below meth c Q D cT ex A 7 (40, rvAl0, [.inl (0, 0)], rvAw0, 132, 19068) := by
  refine rvSw hC (rvSw_0) ?_
  exact rvOp_run (hC _ (rvSx6 h6 (rv_any _) (rv_any _) (rv_any _) (rv_any _) (rv_any _))) rvX0_ok K oc_0_0
theorem rvOp_1 (hC : ∀ sc, rvSx ex A s sc → rvCx p s m args meth c code RL 7 D cT ex A false sc) (h6 : va_X (ex 5 0) 6 xs s s.heap ∧ ex 5 0 < s.heap.size ∧ ¬ A (ex 5 0)) (K : rvEnds p l e s m args below meth c Q D cT ex A) : rvG p l e room_1 s m args below meth c Q D cT ex A 7 (40, rvAl0, [.inl (1, 1)], rvAw0, 132, 19068) := by
  refine rvSw hC (rvSw_1) ?_
  rcases (show ((-2147483648) ≤ (xs 1).toInt ∧ (xs 1).toInt ≤ (-1)) ∨ (0 ≤ (xs 1).toInt ∧ (xs 1).toInt ≤ 0) ∨ (1 ≤ (xs 1).toInt ∧ (xs 1).toInt ≤ 2147483647) by have := rv_lo (xs 1); have := rv_hi (xs 1); omega) with ⟨g0a, g0b⟩ | ⟨g0a, g0b⟩ | ⟨g0a, g0b⟩
  · skip
    exact rvOp_run (hC _ (rvSx6 h6 ⟨by show ((-2147483648) : Int) ≤ _; have := rv_lo (xs 1); omega, by show _ ≤ ((-1) : Int); have := rv_hi (xs 1); omega⟩ (rv_any _) (rv_any _) (rv_any _) (rv_any _))) rvX0_ok K oc_1_0
  · skip
    exact rvOp_run (hC _ (rvSx6 h6 ⟨by show (0 : Int) ≤ _; have := rv_lo (xs 1); omega, by show _ ≤ (0 : Int); have := rv_hi (xs 1); omega⟩ (rv_any _) (rv_any _) (rv_any _) (rv_any _))) rvX0_ok K oc_1_1
  · skip
    exact rvOp_run (hC _ (rvSx6 h6 ⟨by show (1 : Int) ≤ _; have := rv_lo (xs 1); omega, by show _ ≤ (2147483647 : Int); have := rv_hi (xs 1); omega⟩ (rv_any _) (rv_any _) (rv_any _) (rv_any _))) rvX0_ok K oc_1_2
theorem rvOp_2 (hC : ∀ sc, rvSx ex A s sc → rvCx p s m args meth c code RL 7 D cT ex A false sc) (h6 : va_X (ex 5 0) 6 xs s s.heap ∧ ex 5 0 < s.heap.size ∧ ¬ A (ex 5 0)) (K : rvEnds p l e s m args below meth c Q D cT ex A) : rvG p l e room_1 s m args below meth c Q D cT ex A 7 (40, rvAl0, [.inl (2, 2)], rvAw0, 132, 19068) := by
  refine rvSw hC (rvSw_2) ?_
  exact rvOp_run (hC _ (rvSx6 h6 (rv_any _) (rv_any _) (rv_any _) (rv_any _) (rv_any _))) rvX0_ok K oc_2_0
theorem rvOp_3 (hC : ∀ sc, rvSx ex A s sc → rvCx p s m args meth c code RL 7 D cT ex A false sc) (h6 : va_X (ex 5 0) 6 xs s s.heap ∧ ex 5 0 < s.heap.size ∧ ¬ A (ex 5 0)) (K : rvEnds p l e s m args below meth c Q D cT ex A) : rvG p l e room_1 s m args below meth c Q D cT ex A 7 (40, rvAl0, [.inl (3, 3)], rvAw0, 132, 19068) := by
  refine rvSw hC (rvSw_3) ?_
  exact rvOp_run (hC _ (rvSx6 h6 (rv_any _) (rv_any _) (rv_any _) (rv_any _) (rv_any _))) rvX0_ok K oc_3_0
theorem rvOp_5 (hC : ∀ sc, rvSx ex A s sc → rvCx p s m args meth c code RL 7 D cT ex A false sc) (h6 : va_X (ex 5 0) 6 xs s s.heap ∧ ex 5 0 < s.heap.size ∧ ¬ A (ex 5 0)) (K : rvEnds p l e s m args below meth c Q D cT ex A) : rvG p l e room_1 s m args below meth c Q D cT ex A 7 (40, rvAl0, [.inl (5, 5)], rvAw0, 132, 19068) := by
  refine rvSw hC (rvSw_5) ?_
  rcases (show ((-2147483648) ≤ (xs 1).toInt ∧ (xs 1).toInt ≤ (-1)) ∨ (0 ≤ (xs 1).toInt ∧ (xs 1).toInt ≤ 2147483647) by have := rv_lo (xs 1); have := rv_hi (xs 1); omega) with ⟨g0a, g0b⟩ | ⟨g0a, g0b⟩
  · skip
    exact rvOp_run (hC _ (rvSx6 h6 ⟨by show ((-2147483648) : Int) ≤ _; have := rv_lo (xs 1); omega, by show _ ≤ ((-1) : Int); have := rv_hi (xs 1); omega⟩ (rv_any _) (rv_any _) (rv_any _) (rv_any _))) rvX0_ok K oc_5_0
  · skip
    exact rvOp_run (hC _ (rvSx6 h6 ⟨by show (0 : Int) ≤ _; have := rv_lo (xs 1); omega, by show _ ≤ (2147483647 : Int); have := rv_hi (xs 1); omega⟩ (rv_any _) (rv_any _) (rv_any _) (rv_any _))) rvX0_ok K oc_5_1
theorem rvOp_6 (hC : ∀ sc, rvSx ex A s sc → rvCx p s m args meth c code RL 7 D cT ex A false sc) (h6 : va_X (ex 5 0) 6 xs s s.heap ∧ ex 5 0 < s.heap.size ∧ ¬ A (ex 5 0)) (K : rvEnds p l e s m args below meth c Q D cT ex A) : rvG p l e room_1 s m args below meth c Q D cT ex A 7 (40, rvAl0, [.inl (6, 6)], rvAw0, 132, 19068) := by
  refine rvSw hC (rvSw_6) ?_
  rcases (show ((-2147483648) ≤ (xs 1).toInt ∧ (xs 1).toInt ≤ (-1)) ∨ (0 ≤ (xs 1).toInt ∧ (xs 1).toInt ≤ 0) ∨ (1 ≤ (xs 1).toInt ∧ (xs 1).toInt ≤ 1) ∨ (2 ≤ (xs 1).toInt ∧ (xs 1).toInt ≤ 2) ∨ (3 ≤ (xs 1).toInt ∧ (xs 1).toInt ≤ 3) ∨ (4 ≤ (xs 1).toInt ∧ (xs 1).toInt ≤ 4) ∨ (5 ≤ (xs 1).toInt ∧ (xs 1).toInt ≤ 2147483647) by have := rv_lo (xs 1); have := rv_hi (xs 1); omega) with ⟨g0a, g0b⟩ | ⟨g0a, g0b⟩ | ⟨g0a, g0b⟩ | ⟨g0a, g0b⟩ | ⟨g0a, g0b⟩ | ⟨g0a, g0b⟩ | ⟨g0a, g0b⟩
  · skip
    exact rvOp_run (hC _ (rvSx6 h6 ⟨by show ((-2147483648) : Int) ≤ _; have := rv_lo (xs 1); omega, by show _ ≤ ((-1) : Int); have := rv_hi (xs 1); omega⟩ (rv_any _) (rv_any _) (rv_any _) (rv_any _))) rvX0_ok K oc_6_0
  · skip
    exact rvOp_run (hC _ (rvSx6 h6 ⟨by show (0 : Int) ≤ _; have := rv_lo (xs 1); omega, by show _ ≤ (0 : Int); have := rv_hi (xs 1); omega⟩ (rv_any _) (rv_any _) (rv_any _) (rv_any _))) rvX0_ok K oc_6_1
  · skip
    exact rvOp_run (hC _ (rvSx6 h6 ⟨by show (1 : Int) ≤ _; have := rv_lo (xs 1); omega, by show _ ≤ (1 : Int); have := rv_hi (xs 1); omega⟩ (rv_any _) (rv_any _) (rv_any _) (rv_any _))) rvX0_ok K oc_6_2
  · skip
    exact rvOp_run (hC _ (rvSx6 h6 ⟨by show (2 : Int) ≤ _; have := rv_lo (xs 1); omega, by show _ ≤ (2 : Int); have := rv_hi (xs 1); omega⟩ (rv_any _) (rv_any _) (rv_any _) (rv_any _))) rvX0_ok K oc_6_3
  · skip
    exact rvOp_run (hC _ (rvSx6 h6 ⟨by show (3 : Int) ≤ _; have := rv_lo (xs 1); omega, by show _ ≤ (3 : Int); have := rv_hi (xs 1); omega⟩ (rv_any _) (rv_any _) (rv_any _) (rv_any _))) rvX0_ok K oc_6_4
  · skip
    exact rvOp_run (hC _ (rvSx6 h6 ⟨by show (4 : Int) ≤ _; have := rv_lo (xs 1); omega, by show _ ≤ (4 : Int); have := rv_hi (xs 1); omega⟩ (rv_any _) (rv_any _) (rv_any _) (rv_any _))) rvX0_ok K oc_6_5
  · skip
    exact rvOp_run (hC _ (rvSx6 h6 ⟨by show (5 : Int) ≤ _; have := rv_lo (xs 1); omega, by show _ ≤ (2147483647 : Int); have := rv_hi (xs 1); omega⟩ (rv_any _) (rv_any _) (rv_any _) (rv_any _))) rvX0_ok K oc_6_6
theorem rvOp_7 (hC : ∀ sc, rvSx ex A s sc → rvCx p s m args meth c code RL 7 D cT ex A false sc) (h6 : va_X (ex 5 0) 6 xs s s.heap ∧ ex 5 0 < s.heap.size ∧ ¬ A (ex 5 0)) (K : rvEnds p l e s m args below meth c Q D cT ex A) : rvG p l e room_1 s m args below meth c Q D cT ex A 7 (40, rvAl0, [.inl (7, 7)], rvAw0, 132, 19068) := by
  refine rvSw hC (rvSw_7) ?_
  rcases (show ((-2147483648) ≤ (xs 1).toInt ∧ (xs 1).toInt ≤ (-1)) ∨ (0 ≤ (xs 1).toInt ∧ (xs 1).toInt ≤ 0) ∨ (1 ≤ (xs 1).toInt ∧ (xs 1).toInt ≤ 1) ∨ (2 ≤ (xs 1).toInt ∧ (xs 1).toInt ≤ 2) ∨ (3 ≤ (xs 1).toInt ∧ (xs 1).toInt ≤ 3) ∨ (4 ≤ (xs 1).toInt ∧ (xs 1).toInt ≤ 4) ∨ (5 ≤ (xs 1).toInt ∧ (xs 1).toInt ≤ 2147483647) by have := rv_lo (xs 1); have := rv_hi (xs 1); omega) with ⟨g0a, g0b⟩ | ⟨g0a, g0b⟩ | ⟨g0a, g0b⟩ | ⟨g0a, g0b⟩ | ⟨g0a, g0b⟩ | ⟨g0a, g0b⟩ | ⟨g0a, g0b⟩
  · skip
    rcases (show ((-2147483648) ≤ (xs 2).toInt ∧ (xs 2).toInt ≤ (-1)) ∨ (0 ≤ (xs 2).toInt ∧ (xs 2).toInt ≤ 2147483647) by have := rv_lo (xs 2); have := rv_hi (xs 2); omega) with ⟨g1a, g1b⟩ | ⟨g1a, g1b⟩
    · skip
      exact rvOp_run (hC _ (rvSx6 h6 ⟨by show ((-2147483648) : Int) ≤ _; have := rv_lo (xs 1); omega, by show _ ≤ ((-1) : Int); have := rv_hi (xs 1); omega⟩ ⟨by show ((-2147483648) : Int) ≤ _; have := rv_lo (xs 2); omega, by show _ ≤ ((-1) : Int); have := rv_hi (xs 2); omega⟩ (rv_any _) (rv_any _) (rv_any _))) rvX0_ok K oc_7_0
    · skip
      exact rvOp_run (hC _ (rvSx6 h6 ⟨by show ((-2147483648) : Int) ≤ _; have := rv_lo (xs 1); omega, by show _ ≤ ((-1) : Int); have := rv_hi (xs 1); omega⟩ ⟨by show (0 : Int) ≤ _; have := rv_lo (xs 2); omega, by show _ ≤ (2147483647 : Int); have := rv_hi (xs 2); omega⟩ (rv_any _) (rv_any _) (rv_any _))) rvX0_ok K oc_7_1
  · skip
    rcases (show ((-2147483648) ≤ (xs 2).toInt ∧ (xs 2).toInt ≤ (-1)) ∨ (0 ≤ (xs 2).toInt ∧ (xs 2).toInt ≤ 2147483647) by have := rv_lo (xs 2); have := rv_hi (xs 2); omega) with ⟨g1a, g1b⟩ | ⟨g1a, g1b⟩
    · skip
      exact rvOp_run (hC _ (rvSx6 h6 ⟨by show (0 : Int) ≤ _; have := rv_lo (xs 1); omega, by show _ ≤ (0 : Int); have := rv_hi (xs 1); omega⟩ ⟨by show ((-2147483648) : Int) ≤ _; have := rv_lo (xs 2); omega, by show _ ≤ ((-1) : Int); have := rv_hi (xs 2); omega⟩ (rv_any _) (rv_any _) (rv_any _))) rvX0_ok K oc_7_2
    · skip
      exact rvOp_run (hC _ (rvSx6 h6 ⟨by show (0 : Int) ≤ _; have := rv_lo (xs 1); omega, by show _ ≤ (0 : Int); have := rv_hi (xs 1); omega⟩ ⟨by show (0 : Int) ≤ _; have := rv_lo (xs 2); omega, by show _ ≤ (2147483647 : Int); have := rv_hi (xs 2); omega⟩ (rv_any _) (rv_any _) (rv_any _))) rvX0_ok K oc_7_3
  · skip
    rcases (show ((-2147483648) ≤ (xs 2).toInt ∧ (xs 2).toInt ≤ (-1)) ∨ (0 ≤ (xs 2).toInt ∧ (xs 2).toInt ≤ 2147483647) by have := rv_lo (xs 2); have := rv_hi (xs 2); omega) with ⟨g1a, g1b⟩ | ⟨g1a, g1b⟩
    · skip
      exact rvOp_run (hC _ (rvSx6 h6 ⟨by show (1 : Int) ≤ _; have := rv_lo (xs 1); omega, by show _ ≤ (1 : Int); have := rv_hi (xs 1); omega⟩ ⟨by show ((-2147483648) : Int) ≤ _; have := rv_lo (xs 2); omega, by show _ ≤ ((-1) : Int); have := rv_hi (xs 2); omega⟩ (rv_any _) (rv_any _) (rv_any _))) rvX0_ok K oc_7_4
    · skip
      exact rvOp_run (hC _ (rvSx6 h6 ⟨by show (1 : Int) ≤ _; have := rv_lo (xs 1); omega, by show _ ≤ (1 : Int); have := rv_hi (xs 1); omega⟩ ⟨by show (0 : Int) ≤ _; have := rv_lo (xs 2); omega, by show _ ≤ (2147483647 : Int); have := rv_hi (xs 2); omega⟩ (rv_any _) (rv_any _) (rv_any _))) rvX0_ok K oc_7_5
  · skip
    rcases (show ((-2147483648) ≤ (xs 2).toInt ∧ (xs 2).toInt ≤ (-1)) ∨ (0 ≤ (xs 2).toInt ∧ (xs 2).toInt ≤ 2147483647) by have := rv_lo (xs 2); have := rv_hi (xs 2); omega) with ⟨g1a, g1b⟩ | ⟨g1a, g1b⟩
    · skip
      exact rvOp_run (hC _ (rvSx6 h6 ⟨by show (2 : Int) ≤ _; have := rv_lo (xs 1); omega, by show _ ≤ (2 : Int); have := rv_hi (xs 1); omega⟩ ⟨by show ((-2147483648) : Int) ≤ _; have := rv_lo (xs 2); omega, by show _ ≤ ((-1) : Int); have := rv_hi (xs 2); omega⟩ (rv_any _) (rv_any _) (rv_any _))) rvX0_ok K oc_7_6
    · skip
      exact rvOp_run (hC _ (rvSx6 h6 ⟨by show (2 : Int) ≤ _; have := rv_lo (xs 1); omega, by show _ ≤ (2 : Int); have := rv_hi (xs 1); omega⟩ ⟨by show (0 : Int) ≤ _; have := rv_lo (xs 2); omega, by show _ ≤ (2147483647 : Int); have := rv_hi (xs 2); omega⟩ (rv_any _) (rv_any _) (rv_any _))) rvX0_ok K oc_7_7
  · skip
    rcases (show ((-2147483648) ≤ (xs 2).toInt ∧ (xs 2).toInt ≤ (-1)) ∨ (0 ≤ (xs 2).toInt ∧ (xs 2).toInt ≤ 2147483647) by have := rv_lo (xs 2); have := rv_hi (xs 2); omega) with ⟨g1a, g1b⟩ | ⟨g1a, g1b⟩
    · skip
      exact rvOp_run (hC _ (rvSx6 h6 ⟨by show (3 : Int) ≤ _; have := rv_lo (xs 1); omega, by show _ ≤ (3 : Int); have := rv_hi (xs 1); omega⟩ ⟨by show ((-2147483648) : Int) ≤ _; have := rv_lo (xs 2); omega, by show _ ≤ ((-1) : Int); have := rv_hi (xs 2); omega⟩ (rv_any _) (rv_any _) (rv_any _))) rvX0_ok K oc_7_8
    · skip
      exact rvOp_run (hC _ (rvSx6 h6 ⟨by show (3 : Int) ≤ _; have := rv_lo (xs 1); omega, by show _ ≤ (3 : Int); have := rv_hi (xs 1); omega⟩ ⟨by show (0 : Int) ≤ _; have := rv_lo (xs 2); omega, by show _ ≤ (2147483647 : Int); have := rv_hi (xs 2); omega⟩ (rv_any _) (rv_any _) (rv_any _))) rvX0_ok K oc_7_9
  · skip
    rcases (show ((-2147483648) ≤ (xs 2).toInt ∧ (xs 2).toInt ≤ (-1)) ∨ (0 ≤ (xs 2).toInt ∧ (xs 2).toInt ≤ 2147483647) by have := rv_lo (xs 2); have := rv_hi (xs 2); omega) with ⟨g1a, g1b⟩ | ⟨g1a, g1b⟩
    · skip
      exact rvOp_run (hC _ (rvSx6 h6 ⟨by show (4 : Int) ≤ _; have := rv_lo (xs 1); omega, by show _ ≤ (4 : Int); have := rv_hi (xs 1); omega⟩ ⟨by show ((-2147483648) : Int) ≤ _; have := rv_lo (xs 2); omega, by show _ ≤ ((-1) : Int); have := rv_hi (xs 2); omega⟩ (rv_any _) (rv_any _) (rv_any _))) rvX0_ok K oc_7_10
    · skip
      exact rvOp_run (hC _ (rvSx6 h6 ⟨by show (4 : Int) ≤ _; have := rv_lo (xs 1); omega, by show _ ≤ (4 : Int); have := rv_hi (xs 1); omega⟩ ⟨by show (0 : Int) ≤ _; have := rv_lo (xs 2); omega, by show _ ≤ (2147483647 : Int); have := rv_hi (xs 2); omega⟩ (rv_any _) (rv_any _) (rv_any _))) rvX0_ok K oc_7_11
  · skip
    rcases (show ((-2147483648) ≤ (xs 2).toInt ∧ (xs 2).toInt ≤ (-1)) ∨ (0 ≤ (xs 2).toInt ∧ (xs 2).toInt ≤ 2147483647) by have := rv_lo (xs 2); have := rv_hi (xs 2); omega) with ⟨g1a, g1b⟩ | ⟨g1a, g1b⟩
    · skip
      exact rvOp_run (hC _ (rvSx6 h6 ⟨by show (5 : Int) ≤ _; have := rv_lo (xs 1); omega, by show _ ≤ (2147483647 : Int); have := rv_hi (xs 1); omega⟩ ⟨by show ((-2147483648) : Int) ≤ _; have := rv_lo (xs 2); omega, by show _ ≤ ((-1) : Int); have := rv_hi (xs 2); omega⟩ (rv_any _) (rv_any _) (rv_any _))) rvX0_ok K oc_7_12
    · skip
      exact rvOp_run (hC _ (rvSx6 h6 ⟨by show (5 : Int) ≤ _; have := rv_lo (xs 1); omega, by show _ ≤ (2147483647 : Int); have := rv_hi (xs 1); omega⟩ ⟨by show (0 : Int) ≤ _; have := rv_lo (xs 2); omega, by show _ ≤ (2147483647 : Int); have := rv_hi (xs 2); omega⟩ (rv_any _) (rv_any _) (rv_any _))) rvX0_ok K oc_7_13
theorem rvOp_8 (hC : ∀ sc, rvSx ex A s sc → rvCx p s m args meth c code RL 7 D cT ex A false sc) (h6 : va_X (ex 5 0) 6 xs s s.heap ∧ ex 5 0 < s.heap.size ∧ ¬ A (ex 5 0)) (K : rvEnds p l e s m args below meth c Q D cT ex A) : rvG p l e room_1 s m args below meth c Q D cT ex A 7 (40, rvAl0, [.inl (8, 8)], rvAw0, 132, 19068) := by
  refine rvSw hC (rvSw_8) ?_
  rcases (show ((-2147483648) ≤ (xs 1).toInt ∧ (xs 1).toInt ≤ (-1)) ∨ (0 ≤ (xs 1).toInt ∧ (xs 1).toInt ≤ 0) ∨ (1 ≤ (xs 1).toInt ∧ (xs 1).toInt ≤ 1) ∨ (2 ≤ (xs 1).toInt ∧ (xs 1).toInt ≤ 2) ∨ (3 ≤ (xs 1).toInt ∧ (xs 1).toInt ≤ 3) ∨ (4 ≤ (xs 1).toInt ∧ (xs 1).toInt ≤ 4) ∨ (5 ≤ (xs 1).toInt ∧ (xs 1).toInt ≤ 2147483647) by have := rv_lo (xs 1); have := rv_hi (xs 1); omega) with ⟨g0a, g0b⟩ | ⟨g0a, g0b⟩ | ⟨g0a, g0b⟩ | ⟨g0a, g0b⟩ | ⟨g0a, g0b⟩ | ⟨g0a, g0b⟩ | ⟨g0a, g0b⟩
  · skip
    rcases (show ((-2147483648) ≤ (xs 2).toInt ∧ (xs 2).toInt ≤ (-1)) ∨ (0 ≤ (xs 2).toInt ∧ (xs 2).toInt ≤ 2147483647) by have := rv_lo (xs 2); have := rv_hi (xs 2); omega) with ⟨g1a, g1b⟩ | ⟨g1a, g1b⟩
    · skip
      exact rvOp_run (hC _ (rvSx6 h6 ⟨by show ((-2147483648) : Int) ≤ _; have := rv_lo (xs 1); omega, by show _ ≤ ((-1) : Int); have := rv_hi (xs 1); omega⟩ ⟨by show ((-2147483648) : Int) ≤ _; have := rv_lo (xs 2); omega, by show _ ≤ ((-1) : Int); have := rv_hi (xs 2); omega⟩ (rv_any _) (rv_any _) (rv_any _))) rvX0_ok K oc_8_0
    · skip
      exact rvOp_run (hC _ (rvSx6 h6 ⟨by show ((-2147483648) : Int) ≤ _; have := rv_lo (xs 1); omega, by show _ ≤ ((-1) : Int); have := rv_hi (xs 1); omega⟩ ⟨by show (0 : Int) ≤ _; have := rv_lo (xs 2); omega, by show _ ≤ (2147483647 : Int); have := rv_hi (xs 2); omega⟩ (rv_any _) (rv_any _) (rv_any _))) rvX0_ok K oc_8_1
  · skip
    rcases (show ((-2147483648) ≤ (xs 2).toInt ∧ (xs 2).toInt ≤ (-1)) ∨ (0 ≤ (xs 2).toInt ∧ (xs 2).toInt ≤ 2147483647) by have := rv_lo (xs 2); have := rv_hi (xs 2); omega) with ⟨g1a, g1b⟩ | ⟨g1a, g1b⟩
    · skip
      exact rvOp_run (hC _ (rvSx6 h6 ⟨by show (0 : Int) ≤ _; have := rv_lo (xs 1); omega, by show _ ≤ (0 : Int); have := rv_hi (xs 1); omega⟩ ⟨by show ((-2147483648) : Int) ≤ _; have := rv_lo (xs 2); omega, by show _ ≤ ((-1) : Int); have := rv_hi (xs 2); omega⟩ (rv_any _) (rv_any _) (rv_any _))) rvX0_ok K oc_8_2
    · skip
      exact rvOp_run (hC _ (rvSx6 h6 ⟨by show (0 : Int) ≤ _; have := rv_lo (xs 1); omega, by show _ ≤ (0 : Int); have := rv_hi (xs 1); omega⟩ ⟨by show (0 : Int) ≤ _; have := rv_lo (xs 2); omega, by show _ ≤ (2147483647 : Int); have := rv_hi (xs 2); omega⟩ (rv_any _) (rv_any _) (rv_any _))) rvX0_ok K oc_8_3
  · skip
    rcases (show ((-2147483648) ≤ (xs 2).toInt ∧ (xs 2).toInt ≤ (-1)) ∨ (0 ≤ (xs 2).toInt ∧ (xs 2).toInt ≤ 2147483647) by have := rv_lo (xs 2); have := rv_hi (xs 2); omega) with ⟨g1a, g1b⟩ | ⟨g1a, g1b⟩
    · skip
      exact rvOp_run (hC _ (rvSx6 h6 ⟨by show (1 : Int) ≤ _; have := rv_lo (xs 1); omega, by show _ ≤ (1 : Int); have := rv_hi (xs 1); omega⟩ ⟨by show ((-2147483648) : Int) ≤ _; have := rv_lo (xs 2); omega, by show _ ≤ ((-1) : Int); have := rv_hi (xs 2); omega⟩ (rv_any _) (rv_any _) (rv_any _))) rvX0_ok K oc_8_4
    · skip
      exact rvOp_run (hC _ (rvSx6 h6 ⟨by show (1 : Int) ≤ _; have := rv_lo (xs 1); omega, by show _ ≤ (1 : Int); have := rv_hi (xs 1); omega⟩ ⟨by show (0 : Int) ≤ _; have := rv_lo (xs 2); omega, by show _ ≤ (2147483647 : Int); have := rv_hi (xs 2); omega⟩ (rv_any _) (rv_any _) (rv_any _))) rvX0_ok K oc_8_5
  · skip
    rcases (show ((-2147483648) ≤ (xs 2).toInt ∧ (xs 2).toInt ≤ (-1)) ∨ (0 ≤ (xs 2).toInt ∧ (xs 2).toInt ≤ 2147483647) by have := rv_lo (xs 2); have := rv_hi (xs 2); omega) with ⟨g1a, g1b⟩ | ⟨g1a, g1b⟩
    · skip
      exact rvOp_run (hC _ (rvSx6 h6 ⟨by show (2 : Int) ≤ _; have := rv_lo (xs 1); omega, by show _ ≤ (2 : Int); have := rv_hi (xs 1); omega⟩ ⟨by show ((-2147483648) : Int) ≤ _; have := rv_lo (xs 2); omega, by show _ ≤ ((-1) : Int); have := rv_hi (xs 2); omega⟩ (rv_any _) (rv_any _) (rv_any _))) rvX0_ok K oc_8_6
    · skip
      exact rvOp_run (hC _ (rvSx6 h6 ⟨by show (2 : Int) ≤ _; have := rv_lo (xs 1); omega, by show _ ≤ (2 : Int); have := rv_hi (xs 1); omega⟩ ⟨by show (0 : Int) ≤ _; have := rv_lo (xs 2); omega, by show _ ≤ (2147483647 : Int); have := rv_hi (xs 2); omega⟩ (rv_any _) (rv_any _) (rv_any _))) rvX0_ok K oc_8_7
  · skip
    rcases (show ((-2147483648) ≤ (xs 2).toInt ∧ (xs 2).toInt ≤ (-1)) ∨ (0 ≤ (xs 2).toInt ∧ (xs 2).toInt ≤ 2147483647) by have := rv_lo (xs 2); have := rv_hi (xs 2); omega) with ⟨g1a, g1b⟩ | ⟨g1a, g1b⟩
    · skip
      exact rvOp_run (hC _ (rvSx6 h6 ⟨by show (3 : Int) ≤ _; have := rv_lo (xs 1); omega, by show _ ≤ (3 : Int); have := rv_hi (xs 1); omega⟩ ⟨by show ((-2147483648) : Int) ≤ _; have := rv_lo (xs 2); omega, by show _ ≤ ((-1) : Int); have := rv_hi (xs 2); omega⟩ (rv_any _) (rv_any _) (rv_any _))) rvX0_ok K oc_8_8
    · skip
      exact rvOp_run (hC _ (rvSx6 h6 ⟨by show (3 : Int) ≤ _; have := rv_lo (xs 1); omega, by show _ ≤ (3 : Int); have := rv_hi (xs 1); omega⟩ ⟨by show (0 : Int) ≤ _; have := rv_lo (xs 2); omega, by show _ ≤ (2147483647 : Int); have := rv_hi (xs 2); omega⟩ (rv_any _) (rv_any _) (rv_any _))) rvX0_ok K oc_8_9
  · skip
    rcases (show ((-2147483648) ≤ (xs 2).toInt ∧ (xs 2).toInt ≤ (-1)) ∨ (0 ≤ (xs 2).toInt ∧ (xs 2).toInt ≤ 2147483647) by have := rv_lo (xs 2); have := rv_hi (xs 2); omega) with ⟨g1a, g1b⟩ | ⟨g1a, g1b⟩
    · skip
      exact rvOp_run (hC _ (rvSx6 h6 ⟨by show (4 : Int) ≤ _; have := rv_lo (xs 1); omega, by show _ ≤ (4 : Int); have := rv_hi (xs 1); omega⟩ ⟨by show ((-2147483648) : Int) ≤ _; have := rv_lo (xs 2); omega, by show _ ≤ ((-1) : Int); have := rv_hi (xs 2); omega⟩ (rv_any _) (rv_any _) (rv_any _))) rvX0_ok K oc_8_10
    · skip
      exact rvOp_run (hC _ (rvSx6 h6 ⟨by show (4 : Int) ≤ _; have := rv_lo (xs 1); omega, by show _ ≤ (4 : Int); have := rv_hi (xs 1); omega⟩ ⟨by show (0 : Int) ≤ _; have := rv_lo (xs 2); omega, by show _ ≤ (2147483647 : Int); have := rv_hi (xs 2); omega⟩ (rv_any _) (rv_any _) (rv_any _))) rvX0_ok K oc_8_11
  · skip
    rcases (show ((-2147483648) ≤ (xs 2).toInt ∧ (xs 2).toInt ≤ (-1)) ∨ (0 ≤ (xs 2).toInt ∧ (xs 2).toInt ≤ 2147483647) by have := rv_lo (xs 2); have := rv_hi (xs 2); omega) with ⟨g1a, g1b⟩ | ⟨g1a, g1b⟩
    · skip
      exact rvOp_run (hC _ (rvSx6 h6 ⟨by show (5 : Int) ≤ _; have := rv_lo (xs 1); omega, by show _ ≤ (2147483647 : Int); have := rv_hi (xs 1); omega⟩ ⟨by show ((-2147483648) : Int) ≤ _; have := rv_lo (xs 2); omega, by show _ ≤ ((-1) : Int); have := rv_hi (xs 2); omega⟩ (rv_any _) (rv_any _) (rv_any _))) rvX0_ok K oc_8_12
    · skip
      exact rvOp_run (hC _ (rvSx6 h6 ⟨by show (5 : Int) ≤ _; have := rv_lo (xs 1); omega, by show _ ≤ (2147483647 : Int); have := rv_hi (xs 1); omega⟩ ⟨by show (0 : Int) ≤ _; have := rv_lo (xs 2); omega, by show _ ≤ (2147483647 : Int); have := rv_hi (xs 2); omega⟩ (rv_any _) (rv_any _) (rv_any _))) rvX0_ok K oc_8_13
theorem rvOp_9 (hC : ∀ sc, rvSx ex A s sc → rvCx p s m args meth c code RL 7 D cT ex A false sc) (h6 : va_X (ex 5 0) 6 xs s s.heap ∧ ex 5 0 < s.heap.size ∧ ¬ A (ex 5 0)) (K : rvEnds p l e s m args below meth c Q D cT ex A) : rvG p l e room_1 s m args below meth c Q D cT ex A 7 (40, rvAl0, [.inl (9, 9)], rvAw0, 132, 19068) := by
  refine rvSw hC (rvSw_9) ?_
  rcases (show ((-2147483648) ≤ (xs 1).toInt ∧ (xs 1).toInt ≤ (-1)) ∨ (0 ≤ (xs 1).toInt ∧ (xs 1).toInt ≤ 0) ∨ (1 ≤ (xs 1).toInt ∧ (xs 1).toInt ≤ 1) ∨ (2 ≤ (xs 1).toInt ∧ (xs 1).toInt ≤ 2) ∨ (3 ≤ (xs 1).toInt ∧ (xs 1).toInt ≤ 3) ∨ (4 ≤ (xs 1).toInt ∧ (xs 1).toInt ≤ 4) ∨ (5 ≤ (xs 1).toInt ∧ (xs 1).toInt ≤ 2147483647) by have := rv_lo (xs 1); have := rv_hi (xs 1); omega) with ⟨g0a, g0b⟩ | ⟨g0a, g0b⟩ | ⟨g0a, g0b⟩ | ⟨g0a, g0b⟩ | ⟨g0a, g0b⟩ | ⟨g0a, g0b⟩ | ⟨g0a, g0b⟩
  · skip
    rcases (show ((-2147483648) ≤ (xs 2).toInt ∧ (xs 2).toInt ≤ (-1)) ∨ (0 ≤ (xs 2).toInt ∧ (xs 2).toInt ≤ 2147483647) by have := rv_lo (xs 2); have := rv_hi (xs 2); omega) with ⟨g1a, g1b⟩ | ⟨g1a, g1b⟩
    · skip
      exact rvOp_run (hC _ (rvSx6 h6 ⟨by show ((-2147483648) : Int) ≤ _; have := rv_lo (xs 1); omega, by show _ ≤ ((-1) : Int); have := rv_hi (xs 1); omega⟩ ⟨by show ((-2147483648) : Int) ≤ _; have := rv_lo (xs 2); omega, by show _ ≤ ((-1) : Int); have := rv_hi (xs 2); omega⟩ (rv_any _) (rv_any _) (rv_any _))) rvX0_ok K oc_9_0
    · skip
      exact rvOp_run (hC _ (rvSx6 h6 ⟨by show ((-2147483648) : Int) ≤ _; have := rv_lo (xs 1); omega, by show _ ≤ ((-1) : Int); have := rv_hi (xs 1); omega⟩ ⟨by show (0 : Int) ≤ _; have := rv_lo (xs 2); omega, by show _ ≤ (2147483647 : Int); have := rv_hi (xs 2); omega⟩ (rv_any _) (rv_any _) (rv_any _))) rvX0_ok K oc_9_1
  · skip
    rcases (show ((-2147483648) ≤ (xs 2).toInt ∧ (xs 2).toInt ≤ (-1)) ∨ (0 ≤ (xs 2).toInt ∧ (xs 2).toInt ≤ 2147483647) by have := rv_lo (xs 2); have := rv_hi (xs 2); omega) with ⟨g1a, g1b⟩ | ⟨g1a, g1b⟩
    · skip
      exact rvOp_run (hC _ (rvSx6 h6 ⟨by show (0 : Int) ≤ _; have := rv_lo (xs 1); omega, by show _ ≤ (0 : Int); have := rv_hi (xs 1); omega⟩ ⟨by show ((-2147483648) : Int) ≤ _; have := rv_lo (xs 2); omega, by show _ ≤ ((-1) : Int); have := rv_hi (xs 2); omega⟩ (rv_any _) (rv_any _) (rv_any _))) rvX0_ok K oc_9_2
    · skip
      exact rvOp_run (hC _ (rvSx6 h6 ⟨by show (0 : Int) ≤ _; have := rv_lo (xs 1); omega, by show _ ≤ (0 : Int); have := rv_hi (xs 1); omega⟩ ⟨by show (0 : Int) ≤ _; have := rv_lo (xs 2); omega, by show _ ≤ (2147483647 : Int); have := rv_hi (xs 2); omega⟩ (rv_any _) (rv_any _) (rv_any _))) rvX0_ok K oc_9_3
  · skip
    rcases (show ((-2147483648) ≤ (xs 2).toInt ∧ (xs 2).toInt ≤ (-1)) ∨ (0 ≤ (xs 2).toInt ∧ (xs 2).toInt ≤ 2147483647) by have := rv_lo (xs 2); have := rv_hi (xs 2); omega) with ⟨g1a, g1b⟩ | ⟨g1a, g1b⟩
    · skip
      exact rvOp_run (hC _ (rvSx6 h6 ⟨by show (1 : Int) ≤ _; have := rv_lo (xs 1); omega, by show _ ≤ (1 : Int); have := rv_hi (xs 1); omega⟩ ⟨by show ((-2147483648) : Int) ≤ _; have := rv_lo (xs 2); omega, by show _ ≤ ((-1) : Int); have := rv_hi (xs 2); omega⟩ (rv_any _) (rv_any _) (rv_any _))) rvX0_ok K oc_9_4
    · skip
      exact rvOp_run (hC _ (rvSx6 h6 ⟨by show (1 : Int) ≤ _; have := rv_lo (xs 1); omega, by show _ ≤ (1 : Int); have := rv_hi (xs 1); omega⟩ ⟨by show (0 : Int) ≤ _; have := rv_lo (xs 2); omega, by show _ ≤ (2147483647 : Int); have := rv_hi (xs 2); omega⟩ (rv_any _) (rv_any _) (rv_any _))) rvX0_ok K oc_9_5
  · skip
    rcases (show ((-2147483648) ≤ (xs 2).toInt ∧ (xs 2).toInt ≤ (-1)) ∨ (0 ≤ (xs 2).toInt ∧ (xs 2).toInt ≤ 2147483647) by have := rv_lo (xs 2); have := rv_hi (xs 2); omega) with ⟨g1a, g1b⟩ | ⟨g1a, g1b⟩
    · skip
      exact rvOp_run (hC _ (rvSx6 h6 ⟨by show (2 : Int) ≤ _; have := rv_lo (xs 1); omega, by show _ ≤ (2 : Int); have := rv_hi (xs 1); omega⟩ ⟨by show ((-2147483648) : Int) ≤ _; have := rv_lo (xs 2); omega, by show _ ≤ ((-1) : Int); have := rv_hi (xs 2); omega⟩ (rv_any _) (rv_any _) (rv_any _))) rvX0_ok K oc_9_6
    · skip
      exact rvOp_run (hC _ (rvSx6 h6 ⟨by show (2 : Int) ≤ _; have := rv_lo (xs 1); omega, by show _ ≤ (2 : Int); have := rv_hi (xs 1); omega⟩ ⟨by show (0 : Int) ≤ _; have := rv_lo (xs 2); omega, by show _ ≤ (2147483647 : Int); have := rv_hi (xs 2); omega⟩ (rv_any _) (rv_any _) (rv_any _))) rvX0_ok K oc_9_7
  · skip
    rcases (show ((-2147483648) ≤ (xs 2).toInt ∧ (xs 2).toInt ≤ (-1)) ∨ (0 ≤ (xs 2).toInt ∧ (xs 2).toInt ≤ 2147483647) by have := rv_lo (xs 2); have := rv_hi (xs 2); omega) with ⟨g1a, g1b⟩ | ⟨g1a, g1b⟩
    · skip
      exact rvOp_run (hC _ (rvSx6 h6 ⟨by show (3 : Int) ≤ _; have := rv_lo (xs 1); omega, by show _ ≤ (3 : Int); have := rv_hi (xs 1); omega⟩ ⟨by show ((-2147483648) : Int) ≤ _; have := rv_lo (xs 2); omega, by show _ ≤ ((-1) : Int); have := rv_hi (xs 2); omega⟩ (rv_any _) (rv_any _) (rv_any _))) rvX0_ok K oc_9_8
    · skip
      exact rvOp_run (hC _ (rvSx6 h6 ⟨by show (3 : Int) ≤ _; have := rv_lo (xs 1); omega, by show _ ≤ (3 : Int); have := rv_hi (xs 1); omega⟩ ⟨by show (0 : Int) ≤ _; have := rv_lo (xs 2); omega, by show _ ≤ (2147483647 : Int); have := rv_hi (xs 2); omega⟩ (rv_any _) (rv_any _) (rv_any _))) rvX0_ok K oc_9_9
  · skip
    rcases (show ((-2147483648) ≤ (xs 2).toInt ∧ (xs 2).toInt ≤ (-1)) ∨ (0 ≤ (xs 2).toInt ∧ (xs 2).toInt ≤ 2147483647) by have := rv_lo (xs 2); have := rv_hi (xs 2); omega) with ⟨g1a, g1b⟩ | ⟨g1a, g1b⟩
    · skip
      exact rvOp_run (hC _ (rvSx6 h6 ⟨by show (4 : Int) ≤ _; have := rv_lo (xs 1); omega, by show _ ≤ (4 : Int); have := rv_hi (xs 1); omega⟩ ⟨by show ((-2147483648) : Int) ≤ _; have := rv_lo (xs 2); omega, by show _ ≤ ((-1) : Int); have := rv_hi (xs 2); omega⟩ (rv_any _) (rv_any _) (rv_any _))) rvX0_ok K oc_9_10
    · skip
      exact rvOp_run (hC _ (rvSx6 h6 ⟨by show (4 : Int) ≤ _; have := rv_lo (xs 1); omega, by show _ ≤ (4 : Int); have := rv_hi (xs 1); omega⟩ ⟨by show (0 : Int) ≤ _; have := rv_lo (xs 2); omega, by show _ ≤ (2147483647 : Int); have := rv_hi (xs 2); omega⟩ (rv_any _) (rv_any _) (rv_any _))) rvX0_ok K oc_9_11
  · skip
    rcases (show ((-2147483648) ≤ (xs 2).toInt ∧ (xs 2).toInt ≤ (-1)) ∨ (0 ≤ (xs 2).toInt ∧ (xs 2).toInt ≤ 2147483647) by have := rv_lo (xs 2); have := rv_hi (xs 2); omega) with ⟨g1a, g1b⟩ | ⟨g1a, g1b⟩
    · skip
      exact rvOp_run (hC _ (rvSx6 h6 ⟨by show (5 : Int) ≤ _; have := rv_lo (xs 1); omega, by show _ ≤ (2147483647 : Int); have := rv_hi (xs 1); omega⟩ ⟨by show ((-2147483648) : Int) ≤ _; have := rv_lo (xs 2); omega, by show _ ≤ ((-1) : Int); have := rv_hi (xs 2); omega⟩ (rv_any _) (rv_any _) (rv_any _))) rvX0_ok K oc_9_12
    · skip
      exact rvOp_run (hC _ (rvSx6 h6 ⟨by show (5 : Int) ≤ _; have := rv_lo (xs 1); omega, by show _ ≤ (2147483647 : Int); have := rv_hi (xs 1); omega⟩ ⟨by show (0 : Int) ≤ _; have := rv_lo (xs 2); omega, by show _ ≤ (2147483647 : Int); have := rv_hi (xs 2); omega⟩ (rv_any _) (rv_any _) (rv_any _))) rvX0_ok K oc_9_13
theorem rvOp_10 (hC : ∀ sc, rvSx ex A s sc → rvCx p s m args meth c code RL 7 D cT ex A false sc) (h6 : va_X (ex 5 0) 6 xs s s.heap ∧ ex 5 0 < s.heap.size ∧ ¬ A (ex 5 0)) (K : rvEnds p l e s m args below meth c Q D cT ex A) : rvG p l e room_1 s m args below meth c Q D cT ex A 7 (40, rvAl0, [.inl (10, 10)], rvAw0, 132, 19068) := by
  refine rvSw hC (rvSw_10) ?_
  rcases (show ((-2147483648) ≤ (xs 1).toInt ∧ (xs 1).toInt ≤ (-1)) ∨ (0 ≤ (xs 1).toInt ∧ (xs 1).toInt ≤ 2147483647) by have := rv_lo (xs 1); have := rv_hi (xs 1); omega) with ⟨g0a, g0b⟩ | ⟨g0a, g0b⟩
  · skip
    exact rvOp_run (hC _ (rvSx6 h6 ⟨by show ((-2147483648) : Int) ≤ _; have := rv_lo (xs 1); omega, by show _ ≤ ((-1) : Int); have := rv_hi (xs 1); omega⟩ (rv_any _) (rv_any _) (rv_any _) (rv_any _))) rvX0_ok K oc_10_0
  · skip
    exact rvOp_run (hC _ (rvSx6 h6 ⟨by show (0 : Int) ≤ _; have := rv_lo (xs 1); omega, by show _ ≤ (2147483647 : Int); have := rv_hi (xs 1); omega⟩ (rv_any _) (rv_any _) (rv_any _) (rv_any _))) rvX0_ok K oc_10_1
theorem rvOp_11 (hC : ∀ sc, rvSx ex A s sc → rvCx p s m args meth c code RL 7 D cT ex A false sc) (h6 : va_X (ex 5 0) 6 xs s s.heap ∧ ex 5 0 < s.heap.size ∧ ¬ A (ex 5 0)) (K : rvEnds p l e s m args below meth c Q D cT ex A) : rvG p l e room_1 s m args below meth c Q D cT ex A 7 (40, rvAl0, [.inl (11, 11)], rvAw0, 132, 19068) := by
  refine rvSw hC (rvSw_11) ?_
  rcases (show ((-2147483648) ≤ (xs 1).toInt ∧ (xs 1).toInt ≤ (-1)) ∨ (0 ≤ (xs 1).toInt ∧ (xs 1).toInt ≤ 0) ∨ (1 ≤ (xs 1).toInt ∧ (xs 1).toInt ≤ 1) ∨ (2 ≤ (xs 1).toInt ∧ (xs 1).toInt ≤ 2) ∨ (3 ≤ (xs 1).toInt ∧ (xs 1).toInt ≤ 3) ∨ (4 ≤ (xs 1).toInt ∧ (xs 1).toInt ≤ 4) ∨ (5 ≤ (xs 1).toInt ∧ (xs 1).toInt ≤ 5) ∨ (6 ≤ (xs 1).toInt ∧ (xs 1).toInt ≤ 2147483647) by have := rv_lo (xs 1); have := rv_hi (xs 1); omega) with ⟨g0a, g0b⟩ | ⟨g0a, g0b⟩ | ⟨g0a, g0b⟩ | ⟨g0a, g0b⟩ | ⟨g0a, g0b⟩ | ⟨g0a, g0b⟩ | ⟨g0a, g0b⟩ | ⟨g0a, g0b⟩
  · skip
    exact rvOp_run (hC _ (rvSx6 h6 ⟨by show ((-2147483648) : Int) ≤ _; have := rv_lo (xs 1); omega, by show _ ≤ ((-1) : Int); have := rv_hi (xs 1); omega⟩ (rv_any _) (rv_any _) (rv_any _) (rv_any _))) rvX0_ok K oc_11_0
  · skip
    exact rvOp_run (hC _ (rvSx6 h6 ⟨by show (0 : Int) ≤ _; have := rv_lo (xs 1); omega, by show _ ≤ (0 : Int); have := rv_hi (xs 1); omega⟩ (rv_any _) (rv_any _) (rv_any _) (rv_any _))) rvX0_ok K oc_11_1
  · skip
    exact rvOp_run (hC _ (rvSx6 h6 ⟨by show (1 : Int) ≤ _; have := rv_lo (xs 1); omega, by show _ ≤ (1 : Int); have := rv_hi (xs 1); omega⟩ (rv_any _) (rv_any _) (rv_any _) (rv_any _))) rvX0_ok K oc_11_2
  · skip
    exact rvOp_run (hC _ (rvSx6 h6 ⟨by show (2 : Int) ≤ _; have := rv_lo (xs 1); omega, by show _ ≤ (2 : Int); have := rv_hi (xs 1); omega⟩ (rv_any _) (rv_any _) (rv_any _) (rv_any _))) rvX0_ok K oc_11_3
  · skip
    exact rvOp_run (hC _ (rvSx6 h6 ⟨by show (3 : Int) ≤ _; have := rv_lo (xs 1); omega, by show _ ≤ (3 : Int); have := rv_hi (xs 1); omega⟩ (rv_any _) (rv_any _) (rv_any _) (rv_any _))) rvX0_ok K oc_11_4
  · skip
    exact rvOp_run (hC _ (rvSx6 h6 ⟨by show (4 : Int) ≤ _; have := rv_lo (xs 1); omega, by show _ ≤ (4 : Int); have := rv_hi (xs 1); omega⟩ (rv_any _) (rv_any _) (rv_any _) (rv_any _))) rvX0_ok K oc_11_5
  · skip
    exact rvOp_run (hC _ (rvSx6 h6 ⟨by show (5 : Int) ≤ _; have := rv_lo (xs 1); omega, by show _ ≤ (5 : Int); have := rv_hi (xs 1); omega⟩ (rv_any _) (rv_any _) (rv_any _) (rv_any _))) rvX0_ok K oc_11_6
  · skip
    exact rvOp_run (hC _ (rvSx6 h6 ⟨by show (6 : Int) ≤ _; have := rv_lo (xs 1); omega, by show _ ≤ (2147483647 : Int); have := rv_hi (xs 1); omega⟩ (rv_any _) (rv_any _) (rv_any _) (rv_any _))) rvX0_ok K oc_11_7
theorem rvOp_12 (hC : ∀ sc, rvSx ex A s sc → rvCx p s m args meth c code RL 7 D cT ex A false sc) (h6 : va_X (ex 5 0) 6 xs s s.heap ∧ ex 5 0 < s.heap.size ∧ ¬ A (ex 5 0)) (K : rvEnds p l e s m args below meth c Q D cT ex A) : rvG p l e room_1 s m args below meth c Q D cT ex A 7 (40, rvAl0, [.inl (12, 12)], rvAw0, 132, 19068) := by
  refine rvSw hC (rvSw_12) ?_
  rcases (show ((-2147483648) ≤ (xs 1).toInt ∧ (xs 1).toInt ≤ (-1)) ∨ (0 ≤ (xs 1).toInt ∧ (xs 1).toInt ≤ 2147483647) by have := rv_lo (xs 1); have := rv_hi (xs 1); omega) with ⟨g0a, g0b⟩ | ⟨g0a, g0b⟩
  · skip
    exact rvOp_run (hC _ (rvSx6 h6 ⟨by show ((-2147483648) : Int) ≤ _; have := rv_lo (xs 1); omega, by show _ ≤ ((-1) : Int); have := rv_hi (xs 1); omega⟩ (rv_any _) (rv_any _) (rv_any _) (rv_any _))) rvX0_ok K oc_12_0
  · skip
    exact rvOp_run (hC _ (rvSx6 h6 ⟨by show (0 : Int) ≤ _; have := rv_lo (xs 1); omega, by show _ ≤ (2147483647 : Int); have := rv_hi (xs 1); omega⟩ (rv_any _) (rv_any _) (rv_any _) (rv_any _))) rvX0_ok K oc_12_1
theorem rvOp_13 (hC : ∀ sc, rvSx ex A s sc → rvCx p s m args meth c code RL 7 D cT ex A false sc) (h6 : va_X (ex 5 0) 6 xs s s.heap ∧ ex 5 0 < s.heap.size ∧ ¬ A (ex 5 0)) (K : rvEnds p l e s m args below meth c Q D cT ex A) : rvG p l e room_1 s m args below meth c Q D cT ex A 7 (40, rvAl0, [.inl (13, 13)], rvAw0, 132, 19068) := by
  refine rvSw hC (rvSw_13) ?_
  rcases (show ((-2147483648) ≤ (xs 1).toInt ∧ (xs 1).toInt ≤ (-1)) ∨ (0 ≤ (xs 1).toInt ∧ (xs 1).toInt ≤ 2147483647) by have := rv_lo (xs 1); have := rv_hi (xs 1); omega) with ⟨g0a, g0b⟩ | ⟨g0a, g0b⟩
  · skip
    exact rvOp_run (hC _ (rvSx6 h6 ⟨by show ((-2147483648) : Int) ≤ _; have := rv_lo (xs 1); omega, by show _ ≤ ((-1) : Int); have := rv_hi (xs 1); omega⟩ (rv_any _) (rv_any _) (rv_any _) (rv_any _))) rvX0_ok K oc_13_0
  · skip
    exact rvOp_run (hC _ (rvSx6 h6 ⟨by show (0 : Int) ≤ _; have := rv_lo (xs 1); omega, by show _ ≤ (2147483647 : Int); have := rv_hi (xs 1); omega⟩ (rv_any _) (rv_any _) (rv_any _) (rv_any _))) rvX0_ok K oc_13_1
theorem rvOp_14 (hC : ∀ sc, rvSx ex A s sc → rvCx p s m args meth c code RL 7 D cT ex A false sc) (h6 : va_X (ex 5 0) 6 xs s s.heap ∧ ex 5 0 < s.heap.size ∧ ¬ A (ex 5 0)) (K : rvEnds p l e s m args below meth c Q D cT ex A) : rvG p l e room_1 s m args below meth c Q D cT ex A 7 (40, rvAl0, [.inl (14, 14)], rvAw0, 132, 19068) := by
  refine rvSw hC (rvSw_14) ?_
  rcases (show ((-2147483648) ≤ (xs 1).toInt ∧ (xs 1).toInt ≤ (-1)) ∨ (0 ≤ (xs 1).toInt ∧ (xs 1).toInt ≤ 2147483647) by have := rv_lo (xs 1); have := rv_hi (xs 1); omega) with ⟨g0a, g0b⟩ | ⟨g0a, g0b⟩
  · skip
    exact rvOp_run (hC _ (rvSx6 h6 ⟨by show ((-2147483648) : Int) ≤ _; have := rv_lo (xs 1); omega, by show _ ≤ ((-1) : Int); have := rv_hi (xs 1); omega⟩ (rv_any _) (rv_any _) (rv_any _) (rv_any _))) rvX0_ok K oc_14_0
  · skip
    exact rvOp_run (hC _ (rvSx6 h6 ⟨by show (0 : Int) ≤ _; have := rv_lo (xs 1); omega, by show _ ≤ (2147483647 : Int); have := rv_hi (xs 1); omega⟩ (rv_any _) (rv_any _) (rv_any _) (rv_any _))) rvX0_ok K oc_14_1
theorem rvOp_15 (hC : ∀ sc, rvSx ex A s sc → rvCx p s m args meth c code RL 7 D cT ex A false sc) (h6 : va_X (ex 5 0) 6 xs s s.heap ∧ ex 5 0 < s.heap.size ∧ ¬ A (ex 5 0)) (K : rvEnds p l e s m args below meth c Q D cT ex A) : rvG p l e room_1 s m args below meth c Q D cT ex A 7 (40, rvAl0, [.inl (15, 15)], rvAw0, 132, 19068) := by
  refine rvSw hC (rvSw_15) ?_
  rcases (show ((-2147483648) ≤ (xs 1).toInt ∧ (xs 1).toInt ≤ (-1)) ∨ (0 ≤ (xs 1).toInt ∧ (xs 1).toInt ≤ 2147483647) by have := rv_lo (xs 1); have := rv_hi (xs 1); omega) with ⟨g0a, g0b⟩ | ⟨g0a, g0b⟩
  · skip
    exact rvOp_run (hC _ (rvSx6 h6 ⟨by show ((-2147483648) : Int) ≤ _; have := rv_lo (xs 1); omega, by show _ ≤ ((-1) : Int); have := rv_hi (xs 1); omega⟩ (rv_any _) (rv_any _) (rv_any _) (rv_any _))) rvX0_ok K oc_15_0
  · skip
    exact rvOp_run (hC _ (rvSx6 h6 ⟨by show (0 : Int) ≤ _; have := rv_lo (xs 1); omega, by show _ ≤ (2147483647 : Int); have := rv_hi (xs 1); omega⟩ (rv_any _) (rv_any _) (rv_any _) (rv_any _))) rvX0_ok K oc_15_1
theorem rvOp_16 (hC : ∀ sc, rvSx ex A s sc → rvCx p s m args meth c code RL 7 D cT ex A false sc) (h6 : va_X (ex 5 0) 6 xs s s.heap ∧ ex 5 0 < s.heap.size ∧ ¬ A (ex 5 0)) (K : rvEnds p l e s m args below meth c Q D cT ex A) : rvG p l e room_1 s m args below meth c Q D cT ex A 7 (40, rvAl0, [.inl (16, 16)], rvAw0, 132, 19068) := by
  refine rvSw hC (rvSw_16) ?_
  rcases (show ((-2147483648) ≤ (xs 1).toInt ∧ (xs 1).toInt ≤ (-1)) ∨ (0 ≤ (xs 1).toInt ∧ (xs 1).toInt ≤ 2147483647) by have := rv_lo (xs 1); have := rv_hi (xs 1); omega) with ⟨g0a, g0b⟩ | ⟨g0a, g0b⟩
  · skip
    exact rvOp_run (hC _ (rvSx6 h6 ⟨by show ((-2147483648) : Int) ≤ _; have := rv_lo (xs 1); omega, by show _ ≤ ((-1) : Int); have := rv_hi (xs 1); omega⟩ (rv_any _) (rv_any _) (rv_any _) (rv_any _))) rvX0_ok K oc_16_0
  · skip
    exact rvOp_run (hC _ (rvSx6 h6 ⟨by show (0 : Int) ≤ _; have := rv_lo (xs 1); omega, by show _ ≤ (2147483647 : Int); have := rv_hi (xs 1); omega⟩ (rv_any _) (rv_any _) (rv_any _) (rv_any _))) rvX0_ok K oc_16_1
theorem rvOp_18 (hC : ∀ sc, rvSx ex A s sc → rvCx p s m args meth c code RL 7 D cT ex A false sc) (h6 : va_X (ex 5 0) 6 xs s s.heap ∧ ex 5 0 < s.heap.size ∧ ¬ A (ex 5 0)) (K : rvEnds p l e s m args below meth c Q D cT ex A) : rvG p l e room_1 s m args below meth c Q D cT ex A 7 (40, rvAl0, [.inl (18, 18)], rvAw0, 132, 19068) := by
  refine rvSw hC (rvSw_18) ?_
  exact rvOp_run (hC _ (rvSx6 h6 (rv_any _) (rv_any _) (rv_any _) (rv_any _) (rv_any _))) rvX0_ok K oc_18_0
theorem rvOp_19 (hC : ∀ sc, rvSx ex A s sc → rvCx p s m args meth c code RL 7 D cT ex A false sc) (h6 : va_X (ex 5 0) 6 xs s s.heap ∧ ex 5 0 < s.heap.size ∧ ¬ A (ex 5 0)) (K : rvEnds p l e s m args below meth c Q D cT ex A) : rvG p l e room_1 s m args below meth c Q D cT ex A 7 (40, rvAl0, [.inl (19, 19)], rvAw0, 132, 19068) := by
  refine rvSw hC (rvSw_19) ?_
  rcases (show ((-2147483648) ≤ (xs 1).toInt ∧ (xs 1).toInt ≤ (-1)) ∨ (0 ≤ (xs 1).toInt ∧ (xs 1).toInt ≤ 2147483647) by have := rv_lo (xs 1); have := rv_hi (xs 1); omega) with ⟨g0a, g0b⟩ | ⟨g0a, g0b⟩
  · skip
    exact rvOp_run (hC _ (rvSx6 h6 ⟨by show ((-2147483648) : Int) ≤ _; have := rv_lo (xs 1); omega, by show _ ≤ ((-1) : Int); have := rv_hi (xs 1); omega⟩ (rv_any _) (rv_any _) (rv_any _) (rv_any _))) rvX0_ok K oc_19_0
  · skip
    exact rvOp_run (hC _ (rvSx6 h6 ⟨by show (0 : Int) ≤ _; have := rv_lo (xs 1); omega, by show _ ≤ (2147483647 : Int); have := rv_hi (xs 1); omega⟩ (rv_any _) (rv_any _) (rv_any _) (rv_any _))) rvX0_ok K oc_19_1
theorem rvOp_20 (hC : ∀ sc, rvSx ex A s sc → rvCx p s m args meth c code RL 7 D cT ex A false sc) (h6 : va_X (ex 5 0) 6 xs s s.heap ∧ ex 5 0 < s.heap.size ∧ ¬ A (ex 5 0)) (K : rvEnds p l e s m args below meth c Q D cT ex A) : rvG p l e room_1 s m args below meth c Q D cT ex A 7 (40, rvAl0, [.inl (20, 20)], rvAw0, 132, 19068) := by
  refine rvSw hC (rvSw_20) ?_
  exact rvOp_run (hC _ (rvSx6 h6 (rv_any _) (rv_any _) (rv_any _) (rv_any _) (rv_any _))) rvX0_ok K oc_20_0
theorem rvOp_21 (hC : ∀ sc, rvSx ex A s sc → rvCx p s m args meth c code RL 7 D cT ex A false sc) (h6 : va_X (ex 5 0) 6 xs s s.heap ∧ ex 5 0 < s.heap.size ∧ ¬ A (ex 5 0)) (K : rvEnds p l e s m args below meth c Q D cT ex A) : rvG p l e room_1 s m args below meth c Q D cT ex A 7 (40, rvAl0, [.inl (21, 21)], rvAw0, 132, 19068) := by
  refine rvSw hC (rvSw_21) ?_
  exact rvOp_run (hC _ (rvSx6 h6 (rv_any _) (rv_any _) (rv_any _) (rv_any _) (rv_any _))) rvX0_ok K oc_21_0
theorem rvOp_22 (hC : ∀ sc, rvSx ex A s sc → rvCx p s m args meth c code RL 7 D cT ex A false sc) (h6 : va_X (ex 5 0) 6 xs s s.heap ∧ ex 5 0 < s.heap.size ∧ ¬ A (ex 5 0)) (K : rvEnds p l e s m args below meth c Q D cT ex A) : rvG p l e room_1 s m args below meth c Q D cT ex A 7 (40, rvAl0, [.inl (22, 22)], rvAw0, 132, 19068) := by
  refine rvSw hC (rvSw_22) ?_
  rcases (show ((-2147483648) ≤ (xs 1).toInt ∧ (xs 1).toInt ≤ (-1)) ∨ (0 ≤ (xs 1).toInt ∧ (xs 1).toInt ≤ 2147483647) by have := rv_lo (xs 1); have := rv_hi (xs 1); omega) with ⟨g0a, g0b⟩ | ⟨g0a, g0b⟩
  · skip
    exact rvOp_run (hC _ (rvSx6 h6 ⟨by show ((-2147483648) : Int) ≤ _; have := rv_lo (xs 1); omega, by show _ ≤ ((-1) : Int); have := rv_hi (xs 1); omega⟩ (rv_any _) (rv_any _) (rv_any _) (rv_any _))) rvX0_ok K oc_22_0
  · skip
    exact rvOp_run (hC _ (rvSx6 h6 ⟨by show (0 : Int) ≤ _; have := rv_lo (xs 1); omega, by show _ ≤ (2147483647 : Int); have := rv_hi (xs 1); omega⟩ (rv_any _) (rv_any _) (rv_any _) (rv_any _))) rvX0_ok K oc_22_1
theorem rvOp_23 (hC : ∀ sc, rvSx ex A s sc → rvCx p s m args meth c code RL 7 D cT ex A false sc) (h6 : va_X (ex 5 0) 6 xs s s.heap ∧ ex 5 0 < s.heap.size ∧ ¬ A (ex 5 0)) (K : rvEnds p l e s m args below meth c Q D cT ex A) : rvG p l e room_1 s m args below meth c Q D cT ex A 7 (40, rvAl0, [.inl (23, 23)], rvAw0, 132, 19068) := by
  refine rvSw hC (rvSw_23) ?_
  exact rvOp_run (hC _ (rvSx6 h6 (rv_any _) (rv_any _) (rv_any _) (rv_any _) (rv_any _))) rvX0_ok K oc_23_0
theorem rvOp_24 (hC : ∀ sc, rvSx ex A s sc → rvCx p s m args meth c code RL 7 D cT ex A false sc) (h6 : va_X (ex 5 0) 6 xs s s.heap ∧ ex 5 0 < s.heap.size ∧ ¬ A (ex 5 0)) (K : rvEnds p l e s m args below meth c Q D cT ex A) : rvG p l e room_1 s m args below meth c Q D cT ex A 7 (40, rvAl0, [.inl (24, 24)], rvAw0, 132, 19068) := by
  refine rvSw hC (rvSw_24) ?_
  rcases (show ((-2147483648) ≤ (xs 1).toInt ∧ (xs 1).toInt ≤ (-1)) ∨ (0 ≤ (xs 1).toInt ∧ (xs 1).toInt ≤ 2147483647) by have := rv_lo (xs 1); have := rv_hi (xs 1); omega) with ⟨g0a, g0b⟩ | ⟨g0a, g0b⟩
  · skip
    exact rvOp_run (hC _ (rvSx6 h6 ⟨by show ((-2147483648) : Int) ≤ _; have := rv_lo (xs 1); omega, by show _ ≤ ((-1) : Int); have := rv_hi (xs 1); omega⟩ (rv_any _) (rv_any _) (rv_any _) (rv_any _))) rvX0_ok K oc_24_0
  · skip
    exact rvOp_run (hC _ (rvSx6 h6 ⟨by show (0 : Int) ≤ _; have := rv_lo (xs 1); omega, by show _ ≤ (2147483647 : Int); have := rv_hi (xs 1); omega⟩ (rv_any _) (rv_any _) (rv_any _) (rv_any _))) rvX0_ok K oc_24_1
theorem rvOp_25 (hC : ∀ sc, rvSx ex A s sc → rvCx p s m args meth c code RL 7 D cT ex A false sc) (h6 : va_X (ex 5 0) 6 xs s s.heap ∧ ex 5 0 < s.heap.size ∧ ¬ A (ex 5 0)) (K : rvEnds p l e s m args below meth c Q D cT ex A) : rvG p l e room_1 s m args below meth c Q D cT ex A 7 (40, rvAl0, [.inl (25, 25)], rvAw0, 132, 19068) := by
  refine rvSw hC (rvSw_25) ?_
  exact rvOp_run (hC _ (rvSx6 h6 (rv_any _) (rv_any _) (rv_any _) (rv_any _) (rv_any _))) rvX0_ok K oc_25_0
theorem rvOp_26 (hC : ∀ sc, rvSx ex A s sc → rvCx p s m args meth c code RL 7 D cT ex A false sc) (h6 : va_X (ex 5 0) 6 xs s s.heap ∧ ex 5 0 < s.heap.size ∧ ¬ A (ex 5 0)) (K : rvEnds p l e s m args below meth c Q D cT ex A) : rvG p l e room_1 s m args below meth c Q D cT ex A 7 (40, rvAl0, [.inl (26, 26)], rvAw0, 132, 19068) := by
  refine rvSw hC (rvSw_26) ?_
  rcases (show ((-2147483648) ≤ (xs 1).toInt ∧ (xs 1).toInt ≤ (-1)) ∨ (0 ≤ (xs 1).toInt ∧ (xs 1).toInt ≤ 2147483647) by have := rv_lo (xs 1); have := rv_hi (xs 1); omega) with ⟨g0a, g0b⟩ | ⟨g0a, g0b⟩
  · skip
    exact rvOp_run (hC _ (rvSx6 h6 ⟨by show ((-2147483648) : Int) ≤ _; have := rv_lo (xs 1); omega, by show _ ≤ ((-1) : Int); have := rv_hi (xs 1); omega⟩ (rv_any _) (rv_any _) (rv_any _) (rv_any _))) rvX0_ok K oc_26_0
  · skip
    exact rvOp_run (hC _ (rvSx6 h6 ⟨by show (0 : Int) ≤ _; have := rv_lo (xs 1); omega, by show _ ≤ (2147483647 : Int); have := rv_hi (xs 1); omega⟩ (rv_any _) (rv_any _) (rv_any _) (rv_any _))) rvX0_ok K oc_26_1
theorem rvOp_27 (hC : ∀ sc, rvSx ex A s sc → rvCx p s m args meth c code RL 7 D cT ex A false sc) (h6 : va_X (ex 5 0) 6 xs s s.heap ∧ ex 5 0 < s.heap.size ∧ ¬ A (ex 5 0)) (K : rvEnds p l e s m args below meth c Q D cT ex A) : rvG p l e room_1 s m args below meth c Q D cT ex A 7 (40, rvAl0, [.inl (27, 27)], rvAw0, 132, 19068) := by
  refine rvSw hC (rvSw_27) ?_
  rcases (show ((-2147483648) ≤ (xs 1).toInt ∧ (xs 1).toInt ≤ (-1)) ∨ (0 ≤ (xs 1).toInt ∧ (xs 1).toInt ≤ 2147483647) by have := rv_lo (xs 1); have := rv_hi (xs 1); omega) with ⟨g0a, g0b⟩ | ⟨g0a, g0b⟩
  · skip
    exact rvOp_run (hC _ (rvSx6 h6 ⟨by show ((-2147483648) : Int) ≤ _; have := rv_lo (xs 1); omega, by show _ ≤ ((-1) : Int); have := rv_hi (xs 1); omega⟩ (rv_any _) (rv_any _) (rv_any _) (rv_any _))) rvX0_ok K oc_27_0
  · skip
    exact rvOp_run (hC _ (rvSx6 h6 ⟨by show (0 : Int) ≤ _; have := rv_lo (xs 1); omega, by show _ ≤ (2147483647 : Int); have := rv_hi (xs 1); omega⟩ (rv_any _) (rv_any _) (rv_any _) (rv_any _))) rvX0_ok K oc_27_1
theorem rvOp_28 (hC : ∀ sc, rvSx ex A s sc → rvCx p s m args meth c code RL 7 D cT ex A false sc) (h6 : va_X (ex 5 0) 6 xs s s.heap ∧ ex 5 0 < s.heap.size ∧ ¬ A (ex 5 0)) (K : rvEnds p l e s m args below meth c Q D cT ex A) : rvG p l e room_1 s m args below meth c Q D cT ex A 7 (40, rvAl0, [.inl (28, 28)], rvAw0, 132, 19068) := by
  refine rvSw hC (rvSw_28) ?_
  rcases (show ((-2147483648) ≤ (xs 1).toInt ∧ (xs 1).toInt ≤ (-1)) ∨ (0 ≤ (xs 1).toInt ∧ (xs 1).toInt ≤ 2147483647) by have := rv_lo (xs 1); have := rv_hi (xs 1); omega) with ⟨g0a, g0b⟩ | ⟨g0a, g0b⟩
  · skip
    exact rvOp_run (hC _ (rvSx6 h6 ⟨by show ((-2147483648) : Int) ≤ _; have := rv_lo (xs 1); omega, by show _ ≤ ((-1) : Int); have := rv_hi (xs 1); omega⟩ (rv_any _) (rv_any _) (rv_any _) (rv_any _))) rvX0_ok K oc_28_0
  · skip
    exact rvOp_run (hC _ (rvSx6 h6 ⟨by show (0 : Int) ≤ _; have := rv_lo (xs 1); omega, by show _ ≤ (2147483647 : Int); have := rv_hi (xs 1); omega⟩ (rv_any _) (rv_any _) (rv_any _) (rv_any _))) rvX0_ok K oc_28_1
theorem rvOp_29 (hC : ∀ sc, rvSx ex A s sc → rvCx p s m args meth c code RL 7 D cT ex A false sc) (h6 : va_X (ex 5 0) 6 xs s s.heap ∧ ex 5 0 < s.heap.size ∧ ¬ A (ex 5 0)) (K : rvEnds p l e s m args below meth c Q D cT ex A) : rvG p l e room_1 s m args below meth c Q D cT ex A 7 (40, rvAl0, [.inl (29, 29)], rvAw0, 132, 19068) := by
  refine rvSw hC (rvSw_29) ?_
  exact rvOp_run (hC _ (rvSx6 h6 (rv_any _) (rv_any _) (rv_any _) (rv_any _) (rv_any _))) rvX0_ok K oc_29_0
theorem rvOp_30 (hC : ∀ sc, rvSx ex A s sc → rvCx p s m args meth c code RL 7 D cT ex A false sc) (h6 : va_X (ex 5 0) 6 xs s s.heap ∧ ex 5 0 < s.heap.size ∧ ¬ A (ex 5 0)) (K : rvEnds p l e s m args below meth c Q D cT ex A) : rvG p l e room_1 s m args below meth c Q D cT ex A 7 (40, rvAl0, [.inl (30, 30)], rvAw0, 132, 19068) := by
  refine rvSw hC (rvSw_30) ?_
  exact rvOp_run (hC _ (rvSx6 h6 (rv_any _) (rv_any _) (rv_any _) (rv_any _) (rv_any _))) rvX0_ok K oc_30_0
theorem rvOp_31 (hC : ∀ sc, rvSx ex A s sc → rvCx p s m args meth c code RL 7 D cT ex A false sc) (h6 : va_X (ex 5 0) 6 xs s s.heap ∧ ex 5 0 < s.heap.size ∧ ¬ A (ex 5 0)) (K : rvEnds p l e s m args below meth c Q D cT ex A) : rvG p l e room_1 s m args below meth c Q D cT ex A 7 (40, rvAl0, [.inl (31, 31)], rvAw0, 132, 19068) := by
  refine rvSw hC (rvSw_31) ?_
  exact rvOp_run (hC _ (rvSx6 h6 (rv_any _) (rv_any _) (rv_any _) (rv_any _) (rv_any _))) rvX0_ok K oc_31_0
theorem rvOp_32 (hC : ∀ sc, rvSx ex A s sc → rvCx p s m args meth c code RL 7 D cT ex A false sc) (h6 : va_X (ex 5 0) 6 xs s s.heap ∧ ex 5 0 < s.heap.size ∧ ¬ A (ex 5 0)) (K : rvEnds p l e s m args below meth c Q D cT ex A) : rvG p l e room_1 s m args below meth c Q D cT ex A 7 (40, rvAl0, [.inl (32, 32)], rvAw0, 132, 19068) := by
  refine rvSw hC (rvSw_32) ?_
  rcases (show ((-2147483648) ≤ (xs 1).toInt ∧ (xs 1).toInt ≤ (-1)) ∨ (0 ≤ (xs 1).toInt ∧ (xs 1).toInt ≤ 2147483647) by have := rv_lo (xs 1); have := rv_hi (xs 1); omega) with ⟨g0a, g0b⟩ | ⟨g0a, g0b⟩
  · skip
    exact rvOp_run (hC _ (rvSx6 h6 ⟨by show ((-2147483648) : Int) ≤ _; have := rv_lo (xs 1); omega, by show _ ≤ ((-1) : Int); have := rv_hi (xs 1); omega⟩ (rv_any _) (rv_any _) (rv_any _) (rv_any _))) rvX0_ok K oc_32_0
  · skip
    exact rvOp_run (hC _ (rvSx6 h6 ⟨by show (0 : Int) ≤ _; have := rv_lo (xs 1); omega, by show _ ≤ (2147483647 : Int); have := rv_hi (xs 1); omega⟩ (rv_any _) (rv_any _) (rv_any _) (rv_any _))) rvX0_ok K oc_32_1
theorem rvOp_33 (hC : ∀ sc, rvSx ex A s sc → rvCx p s m args meth c code RL 7 D cT ex A false sc) (h6 : va_X (ex 5 0) 6 xs s s.heap ∧ ex 5 0 < s.heap.size ∧ ¬ A (ex 5 0)) (K : rvEnds p l e s m args below meth c Q D cT ex A) : rvG p l e room_1 s m args below meth c Q D cT ex A 7 (40, rvAl0, [.inl (33, 33)], rvAw0, 132, 19068) := by
  refine rvSw hC (rvSw_33) ?_
  exact rvOp_run (hC _ (rvSx6 h6 (rv_any _) (rv_any _) (rv_any _) (rv_any _) (rv_any _))) rvX0_ok K oc_33_0
theorem rvOp_34 (hC : ∀ sc, rvSx ex A s sc → rvCx p s m args meth c code RL 7 D cT ex A false sc) (h6 : va_X (ex 5 0) 6 xs s s.heap ∧ ex 5 0 < s.heap.size ∧ ¬ A (ex 5 0)) (K : rvEnds p l e s m args below meth c Q D cT ex A) : rvG p l e room_1 s m args below meth c Q D cT ex A 7 (40, rvAl0, [.inl (34, 34)], rvAw0, 132, 19068) := by
  refine rvSw hC (rvSw_34) ?_
  rcases (show ((-2147483648) ≤ (xs 1).toInt ∧ (xs 1).toInt ≤ (-1)) ∨ (0 ≤ (xs 1).toInt ∧ (xs 1).toInt ≤ 2147483647) by have := rv_lo (xs 1); have := rv_hi (xs 1); omega) with ⟨g0a, g0b⟩ | ⟨g0a, g0b⟩
  · skip
    exact rvOp_run (hC _ (rvSx6 h6 ⟨by show ((-2147483648) : Int) ≤ _; have := rv_lo (xs 1); omega, by show _ ≤ ((-1) : Int); have := rv_hi (xs 1); omega⟩ (rv_any _) (rv_any _) (rv_any _) (rv_any _))) rvX0_ok K oc_34_0
  · skip
    exact rvOp_run (hC _ (rvSx6 h6 ⟨by show (0 : Int) ≤ _; have := rv_lo (xs 1); omega, by show _ ≤ (2147483647 : Int); have := rv_hi (xs 1); omega⟩ (rv_any _) (rv_any _) (rv_any _) (rv_any _))) rvX0_ok K oc_34_1
theorem rvOp_35 (hC : ∀ sc, rvSx ex A s sc → rvCx p s m args meth c code RL 7 D cT ex A false sc) (h6 : va_X (ex 5 0) 6 xs s s.heap ∧ ex 5 0 < s.heap.size ∧ ¬ A (ex 5 0)) (K : rvEnds p l e s m args below meth c Q D cT ex A) : rvG p l e room_1 s m args below meth c Q D cT ex A 7 (40, rvAl0, [.inl (35, 35)], rvAw0, 132, 19068) := by
  refine rvSw hC (rvSw_35) ?_
  rcases (show ((-2147483648) ≤ (xs 1).toInt ∧ (xs 1).toInt ≤ (-1)) ∨ (0 ≤ (xs 1).toInt ∧ (xs 1).toInt ≤ 2147483647) by have := rv_lo (xs 1); have := rv_hi (xs 1); omega) with ⟨g0a, g0b⟩ | ⟨g0a, g0b⟩
  · skip
    exact rvOp_run (hC _ (rvSx6 h6 ⟨by show ((-2147483648) : Int) ≤ _; have := rv_lo (xs 1); omega, by show _ ≤ ((-1) : Int); have := rv_hi (xs 1); omega⟩ (rv_any _) (rv_any _) (rv_any _) (rv_any _))) rvX0_ok K oc_35_0
  · skip
    exact rvOp_run (hC _ (rvSx6 h6 ⟨by show (0 : Int) ≤ _; have := rv_lo (xs 1); omega, by show _ ≤ (2147483647 : Int); have := rv_hi (xs 1); omega⟩ (rv_any _) (rv_any _) (rv_any _) (rv_any _))) rvX0_ok K oc_35_1
theorem rvOp_36 (hC : ∀ sc, rvSx ex A s sc → rvCx p s m args meth c code RL 7 D cT ex A false sc) (h6 : va_X (ex 5 0) 6 xs s s.heap ∧ ex 5 0 < s.heap.size ∧ ¬ A (ex 5 0)) (K : rvEnds p l e s m args below meth c Q D cT ex A) : rvG p l e room_1 s m args below meth c Q D cT ex A 7 (40, rvAl0, [.inl (36, 36)], rvAw0, 132, 19068) := by
  refine rvSw hC (rvSw_36) ?_
  rcases (show ((-2147483648) ≤ (xs 1).toInt ∧ (xs 1).toInt ≤ 0) ∨ (1 ≤ (xs 1).toInt ∧ (xs 1).toInt ≤ 60) ∨ (61 ≤ (xs 1).toInt ∧ (xs 1).toInt ≤ 2147483647) by have := rv_lo (xs 1); have := rv_hi (xs 1); omega) with ⟨g0a, g0b⟩ | ⟨g0a, g0b⟩ | ⟨g0a, g0b⟩
  · skip
    exact rvOp_run (hC _ (rvSx6 h6 ⟨by show ((-2147483648) : Int) ≤ _; have := rv_lo (xs 1); omega, by show _ ≤ (0 : Int); have := rv_hi (xs 1); omega⟩ (rv_any _) (rv_any _) (rv_any _) (rv_any _))) rvX0_ok K oc_36_0
  · skip
    exact rvOp_run (hC _ (rvSx6 h6 ⟨by show (1 : Int) ≤ _; have := rv_lo (xs 1); omega, by show _ ≤ (60 : Int); have := rv_hi (xs 1); omega⟩ (rv_any _) (rv_any _) (rv_any _) (rv_any _))) rvX0_ok K oc_36_1
  · skip
    exact rvOp_run (hC _ (rvSx6 h6 ⟨by show (61 : Int) ≤ _; have := rv_lo (xs 1); omega, by show _ ≤ (2147483647 : Int); have := rv_hi (xs 1); omega⟩ (rv_any _) (rv_any _) (rv_any _) (rv_any _))) rvX0_ok K oc_36_2
theorem rvOp_37 (hC : ∀ sc, rvSx ex A s sc → rvCx p s m args meth c code RL 7 D cT ex A false sc) (h6 : va_X (ex 5 0) 6 xs s s.heap ∧ ex 5 0 < s.heap.size ∧ ¬ A (ex 5 0)) (K : rvEnds p l e s m args below meth c Q D cT ex A) : rvG p l e room_1 s m args below meth c Q D cT ex A 7 (40, rvAl0, [.inl (37, 37)], rvAw0, 132, 19068) := by
  refine rvSw hC (rvSw_37) ?_
  rcases (show ((-2147483648) ≤ (xs 1).toInt ∧ (xs 1).toInt ≤ (-1)) ∨ (0 ≤ (xs 1).toInt ∧ (xs 1).toInt ≤ 2147483647) by have := rv_lo (xs 1); have := rv_hi (xs 1); omega) with ⟨g0a, g0b⟩ | ⟨g0a, g0b⟩
  · skip
    exact rvOp_run (hC _ (rvSx6 h6 ⟨by show ((-2147483648) : Int) ≤ _; have := rv_lo (xs 1); omega, by show _ ≤ ((-1) : Int); have := rv_hi (xs 1); omega⟩ (rv_any _) (rv_any _) (rv_any _) (rv_any _))) rvX0_ok K oc_37_0
  · skip
    exact rvOp_run (hC _ (rvSx6 h6 ⟨by show (0 : Int) ≤ _; have := rv_lo (xs 1); omega, by show _ ≤ (2147483647 : Int); have := rv_hi (xs 1); omega⟩ (rv_any _) (rv_any _) (rv_any _) (rv_any _))) rvX0_ok K oc_37_1
theorem rvOp_38 (hC : ∀ sc, rvSx ex A s sc → rvCx p s m args meth c code RL 7 D cT ex A false sc) (h6 : va_X (ex 5 0) 6 xs s s.heap ∧ ex 5 0 < s.heap.size ∧ ¬ A (ex 5 0)) (K : rvEnds p l e s m args below meth c Q D cT ex A) : rvG p l e room_1 s m args below meth c Q D cT ex A 7 (40, rvAl0, [.inl (38, 38)], rvAw0, 132, 19068) := by
  refine rvSw hC (rvSw_38) ?_
  rcases (show ((-2147483648) ≤ (xs 1).toInt ∧ (xs 1).toInt ≤ (-1)) ∨ (0 ≤ (xs 1).toInt ∧ (xs 1).toInt ≤ 0) ∨ (1 ≤ (xs 1).toInt ∧ (xs 1).toInt ≤ 1) ∨ (2 ≤ (xs 1).toInt ∧ (xs 1).toInt ≤ 2147483647) by have := rv_lo (xs 1); have := rv_hi (xs 1); omega) with ⟨g0a, g0b⟩ | ⟨g0a, g0b⟩ | ⟨g0a, g0b⟩ | ⟨g0a, g0b⟩
  · skip
    exact rvOp_run (hC _ (rvSx6 h6 ⟨by show ((-2147483648) : Int) ≤ _; have := rv_lo (xs 1); omega, by show _ ≤ ((-1) : Int); have := rv_hi (xs 1); omega⟩ (rv_any _) (rv_any _) (rv_any _) (rv_any _))) rvX0_ok K oc_38_0
  · skip
    exact rvOp_run (hC _ (rvSx6 h6 ⟨by show (0 : Int) ≤ _; have := rv_lo (xs 1); omega, by show _ ≤ (0 : Int); have := rv_hi (xs 1); omega⟩ (rv_any _) (rv_any _) (rv_any _) (rv_any _))) rvX0_ok K oc_38_1
  · skip
    exact rvOp_run (hC _ (rvSx6 h6 ⟨by show (1 : Int) ≤ _; have := rv_lo (xs 1); omega, by show _ ≤ (1 : Int); have := rv_hi (xs 1); omega⟩ (rv_any _) (rv_any _) (rv_any _) (rv_any _))) rvX0_ok K oc_38_2
  · skip
    exact rvOp_run (hC _ (rvSx6 h6 ⟨by show (2 : Int) ≤ _; have := rv_lo (xs 1); omega, by show _ ≤ (2147483647 : Int); have := rv_hi (xs 1); omega⟩ (rv_any _) (rv_any _) (rv_any _) (rv_any _))) rvX0_ok K oc_38_3
theorem rvOp_39 (hC : ∀ sc, rvSx ex A s sc → rvCx p s m args meth c code RL 7 D cT ex A false sc) (h6 : va_X (ex 5 0) 6 xs s s.heap ∧ ex 5 0 < s.heap.size ∧ ¬ A (ex 5 0)) (K : rvEnds p l e s m args below meth c Q D cT ex A) : rvG p l e room_1 s m args below meth c Q D cT ex A 7 (40, rvAl0, [.inl (39, 39)], rvAw0, 132, 19068) := by
  refine rvSw hC (rvSw_39) ?_
  rcases (show ((-2147483648) ≤ (xs 1).toInt ∧ (xs 1).toInt ≤ (-1)) ∨ (0 ≤ (xs 1).toInt ∧ (xs 1).toInt ≤ 3) ∨ (4 ≤ (xs 1).toInt ∧ (xs 1).toInt ≤ 2147483647) by have := rv_lo (xs 1); have := rv_hi (xs 1); omega) with ⟨g0a, g0b⟩ | ⟨g0a, g0b⟩ | ⟨g0a, g0b⟩
  · skip
    exact rvOp_run (hC _ (rvSx6 h6 ⟨by show ((-2147483648) : Int) ≤ _; have := rv_lo (xs 1); omega, by show _ ≤ ((-1) : Int); have := rv_hi (xs 1); omega⟩ (rv_any _) (rv_any _) (rv_any _) (rv_any _))) rvX0_ok K oc_39_0
  · skip
    exact rvOp_run (hC _ (rvSx6 h6 ⟨by show (0 : Int) ≤ _; have := rv_lo (xs 1); omega, by show _ ≤ (3 : Int); have := rv_hi (xs 1); omega⟩ (rv_any _) (rv_any _) (rv_any _) (rv_any _))) rvX0_ok K oc_39_1
  · skip
    exact rvOp_run (hC _ (rvSx6 h6 ⟨by show (4 : Int) ≤ _; have := rv_lo (xs 1); omega, by show _ ≤ (2147483647 : Int); have := rv_hi (xs 1); omega⟩ (rv_any _) (rv_any _) (rv_any _) (rv_any _))) rvX0_ok K oc_39_2
theorem rvOp_40 (hC : ∀ sc, rvSx ex A s sc → rvCx p s m args meth c code RL 7 D cT ex A false sc) (h6 : va_X (ex 5 0) 6 xs s s.heap ∧ ex 5 0 < s.heap.size ∧ ¬ A (ex 5 0)) (K : rvEnds p l e s m args below meth c Q D cT ex A) : rvG p l e room_1 s m args below meth c Q D cT ex A 7 (40, rvAl0, [.inl (40, 40)], rvAw0, 132, 19068) := by
  refine rvSw hC (rvSw_40) ?_
  exact rvOp_run (hC _ (rvSx6 h6 (rv_any _) (rv_any _) (rv_any _) (rv_any _) (rv_any _))) rvX0_ok K oc_40_0
theorem rvOp_41 (hC : ∀ sc, rvSx ex A s sc → rvCx p s m args meth c code RL 7 D cT ex A false sc) (h6 : va_X (ex 5 0) 6 xs s s.heap ∧ ex 5 0 < s.heap.size ∧ ¬ A (ex 5 0)) (K : rvEnds p l e s m args below meth c Q D cT ex A) : rvG p l e room_1 s m args below meth c Q D cT ex A 7 (40, rvAl0, [.inl (41, 41)], rvAw0, 132, 19068) := by
  refine rvSw hC (rvSw_41) ?_
  rcases (show ((-2147483648) ≤ (xs 1).toInt ∧ (xs 1).toInt ≤ (-2)) ∨ ((-1) ≤ (xs 1).toInt ∧ (xs 1).toInt ≤ 2147483647) by have := rv_lo (xs 1); have := rv_hi (xs 1); omega) with ⟨g0a, g0b⟩ | ⟨g0a, g0b⟩
  · skip
    exact rvOp_run (hC _ (rvSx6 h6 ⟨by show ((-2147483648) : Int) ≤ _; have := rv_lo (xs 1); omega, by show _ ≤ ((-2) : Int); have := rv_hi (xs 1); omega⟩ (rv_any _) (rv_any _) (rv_any _) (rv_any _))) rvX0_ok K oc_41_0
  · skip
    exact rvOp_run (hC _ (rvSx6 h6 ⟨by show ((-1) : Int) ≤ _; have := rv_lo (xs 1); omega, by show _ ≤ (2147483647 : Int); have := rv_hi (xs 1); omega⟩ (rv_any _) (rv_any _) (rv_any _) (rv_any _))) rvX0_ok K oc_41_1
theorem rvOp_42 (hC : ∀ sc, rvSx ex A s sc → rvCx p s m args meth c code RL 7 D cT ex A false sc) (h6 : va_X (ex 5 0) 6 xs s s.heap ∧ ex 5 0 < s.heap.size ∧ ¬ A (ex 5 0)) (K : rvEnds p l e s m args below meth c Q D cT ex A) : rvG p l e room_1 s m args below meth c Q D cT ex A 7 (40, rvAl0, [.inl (42, 42)], rvAw0, 132, 19068) := by
  refine rvSw hC (rvSw_42) ?_
  rcases (show ((-2147483648) ≤ (xs 1).toInt ∧ (xs 1).toInt ≤ (-1)) ∨ (0 ≤ (xs 1).toInt ∧ (xs 1).toInt ≤ 0) ∨ (1 ≤ (xs 1).toInt ∧ (xs 1).toInt ≤ 1) ∨ (2 ≤ (xs 1).toInt ∧ (xs 1).toInt ≤ 2147483647) by have := rv_lo (xs 1); have := rv_hi (xs 1); omega) with ⟨g0a, g0b⟩ | ⟨g0a, g0b⟩ | ⟨g0a, g0b⟩ | ⟨g0a, g0b⟩
  · skip
    exact rvOp_run (hC _ (rvSx6 h6 ⟨by show ((-2147483648) : Int) ≤ _; have := rv_lo (xs 1); omega, by show _ ≤ ((-1) : Int); have := rv_hi (xs 1); omega⟩ (rv_any _) (rv_any _) (rv_any _) (rv_any _))) rvX0_ok K oc_42_0
  · skip
    exact rvOp_run (hC _ (rvSx6 h6 ⟨by show (0 : Int) ≤ _; have := rv_lo (xs 1); omega, by show _ ≤ (0 : Int); have := rv_hi (xs 1); omega⟩ (rv_any _) (rv_any _) (rv_any _) (rv_any _))) rvX0_ok K oc_42_1
  · skip
    exact rvOp_run (hC _ (rvSx6 h6 ⟨by show (1 : Int) ≤ _; have := rv_lo (xs 1); omega, by show _ ≤ (1 : Int); have := rv_hi (xs 1); omega⟩ (rv_any _) (rv_any _) (rv_any _) (rv_any _))) rvX0_ok K oc_42_2
  · skip
    exact rvOp_run (hC _ (rvSx6 h6 ⟨by show (2 : Int) ≤ _; have := rv_lo (xs 1); omega, by show _ ≤ (2147483647 : Int); have := rv_hi (xs 1); omega⟩ (rv_any _) (rv_any _) (rv_any _) (rv_any _))) rvX0_ok K oc_42_3
theorem rvOp_43 (hC : ∀ sc, rvSx ex A s sc → rvCx p s m args meth c code RL 7 D cT ex A false sc) (h6 : va_X (ex 5 0) 6 xs s s.heap ∧ ex 5 0 < s.heap.size ∧ ¬ A (ex 5 0)) (K : rvEnds p l e s m args below meth c Q D cT ex A) : rvG p l e room_1 s m args below meth c Q D cT ex A 7 (40, rvAl0, [.inl (43, 43)], rvAw0, 132, 19068) := by
  refine rvSw hC (rvSw_43) ?_
  rcases (show ((-2147483648) ≤ (xs 1).toInt ∧ (xs 1).toInt ≤ (-1)) ∨ (0 ≤ (xs 1).toInt ∧ (xs 1).toInt ≤ 0) ∨ (1 ≤ (xs 1).toInt ∧ (xs 1).toInt ≤ 1) ∨ (2 ≤ (xs 1).toInt ∧ (xs 1).toInt ≤ 2147483647) by have := rv_lo (xs 1); have := rv_hi (xs 1); omega) with ⟨g0a, g0b⟩ | ⟨g0a, g0b⟩ | ⟨g0a, g0b⟩ | ⟨g0a, g0b⟩
  · skip
    exact rvOp_run (hC _ (rvSx6 h6 ⟨by show ((-2147483648) : Int) ≤ _; have := rv_lo (xs 1); omega, by show _ ≤ ((-1) : Int); have := rv_hi (xs 1); omega⟩ (rv_any _) (rv_any _) (rv_any _) (rv_any _))) rvX0_ok K oc_43_0
  · skip
    exact rvOp_run (hC _ (rvSx6 h6 ⟨by show (0 : Int) ≤ _; have := rv_lo (xs 1); omega, by show _ ≤ (0 : Int); have := rv_hi (xs 1); omega⟩ (rv_any _) (rv_any _) (rv_any _) (rv_any _))) rvX0_ok K oc_43_1
  · skip
    exact rvOp_run (hC _ (rvSx6 h6 ⟨by show (1 : Int) ≤ _; have := rv_lo (xs 1); omega, by show _ ≤ (1 : Int); have := rv_hi (xs 1); omega⟩ (rv_any _) (rv_any _) (rv_any _) (rv_any _))) rvX0_ok K oc_43_2
  · skip
    exact rvOp_run (hC _ (rvSx6 h6 ⟨by show (2 : Int) ≤ _; have := rv_lo (xs 1); omega, by show _ ≤ (2147483647 : Int); have := rv_hi (xs 1); omega⟩ (rv_any _) (rv_any _) (rv_any _) (rv_any _))) rvX0_ok K oc_43_3
theorem rvOp_44 (hC : ∀ sc, rvSx ex A s sc → rvCx p s m args meth c code RL 7 D cT ex A false sc) (h6 : va_X (ex 5 0) 6 xs s s.heap ∧ ex 5 0 < s.heap.size ∧ ¬ A (ex 5 0)) (K : rvEnds p l e s m args below meth c Q D cT ex A) : rvG p l e room_1 s m args below meth c Q D cT ex A 7 (40, rvAl0, [.inl (44, 44)], rvAw0, 132, 19068) := by
  refine rvSw hC (rvSw_44) ?_
  rcases (show ((-2147483648) ≤ (xs 1).toInt ∧ (xs 1).toInt ≤ (-1)) ∨ (0 ≤ (xs 1).toInt ∧ (xs 1).toInt ≤ 0) ∨ (1 ≤ (xs 1).toInt ∧ (xs 1).toInt ≤ 1) ∨ (2 ≤ (xs 1).toInt ∧ (xs 1).toInt ≤ 2) ∨ (3 ≤ (xs 1).toInt ∧ (xs 1).toInt ≤ 3) ∨ (4 ≤ (xs 1).toInt ∧ (xs 1).toInt ≤ 4) ∨ (5 ≤ (xs 1).toInt ∧ (xs 1).toInt ≤ 5) ∨ (6 ≤ (xs 1).toInt ∧ (xs 1).toInt ≤ 2147483647) by have := rv_lo (xs 1); have := rv_hi (xs 1); omega) with ⟨g0a, g0b⟩ | ⟨g0a, g0b⟩ | ⟨g0a, g0b⟩ | ⟨g0a, g0b⟩ | ⟨g0a, g0b⟩ | ⟨g0a, g0b⟩ | ⟨g0a, g0b⟩ | ⟨g0a, g0b⟩
  · skip
    exact rvOp_run (hC _ (rvSx6 h6 ⟨by show ((-2147483648) : Int) ≤ _; have := rv_lo (xs 1); omega, by show _ ≤ ((-1) : Int); have := rv_hi (xs 1); omega⟩ (rv_any _) (rv_any _) (rv_any _) (rv_any _))) rvX0_ok K oc_44_0
  · skip
    exact rvOp_run (hC _ (rvSx6 h6 ⟨by show (0 : Int) ≤ _; have := rv_lo (xs 1); omega, by show _ ≤ (0 : Int); have := rv_hi (xs 1); omega⟩ (rv_any _) (rv_any _) (rv_any _) (rv_any _))) rvX0_ok K oc_44_1
  · skip
    exact rvOp_run (hC _ (rvSx6 h6 ⟨by show (1 : Int) ≤ _; have := rv_lo (xs 1); omega, by show _ ≤ (1 : Int); have := rv_hi (xs 1); omega⟩ (rv_any _) (rv_any _) (rv_any _) (rv_any _))) rvX0_ok K oc_44_2
  · skip
    exact rvOp_run (hC _ (rvSx6 h6 ⟨by show (2 : Int) ≤ _; have := rv_lo (xs 1); omega, by show _ ≤ (2 : Int); have := rv_hi (xs 1); omega⟩ (rv_any _) (rv_any _) (rv_any _) (rv_any _))) rvX0_ok K oc_44_3
  · skip
    exact rvOp_run (hC _ (rvSx6 h6 ⟨by show (3 : Int) ≤ _; have := rv_lo (xs 1); omega, by show _ ≤ (3 : Int); have := rv_hi (xs 1); omega⟩ (rv_any _) (rv_any _) (rv_any _) (rv_any _))) rvX0_ok K oc_44_4
  · skip
    exact rvOp_run (hC _ (rvSx6 h6 ⟨by show (4 : Int) ≤ _; have := rv_lo (xs 1); omega, by show _ ≤ (4 : Int); have := rv_hi (xs 1); omega⟩ (rv_any _) (rv_any _) (rv_any _) (rv_any _))) rvX0_ok K oc_44_5
  · skip
    exact rvOp_run (hC _ (rvSx6 h6 ⟨by show (5 : Int) ≤ _; have := rv_lo (xs 1); omega, by show _ ≤ (5 : Int); have := rv_hi (xs 1); omega⟩ (rv_any _) (rv_any _) (rv_any _) (rv_any _))) rvX0_ok K oc_44_6
  · skip
    exact rvOp_run (hC _ (rvSx6 h6 ⟨by show (6 : Int) ≤ _; have := rv_lo (xs 1); omega, by show _ ≤ (2147483647 : Int); have := rv_hi (xs 1); omega⟩ (rv_any _) (rv_any _) (rv_any _) (rv_any _))) rvX0_ok K oc_44_7
theorem rvOp_45 (hC : ∀ sc, rvSx ex A s sc → rvCx p s m args meth c code RL 7 D cT ex A false sc) (h6 : va_X (ex 5 0) 6 xs s s.heap ∧ ex 5 0 < s.heap.size ∧ ¬ A (ex 5 0)) (K : rvEnds p l e s m args below meth c Q D cT ex A) : rvG p l e room_1 s m args below meth c Q D cT ex A 7 (40, rvAl0, [.inl (45, 45)], rvAw0, 132, 19068) := by
  refine rvSw hC (rvSw_45) ?_
  exact rvOp_run (hC _ (rvSx6 h6 (rv_any _) (rv_any _) (rv_any _) (rv_any _) (rv_any _))) rvX0_ok K oc_45_0
theorem rvOp_46 (hC : ∀ sc, rvSx ex A s sc → rvCx p s m args meth c code RL 7 D cT ex A false sc) (h6 : va_X (ex 5 0) 6 xs s s.heap ∧ ex 5 0 < s.heap.size ∧ ¬ A (ex 5 0)) (K : rvEnds p l e s m args below meth c Q D cT ex A) : rvG p l e room_1 s m args below meth c Q D cT ex A 7 (40, rvAl0, [.inl (46, 46)], rvAw0, 132, 19068) := by
  refine rvSw hC (rvSw_46) ?_
  exact rvOp_run (hC _ (rvSx6 h6 (rv_any _) (rv_any _) (rv_any _) (rv_any _) (rv_any _))) rvX0_ok K oc_46_0
theorem rvOp_47 (hC : ∀ sc, rvSx ex A s sc → rvCx p s m args meth c code RL 7 D cT ex A false sc) (h6 : va_X (ex 5 0) 6 xs s s.heap ∧ ex 5 0 < s.heap.size ∧ ¬ A (ex 5 0)) (K : rvEnds p l e s m args below meth c Q D cT ex A) : rvG p l e room_1 s m args below meth c Q D cT ex A 7 (40, rvAl0, [.inl (47, 47)], rvAw0, 132, 19068) := by
  refine rvSw hC (rvSw_47) ?_
  exact rvOp_run (hC _ (rvSx6 h6 (rv_any _) (rv_any _) (rv_any _) (rv_any _) (rv_any _))) rvX0_ok K oc_47_0
theorem rvOp_48 (hC : ∀ sc, rvSx ex A s sc → rvCx p s m args meth c code RL 7 D cT ex A false sc) (h6 : va_X (ex 5 0) 6 xs s s.heap ∧ ex 5 0 < s.heap.size ∧ ¬ A (ex 5 0)) (K : rvEnds p l e s m args below meth c Q D cT ex A) : rvG p l e room_1 s m args below meth c Q D cT ex A 7 (40, rvAl0, [.inl (48, 48)], rvAw0, 132, 19068) := by
  refine rvSw hC (rvSw_48) ?_
  exact rvOp_run (hC _ (rvSx6 h6 (rv_any _) (rv_any _) (rv_any _) (rv_any _) (rv_any _))) rvX0_ok K oc_48_0
theorem rvOp_49 (hC : ∀ sc, rvSx ex A s sc → rvCx p s m args meth c code RL 7 D cT ex A false sc) (h6 : va_X (ex 5 0) 6 xs s s.heap ∧ ex 5 0 < s.heap.size ∧ ¬ A (ex 5 0)) (K : rvEnds p l e s m args below meth c Q D cT ex A) : rvG p l e room_1 s m args below meth c Q D cT ex A 7 (40, rvAl0, [.inl (49, 49)], rvAw0, 132, 19068) := by
  refine rvSw hC (rvSw_49) ?_
  exact rvOp_run (hC _ (rvSx6 h6 (rv_any _) (rv_any _) (rv_any _) (rv_any _) (rv_any _))) rvX0_ok K oc_49_0
theorem rvOp_50 (hC : ∀ sc, rvSx ex A s sc → rvCx p s m args meth c code RL 7 D cT ex A false sc) (h6 : va_X (ex 5 0) 6 xs s s.heap ∧ ex 5 0 < s.heap.size ∧ ¬ A (ex 5 0)) (K : rvEnds p l e s m args below meth c Q D cT ex A) : rvG p l e room_1 s m args below meth c Q D cT ex A 7 (40, rvAl0, [.inl (50, 50)], rvAw0, 132, 19068) := by
  refine rvSw hC (rvSw_50) ?_
  exact rvOp_run (hC _ (rvSx6 h6 (rv_any _) (rv_any _) (rv_any _) (rv_any _) (rv_any _))) rvX0_ok K oc_50_0
theorem rvOp_51 (hC : ∀ sc, rvSx ex A s sc → rvCx p s m args meth c code RL 7 D cT ex A false sc) (h6 : va_X (ex 5 0) 6 xs s s.heap ∧ ex 5 0 < s.heap.size ∧ ¬ A (ex 5 0)) (K : rvEnds p l e s m args below meth c Q D cT ex A) : rvG p l e room_1 s m args below meth c Q D cT ex A 7 (40, rvAl0, [.inl (51, 51)], rvAw0, 132, 19068) := by
  refine rvSw hC (rvSw_51) ?_
  exact rvOp_run (hC _ (rvSx6 h6 (rv_any _) (rv_any _) (rv_any _) (rv_any _) (rv_any _))) rvX0_ok K oc_51_0
theorem rvOp_52 (hC : ∀ sc, rvSx ex A s sc → rvCx p s m args meth c code RL 7 D cT ex A false sc) (h6 : va_X (ex 5 0) 6 xs s s.heap ∧ ex 5 0 < s.heap.size ∧ ¬ A (ex 5 0)) (K : rvEnds p l e s m args below meth c Q D cT ex A) : rvG p l e room_1 s m args below meth c Q D cT ex A 7 (40, rvAl0, [.inl (52, 52)], rvAw0, 132, 19068) := by
  refine rvSw hC (rvSw_52) ?_
  exact rvOp_run (hC _ (rvSx6 h6 (rv_any _) (rv_any _) (rv_any _) (rv_any _) (rv_any _))) rvX0_ok K oc_52_0
theorem rvOp_53 (hC : ∀ sc, rvSx ex A s sc → rvCx p s m args meth c code RL 7 D cT ex A false sc) (h6 : va_X (ex 5 0) 6 xs s s.heap ∧ ex 5 0 < s.heap.size ∧ ¬ A (ex 5 0)) (K : rvEnds p l e s m args below meth c Q D cT ex A) : rvG p l e room_1 s m args below meth c Q D cT ex A 7 (40, rvAl0, [.inl (53, 53)], rvAw0, 132, 19068) := by
  refine rvSw hC (rvSw_53) ?_
  exact rvOp_run (hC _ (rvSx6 h6 (rv_any _) (rv_any _) (rv_any _) (rv_any _) (rv_any _))) rvX0_ok K oc_53_0
theorem rvOp_54 (hC : ∀ sc, rvSx ex A s sc → rvCx p s m args meth c code RL 7 D cT ex A false sc) (h6 : va_X (ex 5 0) 6 xs s s.heap ∧ ex 5 0 < s.heap.size ∧ ¬ A (ex 5 0)) (K : rvEnds p l e s m args below meth c Q D cT ex A) : rvG p l e room_1 s m args below meth c Q D cT ex A 7 (40, rvAl0, [.inl (54, 54)], rvAw0, 132, 19068) := by
  refine rvSw hC (rvSw_54) ?_
  exact rvOp_run (hC _ (rvSx6 h6 (rv_any _) (rv_any _) (rv_any _) (rv_any _) (rv_any _))) rvX0_ok K oc_54_0
theorem rvOp_55 (hC : ∀ sc, rvSx ex A s sc → rvCx p s m args meth c code RL 7 D cT ex A false sc) (h6 : va_X (ex 5 0) 6 xs s s.heap ∧ ex 5 0 < s.heap.size ∧ ¬ A (ex 5 0)) (K : rvEnds p l e s m args below meth c Q D cT ex A) : rvG p l e room_1 s m args below meth c Q D cT ex A 7 (40, rvAl0, [.inl (55, 55)], rvAw0, 132, 19068) := by
  refine rvSw hC (rvSw_55) ?_
  exact rvOp_run (hC _ (rvSx6 h6 (rv_any _) (rv_any _) (rv_any _) (rv_any _) (rv_any _))) rvX0_ok K oc_55_0
theorem rvOp_56 (hC : ∀ sc, rvSx ex A s sc → rvCx p s m args meth c code RL 7 D cT ex A false sc) (h6 : va_X (ex 5 0) 6 xs s s.heap ∧ ex 5 0 < s.heap.size ∧ ¬ A (ex 5 0)) (K : rvEnds p l e s m args below meth c Q D cT ex A) : rvG p l e room_1 s m args below meth c Q D cT ex A 7 (40, rvAl0, [.inl (56, 56)], rvAw0, 132, 19068) := by
  refine rvSw hC (rvSw_56) ?_
  exact rvOp_run (hC _ (rvSx6 h6 (rv_any _) (rv_any _) (rv_any _) (rv_any _) (rv_any _))) rvX0_ok K oc_56_0
theorem rvOp_57 (hC : ∀ sc, rvSx ex A s sc → rvCx p s m args meth c code RL 7 D cT ex A false sc) (h6 : va_X (ex 5 0) 6 xs s s.heap ∧ ex 5 0 < s.heap.size ∧ ¬ A (ex 5 0)) (K : rvEnds p l e s m args below meth c Q D cT ex A) : rvG p l e room_1 s m args below meth c Q D cT ex A 7 (40, rvAl0, [.inl (57, 57)], rvAw0, 132, 19068) := by
  refine rvSw hC (rvSw_57) ?_
  exact rvOp_run (hC _ (rvSx6 h6 (rv_any _) (rv_any _) (rv_any _) (rv_any _) (rv_any _))) rvX0_ok K oc_57_0
theorem rvOp_58 (hC : ∀ sc, rvSx ex A s sc → rvCx p s m args meth c code RL 7 D cT ex A false sc) (h6 : va_X (ex 5 0) 6 xs s s.heap ∧ ex 5 0 < s.heap.size ∧ ¬ A (ex 5 0)) (K : rvEnds p l e s m args below meth c Q D cT ex A) : rvG p l e room_1 s m args below meth c Q D cT ex A 7 (40, rvAl0, [.inl (58, 58)], rvAw0, 132, 19068) := by
  refine rvSw hC (rvSw_58) ?_
  exact rvOp_run (hC _ (rvSx6 h6 (rv_any _) (rv_any _) (rv_any _) (rv_any _) (rv_any _))) rvX0_ok K oc_58_0
theorem rvOp_59 (hC : ∀ sc, rvSx ex A s sc → rvCx p s m args meth c code RL 7 D cT ex A false sc) (h6 : va_X (ex 5 0) 6 xs s s.heap ∧ ex 5 0 < s.heap.size ∧ ¬ A (ex 5 0)) (K : rvEnds p l e s m args below meth c Q D cT ex A) : rvG p l e room_1 s m args below meth c Q D cT ex A 7 (40, rvAl0, [.inl (59, 59)], rvAw0, 132, 19068) := by
  refine rvSw hC (rvSw_59) ?_
  exact rvOp_run (hC _ (rvSx6 h6 (rv_any _) (rv_any _) (rv_any _) (rv_any _) (rv_any _))) rvX0_ok K oc_59_0
theorem rvOp_60 (hC : ∀ sc, rvSx ex A s sc → rvCx p s m args meth c code RL 7 D cT ex A false sc) (h6 : va_X (ex 5 0) 6 xs s s.heap ∧ ex 5 0 < s.heap.size ∧ ¬ A (ex 5 0)) (K : rvEnds p l e s m args below meth c Q D cT ex A) : rvG p l e room_1 s m args below meth c Q D cT ex A 7 (40, rvAl0, [.inl (60, 60)], rvAw0, 132, 19068) := by
  refine rvSw hC (rvSw_60) ?_
  exact rvOp_run (hC _ (rvSx6 h6 (rv_any _) (rv_any _) (rv_any _) (rv_any _) (rv_any _))) rvX0_ok K oc_60_0
theorem rvOp_61 (hC : ∀ sc, rvSx ex A s sc → rvCx p s m args meth c code RL 7 D cT ex A false sc) (h6 : va_X (ex 5 0) 6 xs s s.heap ∧ ex 5 0 < s.heap.size ∧ ¬ A (ex 5 0)) (K : rvEnds p l e s m args below meth c Q D cT ex A) : rvG p l e room_1 s m args below meth c Q D cT ex A 7 (40, rvAl0, [.inl (61, 61)], rvAw0, 132, 19068) := by
  refine rvSw hC (rvSw_61) ?_
  exact rvOp_run (hC _ (rvSx6 h6 (rv_any _) (rv_any _) (rv_any _) (rv_any _) (rv_any _))) rvX0_ok K oc_61_0
theorem rvOp_62 (hC : ∀ sc, rvSx ex A s sc → rvCx p s m args meth c code RL 7 D cT ex A false sc) (h6 : va_X (ex 5 0) 6 xs s s.heap ∧ ex 5 0 < s.heap.size ∧ ¬ A (ex 5 0)) (K : rvEnds p l e s m args below meth c Q D cT ex A) : rvG p l e room_1 s m args below meth c Q D cT ex A 7 (40, rvAl0, [.inl (62, 62)], rvAw0, 132, 19068) := by
  refine rvSw hC (rvSw_62) ?_
  exact rvOp_run (hC _ (rvSx6 h6 (rv_any _) (rv_any _) (rv_any _) (rv_any _) (rv_any _))) rvX0_ok K oc_62_0
theorem rvOp_63 (hC : ∀ sc, rvSx ex A s sc → rvCx p s m args meth c code RL 7 D cT ex A false sc) (h6 : va_X (ex 5 0) 6 xs s s.heap ∧ ex 5 0 < s.heap.size ∧ ¬ A (ex 5 0)) (K : rvEnds p l e s m args below meth c Q D cT ex A) : rvG p l e room_1 s m args below meth c Q D cT ex A 7 (40, rvAl0, [.inl (63, 63)], rvAw0, 132, 19068) := by
  refine rvSw hC (rvSw_63) ?_
  exact rvOp_run (hC _ (rvSx6 h6 (rv_any _) (rv_any _) (rv_any _) (rv_any _) (rv_any _))) rvX0_ok K oc_63_0
end RVK
