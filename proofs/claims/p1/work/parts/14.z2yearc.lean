theorem yc_1 : (List.range' 1 10).all (fun n => rvGd (rvRun rvTy rvNf rvTxt [(-2147483648, 2147483647), ((n : Int), (n : Int)), (-2147483648, 2147483647), (-2147483648, 2147483647), (-2147483648, 2147483647), (-2147483648, 2147483647)] (rvX2 n 7) rvInf (rvFind2 tb_L) 1476 2048 600002 7302232 84000 7 100 812 rvAl0 [] rvAw0 132 19068)) = true := by decide +kernel
theorem yc_11 : (List.range' 11 10).all (fun n => rvGd (rvRun rvTy rvNf rvTxt [(-2147483648, 2147483647), ((n : Int), (n : Int)), (-2147483648, 2147483647), (-2147483648, 2147483647), (-2147483648, 2147483647), (-2147483648, 2147483647)] (rvX2 n 7) rvInf (rvFind2 tb_L) 1476 2048 600002 7302232 84000 7 100 812 rvAl0 [] rvAw0 132 19068)) = true := by decide +kernel
theorem yc_21 : (List.range' 21 10).all (fun n => rvGd (rvRun rvTy rvNf rvTxt [(-2147483648, 2147483647), ((n : Int), (n : Int)), (-2147483648, 2147483647), (-2147483648, 2147483647), (-2147483648, 2147483647), (-2147483648, 2147483647)] (rvX2 n 7) rvInf (rvFind2 tb_L) 1476 2048 600002 7302232 84000 7 100 812 rvAl0 [] rvAw0 132 19068)) = true := by decide +kernel
theorem yc_31 : (List.range' 31 10).all (fun n => rvGd (rvRun rvTy rvNf rvTxt [(-2147483648, 2147483647), ((n : Int), (n : Int)), (-2147483648, 2147483647), (-2147483648, 2147483647), (-2147483648, 2147483647), (-2147483648, 2147483647)] (rvX2 n 7) rvInf (rvFind2 tb_L) 1476 2048 600002 7302232 84000 7 100 812 rvAl0 [] rvAw0 132 19068)) = true := by decide +kernel
theorem yc_41 : (List.range' 41 10).all (fun n => rvGd (rvRun rvTy rvNf rvTxt [(-2147483648, 2147483647), ((n : Int), (n : Int)), (-2147483648, 2147483647), (-2147483648, 2147483647), (-2147483648, 2147483647), (-2147483648, 2147483647)] (rvX2 n 7) rvInf (rvFind2 tb_L) 1476 2048 600002 7302232 84000 7 100 812 rvAl0 [] rvAw0 132 19068)) = true := by decide +kernel
theorem yc_51 : (List.range' 51 10).all (fun n => rvGd (rvRun rvTy rvNf rvTxt [(-2147483648, 2147483647), ((n : Int), (n : Int)), (-2147483648, 2147483647), (-2147483648, 2147483647), (-2147483648, 2147483647), (-2147483648, 2147483647)] (rvX2 n 7) rvInf (rvFind2 tb_L) 1476 2048 600002 7302232 84000 7 100 812 rvAl0 [] rvAw0 132 19068)) = true := by decide +kernel
theorem yc (n : Nat) (h0 : 1 ≤ n) (h : n < 61) : rvGd (rvRun rvTy rvNf rvTxt [(-2147483648, 2147483647), ((n : Int), (n : Int)), (-2147483648, 2147483647), (-2147483648, 2147483647), (-2147483648, 2147483647), (-2147483648, 2147483647)] (rvX2 n 7) rvInf (rvFind2 tb_L) 1476 2048 600002 7302232 84000 7 100 812 rvAl0 [] rvAw0 132 19068) = true := by
  by_cases h1 : n < 11
  · exact List.all_eq_true.mp yc_1 n (List.mem_range'_1.mpr ⟨by omega, by omega⟩)
  by_cases h11 : n < 21
  · exact List.all_eq_true.mp yc_11 n (List.mem_range'_1.mpr ⟨by omega, by omega⟩)
  by_cases h21 : n < 31
  · exact List.all_eq_true.mp yc_21 n (List.mem_range'_1.mpr ⟨by omega, by omega⟩)
  by_cases h31 : n < 41
  · exact List.all_eq_true.mp yc_31 n (List.mem_range'_1.mpr ⟨by omega, by omega⟩)
  by_cases h41 : n < 51
  · exact List.all_eq_true.mp yc_41 n (List.mem_range'_1.mpr ⟨by omega, by omega⟩)
  by_cases h51 : n < 61
  · exact List.all_eq_true.mp yc_51 n (List.mem_range'_1.mpr ⟨by omega, by omega⟩)
  omega
section RVZ
variable {p : Program} {l : Launch} {e : Env} {s : State} {m : MethodId} {args : Array Value} {below : List Frame} {meth : Method} {c : Code} {Q : State → Prop} {D : va_G} {cT : Nat → ClassId} {ex : Nat → Nat → Nat} {A : Nat → Prop} {xs : Nat → Int32}
theorem rvOp_17 (hC : ∀ sc, rvSx ex A s sc → rvCx p s m args meth c code RL 7 D cT ex A false sc) (h6 : va_X (ex 5 0) 6 xs s s.heap ∧ ex 5 0 < s.heap.size ∧ ¬ A (ex 5 0)) (K : rvEnds p l e s m args below meth c Q D cT ex A) (h7 : ex 7 0 = (xs 1).toInt.toNat) : rvG p l e room_1 s m args below meth c Q D cT ex A 7 (40, rvAl0, [.inl (17, 17)], rvAw0, 132, 19068) := by
  refine rvSw hC rvSw_17 ?_
  rcases (show (-2147483648 ≤ (xs 1).toInt ∧ (xs 1).toInt ≤ 0) ∨ (1 ≤ (xs 1).toInt ∧ (xs 1).toInt ≤ 60) ∨ (61 ≤ (xs 1).toInt ∧ (xs 1).toInt ≤ 2147483647) by have := rv_lo (xs 1); have := rv_hi (xs 1); omega) with ⟨g0a, g0b⟩ | ⟨g0a, g0b⟩ | ⟨g0a, g0b⟩
  · exact rvOp_run (hC _ (rvSx6 h6 ⟨g0a, g0b⟩ (rv_any _) (rv_any _) (rv_any _) (rv_any _))) rvX0_ok K oc_17_0
  · have e7 : ((ex 7 0 : Nat) : Int) = (xs 1).toInt := by rw [h7]; omega
    exact rvOp_run (hC _ (rvSx6 (a1 := (((ex 7 0 : Nat) : Int), ((ex 7 0 : Nat) : Int))) h6 ⟨by show ((ex 7 0 : Nat) : Int) ≤ _; omega, by show _ ≤ ((ex 7 0 : Nat) : Int); omega⟩ (rv_any _) (rv_any _) (rv_any _) (rv_any _))) (fun j as aw r hj h => rvExec_ok rvBase_ok rvM_all rvT_all (rvOrc2_ok (n := ex 7 0) (by omega) rfl) 100000 7 j as aw r hj h) K (yc (ex 7 0) (by omega) (by omega))
  · exact rvOp_run (hC _ (rvSx6 h6 ⟨g0a, g0b⟩ (rv_any _) (rv_any _) (rv_any _) (rv_any _))) rvX0_ok K oc_17_2
end RVZ
