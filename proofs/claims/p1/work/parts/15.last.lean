/-! The law's head and end; the start. -/
def tb_H : List (Nat × List (Nat × rvE)) := [(1484, [(23, (.iload 4, 2, 0, 0, 0, 0)), (25, (.aload_n 0, 1, 0, 0, 0, 0)), (27, (.bipush 6, 2, 0, 0, 0, 0)), (29, (.isub, 1, 0, 0, 0, 0)), (30, (.if_icmp .gt 1452, 3, 0, 0, 0, 0)), (33, (.aload_n 0, 1, 0, 0, 0, 0)), (34, (.iload 4, 2, 0, 0, 0, 0)), (36, (.iaload, 1, 0, 0, 0, 0)), (37, (.bipush 63, 2, 0, 0, 0, 0)), (1476, (.iinc 4 6, 3, 0, 0, 0, 0)), (1479, (.goto (-1456), 3, 0, 0, 0, 0)), (1482, (.iconst 1, 1, 0, 0, 0, 0))])]
theorem rvT_H : rvTk rvYn rvKd 168 RL cL_law false (rvFind2 tb_H) := rvTc_ok (by decide +kernel)
theorem rvHd_26 : decode code 26 = .ok (.arraylength, 1) := by decide +kernel
theorem rvHd_39 : decode code 39 = .ok (.iand, 1) := by decide +kernel
theorem rvHd_1483 : decode code 1483 = .ok (.ireturn, 1) := by decide +kernel
theorem rv_06 : (Int32.ofInt 0 + Int32.ofInt 6).toInt = 6 := by decide +kernel
theorem rvEx_run (a1 a2 : rvV) (r : List rvV) (aw : rvH) (kc ks : Nat) : ∀ a3 : rvV, ∃ a3' : rvV, rvRun rvTy rvNf rvTxt [] (fun _ _ _ => none) rvInf (rvFind2 tb_H) 26 0 0 0 0 7 5 1476 (.inr (5, 0) :: a1 :: a2 :: a3 :: .inl (0, 0) :: r) [] aw kc ks = some (26, .inr (5, 0) :: a1 :: a2 :: a3' :: rvK ((Int32.ofInt 0 + Int32.ofInt 6).toInt) :: r, [.inr (5, 0), rvK ((Int32.ofInt 0 + Int32.ofInt 6).toInt)], aw, kc, ks)
  | .inl z => ⟨.inl z, rfl⟩
  | .inr (0, k) => ⟨.inr (0, k), rfl⟩
  | .inr (1, k) => ⟨rvU, rfl⟩
  | .inr (n + 2, k) => ⟨.inr (n + 2, k), rfl⟩
theorem rvEx_out (al : List rvV) (aw : rvH) (kc ks : Nat) : rvRun rvTy rvNf rvTxt [] (fun _ _ _ => none) rvInf (rvFind2 tb_H) 1483 0 0 0 0 7 10 27 al [rvK 6, rvK 6] aw kc ks = some (1483, al, [rvK 1], aw, kc, ks) := rfl
theorem rvHd_in : rvRun rvTy rvNf rvTxt [] (fun _ _ _ => none) rvInf (rvFind2 tb_H) 26 0 0 0 0 7 10 23 rvAl0 [] rvAw0 132 19068 = some (26, rvAl0, [.inr (5, 0), rvK 0], rvAw0, 132, 19068) := rvOk_ok (by decide +kernel)
theorem rvHd_few : (List.range 6).all (fun L => rvOk (rvRun rvTy rvNf rvTxt [] (fun _ _ _ => none) rvInf (rvFind2 tb_H) 1483 0 0 0 0 7 10 27 rvAl0 [rvK (L : Int), rvK 0] rvAw0 132 19068) (1483, rvAl0, [rvK 1], rvAw0, 132, 19068)) = true := by decide +kernel
theorem rvHd_six : rvRun rvTy rvNf rvTxt [(-2147483648, 2147483647), (-2147483648, 2147483647), (-2147483648, 2147483647), (-2147483648, 2147483647), (-2147483648, 2147483647), (-2147483648, 2147483647)] (fun _ _ _ => none) rvInf (rvFind2 tb_H) 39 0 0 0 0 7 10 27 rvAl0 [rvK 6, rvK 0] rvAw0 132 19068 = some (39, rvAl0, [rvK 63, rvTop], rvAw0, 132, 19068) := rvOk_ok (by decide +kernel)
theorem rv_fx0 : rvFl 258 (.exactly (.string RX11 175) "java/lang/String") = true := by decide +kernel
theorem rv_fx1 : rvFl 24 (.isRef (.static Bundle.tN "UNASSIGNED_STACK" Bundle.steD)) = true := by decide +kernel
theorem rv_fx2 : rvFl 25 (.isRef (.static Bundle.tN "SUPPRESSED_SENTINEL" Bundle.listD)) = true := by decide +kernel
theorem rv_x0 : Cond.castable rvXn rvXn ∈ lw_tbl := List.mem_of_getElem? (i := 1319) (by decide +kernel)
theorem rv_x1 : Cond.declares (Bundle.initS "java/lang/RuntimeException") ∈ lw_tbl := List.mem_of_getElem? (i := 1321) (by decide +kernel)
theorem rv_x2 : Cond.declares (Bundle.initS "java/lang/Exception") ∈ lw_tbl := List.mem_of_getElem? (i := 1323) (by decide +kernel)
theorem rv_x3 : Cond.declares (Bundle.initS Bundle.tN) ∈ lw_tbl := List.mem_of_getElem? (i := 1325) (by decide +kernel)
theorem rv_x4 : Cond.stringRef RX11 175 "no such person" ∈ lw_tbl := List.mem_of_getElem? (i := 1356) (by decide +kernel)
theorem rv_x5 : Cond.laysStatic Bundle.tN "UNASSIGNED_STACK" Bundle.steD ∈ lw_tbl := List.mem_of_getElem? (i := 1344) (by decide +kernel)
theorem rv_x6 : Cond.laysStatic Bundle.tN "SUPPRESSED_SENTINEL" Bundle.listD ∈ lw_tbl := List.mem_of_getElem? (i := 1346) (by decide +kernel)
theorem rv_x7 : Cond.initialized Bundle.tN ∈ lw_tbl := List.mem_of_getElem? (i := 140) (by decide +kernel)
theorem rv_startx {p : Program} {s : State} {m : MethodId} {meth : Method} {c : Code} {b L : Nat} {xs : Nat → Int32} (C0 : lw_At p s m meth c b L xs) : ∃ sa : Nat, rvPx sa (fun q : Nat => s.heap.size ≤ q) s s.heap := by
  obtain ⟨hx, hb, hr, hml, hown, hts, hX, hbl, hlocks, hgv⟩ := C0
  have hA : ∀ a : Nat, a < s.heap.size → ¬ (fun q : Nat => s.heap.size ≤ q) a := fun a h1 h2 => absurd h2 (Nat.not_le.mpr h1)
  obtain ⟨sa, -, -, -, hev, -⟩ := Cond.exactly_spec (rvFl_ok rv_fx0 hgv)
  exact ⟨sa, ⟨va_Nw.of rfl (hts _ rv_x0), va_Nw.of rfl (hts _ rv_x1), va_Nw.of rfl (hts _ rv_x2), va_Nw.of rfl (hts _ rv_x3)⟩, vk_R.of (A := #[Value.ref b]) (hts _ rv_x4) hev, vx_Zqof (hts _ rv_x5) (hts _ rv_x7) (rvFl_ok rv_fx1 hgv) hA, vx_Zqof (hts _ rv_x6) (hts _ rv_x7) (rvFl_ok rv_fx2 hgv) hA⟩
theorem rv_notr {l : Launch} (h : l.flags = flags0) : l.stackTraces = false := by
  unfold Launch.stackTraces
  rw [h]
  decide +kernel
section RVL
variable {p : Program} {l : Launch} {e : Env} {s : State} {m : MethodId} {args : Array Value} {below : List Frame} {meth : Method} {c : Code} {Q : State → Prop} {D : va_G} {cT : Nat → ClassId} {ex : Nat → Nat → Nat} {A : Nat → Prop} {xs : Nat → Int32} {sa L : Nat}
/-- a run of the head or the end, without calls -/
theorem rvH_run {sc : List (Int × Int)} {n stop pc kc ks : Nat} {al st : List rvV} {aw : rvH} {o : rvS} (C : rvCx p s m args meth c code RL 7 D cT ex A false sc) (h : rvRun rvTy rvNf rvTxt sc (fun _ _ _ => none) rvInf (rvFind2 tb_H) stop 0 0 0 0 7 n pc al st aw kc ks = some o) (k : rvG p l e room_1 s m args below meth c Q D cT ex A 7 o) : rvG p l e room_1 s m args below meth c Q D cT ex A 7 (pc, al, st, aw, kc, ks) :=
  rvRun_ok C rvBase_ok (fun _ _ => rfl) rvM_all (fun _ _ _ _ _ h => by cases h) rvT_H (Nat.zero_le _) (Nat.zero_le _) (Nat.zero_le _) (Nat.zero_le _) k n pc al st aw kc ks h
/-- the script's length -/
theorem rvH_len {sc : List (Int × Int)} {kc ks : Nat} {al st : List rvV} {aw : rvH} (C : rvCx p s m args meth c code RL 7 D cT ex A false sc) (hX : va_X (ex 5 0) L xs s s.heap) (hbl : ex 5 0 < s.heap.size) (hbA : ¬ A (ex 5 0)) (hL : L ≤ 6) (k : rvG p l e room_1 s m args below meth c Q D cT ex A 7 (27, al, rvK (L : Int) :: st, aw, kc, ks)) : rvG p l e room_1 s m args below meth c Q D cT ex A 7 (26, al, .inr (5, 0) :: st, aw, kc, ks) := by
  obtain ⟨hx, hb, hml, hown, hts, hK, hA, hKx, hini, hsc⟩ := C
  intro ws H locs ls stk hw hl hs hP hD hS
  dsimp only at hw hl hs ⊢
  obtain ⟨x, stk1, rfl, hv, hs1⟩ := rvRs_cons hs
  have hv : x = .ref (ex 5 0) := hv
  subst hv
  exact va_slen hx hb hX hbl hbA hS rvHd_26 (k ws H locs ls _ hw hl ⟨rvR_K (by exact nI_toInt (by omega)), hs1⟩ hP hD hS)
theorem rvH_and {sc : List (Int × Int)} {kc ks : Nat} {al st : List rvV} {aw : rvH} (C : rvCx p s m args meth c code RL 7 D cT ex A false sc) (k : ∀ j : Nat, j < 64 → rvG p l e room_1 s m args below meth c Q D cT ex A 7 (40, al, .inl ((j : Int), (j : Int)) :: st, aw, kc, ks)) : rvG p l e room_1 s m args below meth c Q D cT ex A 7 (39, al, rvK 63 :: rvTop :: st, aw, kc, ks) := by
  obtain ⟨hx, hb, hml, hown, hts, hK, hA, hKx, hini, hsc⟩ := C
  intro ws H locs ls stk hw hl hs hP hD hS
  dsimp only at hw hl hs ⊢
  obtain ⟨y, stk1, rfl, ⟨n1, rfl, p1, q1⟩, hs1⟩ := rvRs_cons hs
  obtain ⟨x, stk2, rfl, ⟨n2, rfl, -, -⟩, hs2⟩ := rvRs_cons hs1
  have e1 : n1 = 63 := by
    have p1 : (63 : Int) ≤ n1.toInt := p1
    have q1 : n1.toInt ≤ (63 : Int) := q1
    exact Int32.toInt_inj.mp (by show n1.toInt = 63; omega)
  subst e1
  obtain ⟨j, hj, hv⟩ := pk_andE n2 (m := 63) 6 (by decide)
  refine lv_iand hx hb rvHd_39 ?_
  have ej : (n2 &&& 63).toInt = (j : Int) := by rw [hv]; exact nI_toInt (by omega)
  exact k j hj ws H locs ls _ hw hl ⟨⟨_, rfl, by show (j : Int) ≤ _; omega, by show _ ≤ (j : Int); omega⟩, hs2⟩ hP hD hS
theorem rvOp_all (hC : ∀ sc, rvSx ex A s sc → rvCx p s m args meth c code RL 7 D cT ex A false sc) (h6 : va_X (ex 5 0) 6 xs s s.heap ∧ ex 5 0 < s.heap.size ∧ ¬ A (ex 5 0)) (K : rvEnds p l e s m args below meth c Q D cT ex A) (h7 : ex 7 0 = (xs 1).toInt.toNat) (hl : l.stackTraces = false) (hPx : rvPx sa A s s.heap) (j : Nat) (hj : j < 64) : rvG p l e room_1 s m args below meth c Q D cT ex A 7 (40, rvAl0, [.inl ((j : Int), (j : Int))], rvAw0, 132, 19068) := by
  match j, hj with
  | 0, _ => exact rvOp_0 hC h6 K
  | 1, _ => exact rvOp_1 hC h6 K
  | 2, _ => exact rvOp_2 hC h6 K
  | 3, _ => exact rvOp_3 hC h6 K
  | 4, _ => exact rvOp_4 hC h6 K hl hPx
  | 5, _ => exact rvOp_5 hC h6 K
  | 6, _ => exact rvOp_6 hC h6 K
  | 7, _ => exact rvOp_7 hC h6 K
  | 8, _ => exact rvOp_8 hC h6 K
  | 9, _ => exact rvOp_9 hC h6 K
  | 10, _ => exact rvOp_10 hC h6 K
  | 11, _ => exact rvOp_11 hC h6 K
  | 12, _ => exact rvOp_12 hC h6 K
  | 13, _ => exact rvOp_13 hC h6 K
  | 14, _ => exact rvOp_14 hC h6 K
  | 15, _ => exact rvOp_15 hC h6 K
  | 16, _ => exact rvOp_16 hC h6 K
  | 17, _ => exact rvOp_17 hC h6 K h7
  | 18, _ => exact rvOp_18 hC h6 K
  | 19, _ => exact rvOp_19 hC h6 K
  | 20, _ => exact rvOp_20 hC h6 K
  | 21, _ => exact rvOp_21 hC h6 K
  | 22, _ => exact rvOp_22 hC h6 K
  | 23, _ => exact rvOp_23 hC h6 K
  | 24, _ => exact rvOp_24 hC h6 K
  | 25, _ => exact rvOp_25 hC h6 K
  | 26, _ => exact rvOp_26 hC h6 K
  | 27, _ => exact rvOp_27 hC h6 K
  | 28, _ => exact rvOp_28 hC h6 K
  | 29, _ => exact rvOp_29 hC h6 K
  | 30, _ => exact rvOp_30 hC h6 K
  | 31, _ => exact rvOp_31 hC h6 K
  | 32, _ => exact rvOp_32 hC h6 K
  | 33, _ => exact rvOp_33 hC h6 K
  | 34, _ => exact rvOp_34 hC h6 K
  | 35, _ => exact rvOp_35 hC h6 K
  | 36, _ => exact rvOp_36 hC h6 K
  | 37, _ => exact rvOp_37 hC h6 K
  | 38, _ => exact rvOp_38 hC h6 K
  | 39, _ => exact rvOp_39 hC h6 K
  | 40, _ => exact rvOp_40 hC h6 K
  | 41, _ => exact rvOp_41 hC h6 K
  | 42, _ => exact rvOp_42 hC h6 K
  | 43, _ => exact rvOp_43 hC h6 K
  | 44, _ => exact rvOp_44 hC h6 K
  | 45, _ => exact rvOp_45 hC h6 K
  | 46, _ => exact rvOp_46 hC h6 K
  | 47, _ => exact rvOp_47 hC h6 K
  | 48, _ => exact rvOp_48 hC h6 K
  | 49, _ => exact rvOp_49 hC h6 K
  | 50, _ => exact rvOp_50 hC h6 K
  | 51, _ => exact rvOp_51 hC h6 K
  | 52, _ => exact rvOp_52 hC h6 K
  | 53, _ => exact rvOp_53 hC h6 K
  | 54, _ => exact rvOp_54 hC h6 K
  | 55, _ => exact rvOp_55 hC h6 K
  | 56, _ => exact rvOp_56 hC h6 K
  | 57, _ => exact rvOp_57 hC h6 K
  | 58, _ => exact rvOp_58 hC h6 K
  | 59, _ => exact rvOp_59 hC h6 K
  | 60, _ => exact rvOp_60 hC h6 K
  | 61, _ => exact rvOp_61 hC h6 K
  | 62, _ => exact rvOp_62 hC h6 K
  | 63, _ => exact rvOp_63 hC h6 K
  | n + 64, hj => exact absurd hj (by omega)
/-- behind a call: the place goes past the script's end -/
theorem rvEnds_ok (hC : ∀ sc, rvSx ex A s sc → rvCx p s m args meth c code RL 7 D cT ex A false sc) (h6 : va_X (ex 5 0) 6 xs s s.heap ∧ ex 5 0 < s.heap.size ∧ ¬ A (ex 5 0)) (k : ∀ (al : List rvV) (aw : rvH) (kc ks : Nat), kc ≤ 600002 → ks ≤ 7302232 → rvG p l e room_1 s m args below meth c Q D cT ex A 7 (1483, al, [rvK 1], aw, kc, ks)) : rvEnds p l e s m args below meth c Q D cT ex A := by
  intro al aw kc ks h0 h4 hkc hks
  have C := hC [] (Or.inl rfl)
  match al, h0, h4 with
  | a0 :: a1 :: a2 :: a3 :: a4 :: r, h0, h4 =>
    have e0 : a0 = .inr (5, 0) := Option.some.inj h0
    have e4 : a4 = .inl (0, 0) := Option.some.inj h4
    subst e0; subst e4
    obtain ⟨a3', hr⟩ := rvEx_run a1 a2 r aw kc ks a3
    rw [rv_06] at hr
    exact rvH_run C hr (rvH_len C h6.1 h6.2.1 h6.2.2 (Nat.le_refl 6) (rvH_run C (rvEx_out _ aw kc ks) (k _ aw kc ks hkc hks)))
  | [], h0, h4 => cases h0
  | [_], h0, h4 => cases h4
  | [_, _], h0, h4 => cases h4
  | [_, _, _], h0, h4 => cases h4
  | [_, _, _, _], h0, h4 => cases h4
end RVL

set_option maxHeartbeats 1000000 in
theorem whole_start {p : Program} {e : Env} {s : State} {m : MethodId} {below : List Frame} {meth : Method} {c : Code} (l : Launch) (hflags : l.flags = flags0) {b L : Nat} {xs : Nat → Int32} (hL : L ≤ 6) (C0 : lw_At p s m meth c b L xs) : W p l e room_1 s m #[Value.ref b] below meth c s.heap [] 0 0 (lw_Z below #[Value.ref b] s) (entryFrame m ([Value.ref b] : List Value).toArray 7) := by
  have hl := rv_notr hflags
  obtain ⟨sa, hPx⟩ := rv_startx C0
  obtain ⟨D, cT, ex, h99, h5, h7, hC⟩ := rv_start C0
  obtain ⟨hx, hb, hr, hml, hown, hts, hX, hbl, hlocks, hgv⟩ := C0
  have hA : ∀ a : Nat, a < s.heap.size → ¬ (fun q : Nat => s.heap.size ≤ q) a := fun a h1 h2 => absurd h2 (Nat.not_le.mpr h1)
  have hX5 : va_X (ex 5 0) L xs s s.heap := by rw [h5]; exact hX
  have hb5 : ex 5 0 < s.heap.size := by rw [h5]; exact hbl
  have hA5 := hA _ hb5
  have C := hC [] (Or.inl rfl)
  have fin : ∀ (al : List rvV) (aw : rvH) (kc ks : Nat), kc ≤ 600002 → ks ≤ 7302232 → rvG p l e room_1 s m #[Value.ref b] below meth c (lw_Z below #[Value.ref b] s) D cT ex (fun q : Nat => s.heap.size ≤ q) 7 (1483, al, [rvK 1], aw, kc, ks) := by
    intro al aw kc ks hkc hks ws H locs ls stk hw hl1 hs hP hD hS
    dsimp only at hw hl1 hs ⊢
    obtain ⟨y, stk1, rfl, ⟨n1, rfl, p1, q1⟩, hs1⟩ := rvRs_cons hs
    have hnil := rvRs_nil hs1
    subst hnil
    have e1 : n1 = 1 := by
      have p1 : (1 : Int) ≤ n1.toInt := p1
      have q1 : n1.toInt ≤ (1 : Int) := q1
      exact Int32.toInt_inj.mp (by show n1.toInt = 1; omega)
    subst e1
    exact va_forget hS.2.2 (W.widen (k := 600002) (n := 7302232) hkc hks (lw_ret hx hb hr hlocks rvHd_1483))
  have k23 : rvG p l e room_1 s m #[Value.ref b] below meth c (lw_Z below #[Value.ref b] s) D cT ex (fun q : Nat => s.heap.size ≤ q) 7 (23, rvAl0, [], rvAw0, 132, 19068) := by
    refine rvH_run C rvHd_in (rvH_len C hX5 hb5 hA5 hL ?_)
    by_cases h6 : L = 6
    · subst h6
      have h6 : va_X (ex 5 0) 6 xs s s.heap ∧ ex 5 0 < s.heap.size ∧ ¬ (fun q : Nat => s.heap.size ≤ q) (ex 5 0) := ⟨hX5, hb5, hA5⟩
      have C6 := hC _ (rvSx6 h6 (rv_any _) (rv_any _) (rv_any _) (rv_any _) (rv_any _))
      exact rvH_run C6 rvHd_six (rvH_and C6 (rvOp_all hC h6 (rvEnds_ok hC h6 fin) h7 hl hPx))
    · have hlt : L < 6 := by omega
      exact rvH_run C (rvOk_ok (List.all_eq_true.mp rvHd_few L (List.mem_range.mpr hlt))) (fin rvAl0 rvAw0 132 19068 (by decide) (by decide))
  have hg := rvRun_ok C rvBase_ok (fun _ _ => rfl) rvM_all (fun j as aw r hj h => rvExec_ok rvBase_ok rvM_all rvT_all rvOrc1_ok 100000 7 j as aw r hj h) rvT_L (Nat.le_refl 2048) (Nat.le_refl 600002) (Nat.le_refl 7302232) (Nat.le_refl 84000) k23 100 0 _ [] [] 0 0 rv_made
  rw [lg_entry_eq]
  refine hg [] s.heap [] _ [] ⟨trivial, fun k hk => ?_⟩ (rvLo_entry (as := [.inr (5, 0)]) ⟨?_, trivial⟩ (by decide)) trivial (fun k q hk => by simp at hk) ⟨(fun i j p q hi _ _ => by simp at hi), (fun k q hk => by simp at hk)⟩ va_S.rf
  · rw [h99] at hk
    omega
  · show Value.ref b = .ref (ex 5 0)
    rw [h5]
set_option maxHeartbeats 4000000 in
theorem lw_walk (l : Launch) (hflags : l.flags = flags0) (b : Addr) (xs : List Int32) : MetFree l x (headSpec (Jvm.Cond.code x code maxLocals ret :: tables_1) room_1) (lw_P b xs) (fun _ _ _ _ _ => True) lw_Q := by
  refine MetFree.of_bodyS (code := code) (maxLocals := maxLocals) (ret := ret) (by decide) ?_ ?_
  · intro args s m h hn
    obtain ⟨meth, c, h1, h2, h3, h4, h5, h6, -, -⟩ := Cond.code_spec hn (atoms_spec (ws := Jvm.Cond.code x code maxLocals ret :: tables_1) h _ List.mem_cons_self)
    exact ⟨meth, c, h1, h2, h3, h4, h5, h6⟩
  · intro p e s m args below meth c s₁ B hml0 hP _
    obtain ⟨rfl, hx, hbd, hgv⟩ := hP
    obtain ⟨scr, harrAt, hlist, hof, hsmall⟩ := hx
    obtain ⟨hcb, hkn, -, -⟩ := State.arrayAt?_spec harrAt
    have hown : s.vm.findClass R_law = some m.cls := findClass_of_methodNamed B.named
    have hts0 : ∀ c ∈ (Jvm.Cond.code x code maxLocals ret :: tables_1), c.before #[Value.ref b] s = true := atoms_spec (ws := Jvm.Cond.code x code maxLocals ret :: tables_1) B.pre
    have hts : ∀ w ∈ lw_tbl, w.before #[Value.ref b] s = true := k2_hts_sels lw_privs (fun w hw => hts0 w (List.mem_cons_of_mem _ hw)) lw_privs_ok
    have hml : c.maxLocals = 7 := B.maxLocals_eq (hts0 _ List.mem_cons_self)
    have X₀ : Stand p l e room_1 s m #[Value.ref b] below meth c s₁ [] 0 0 := Stand.of_body B
    have hh0 : s₁.heap = s.heap := by rw [B.state]; rfl
    have hsz : scr.slots.size = xs.length := by rw [← Array.length_toList, hlist, List.length_map]
    have hval : ∀ j : Nat, j < xs.length → scr.slots[j]? = some (.int (xs.getD j 0)) := fun j hj => by
      rw [← Array.getElem?_toList, hlist]
      simp [hj]
    have hbl : b < s.heap.size := (Array.getElem?_eq_some_iff.mp hcb).1
    have hX : va_X b xs.length (fun j => xs.getD j 0) s s.heap := ⟨scr, hcb, hof, hkn, hsz, hval⟩
    have K : W p l e room_1 s m #[Value.ref b] below meth c s₁.heap [] 0 0 (lw_Z below #[Value.ref b] s) (entryFrame m ([Value.ref b] : List Value).toArray 7) := by
      rw [hh0]
      exact whole_start l hflags hbd ⟨B.exec, B.bytes, B.returns, hml, hown, hts, hX, hbl, B.notSynchronized, hgv⟩
    obtain ⟨t, a1, o, b1, b2, b3⟩ := K s₁ rfl X₀
    exact ⟨t, o, a1, b1, b2, b3⟩
theorem lw_pre_spec {args : Array Value} {s : State} (h : (Jvm.Cond.and given_1 narrow_1).before args s = true) (hr : rest_1_c.before args s = true) : ∃ (b : Addr) (xs : List Int32), lw_P b xs args s := by
  have hs := flat_of_before _ h
  have hq := flat_of_before _ hr
  have hc : (Cond.count 1).before args s = true := hs _ (by decide +kernel)
  have harr : (Cond.arrayOf (.arg 0) .int).before args s = true := hs _ (by decide +kernel)
  have hle : (Cond.le (.length (.arg 0)) (.int 6)).before args s = true := hs _ (by decide +kernel)
  have hlen : (Cond.isInt (.length (.arg 0))).before args s = true := hq _ (by decide +kernel)
  have hall : (Cond.all (.arg 0) (.isInt (.elem (.arg 0) (.index 0)))).before args s = true := hq _ (by decide +kernel)
  obtain ⟨b, xs, hb, hx⟩ := State.ints_of_pre rfl harr hlen hall
  have hsm : xs.length < 2 ^ 31 := hx.choose_spec.2.2.2
  have hev : (Term.length (.arg 0)).eval args s none [] s = some (.int xs.length.toInt32) := hx.length_eval hb
  have hv := Cond.le_ints hev (show (Term.int 6).eval args s none [] s = some (.int 6) from rfl)
  have hd : xs.length.toInt32 ≤ 6 := by
    simpa [Cond.before, Cond.holds, hv] using hle
  have hN : xs.length ≤ 6 := (Int32.ofNat_le_ofNat hsm (by decide)).mp (show Int32.ofNat xs.length ≤ Int32.ofNat 6 from hd)
  exact ⟨b, xs, Cond.one_arg hc (show args[0]? = some (.ref b) from hb), hx, hN, h⟩
theorem lw_comes (l : Launch) (hflags : l.flags = flags0) : Comes l x (Jvm.Cond.code x code maxLocals ret :: tables_1) room_1 (fun tb e args s => Calls_1 tb e args s ∧ rest_1 tb e args s ∧ Pre_1 tb e args s)
    (fun _ _ args s o t => lw_Q args s o t) := by
  intro p e ha hc hk s m args below hf hfit hheap happ hpre
  obtain ⟨b, xs, hP⟩ := lw_pre_spec hpre.2.2 hpre.2.1
  obtain ⟨k, o, h1, h2, h3, hQ⟩ := lw_walk l hflags b xs p e ha hc hk s m args below hf ((Spec.applies_iff_loose hf).mp happ).1 hP trivial
  exact ⟨k, o, h1, h2, h3, hQ⟩
theorem lw_frame {s t : State} {o : Outcome} {args : Array Value} (h : Framed s o t [] 600002 7302232) :
    Framed s o t (fieldLocs frame_1_writes args s ++ arrayLocs frame_1_arrays args s ++ staticLocs frame_1_statics s) 600002 7302232 := h
theorem lw_limb (L : Cond) (hL : ∀ (args : Array Value) (s t : State), L.after args s (.returned (some (.int 1))) t = true) :
    ArmFor flags0 classFile x code maxLocals ret World_1 tables_1 room_1 Calls_1 rest_1 Pre_1
      (fun tb e a s o t => postC L tb e a s o t ∧ Framed s o t (fieldLocs frame_1_writes a s ++ arrayLocs frame_1_arrays a s ++ staticLocs frame_1_statics s) 600002 7302232) := by
  intro l hflags _ _ p e ha hc hk s m args below hf hfit hheap happ hpre
  obtain ⟨k, o, h1, h2, h3, rfl, hF⟩ := lw_comes l hflags p e ha hc hk s m args below hf hfit hheap happ hpre
  exact ⟨k, _, h1, h2, h3, hL args s _, lw_frame hF⟩
theorem i_vc : Claimed_1_1 ∧ Claimed_1_2 := ⟨lw_limb limb_1_1 (fun args s t => by simp [limb_1_1, Cond.after, Cond.holds, Cond.value]), lw_limb limb_1_2 (fun args s t => Cond.after_iff.mpr (by
  first | (rw [show limb_1_2 = Cond.eq .result (.int 1) from rfl, Cond.eq_ints (x := 1) (y := 1) rfl rfl]; simp; done) | (simp [limb_1_2, Cond.value, Term.eval]; done)))⟩
