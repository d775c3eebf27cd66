/-! The law's entry: the machine, six texts, two static rows. -/
def rvFl (i : Nat) (w : Cond) : Bool := decide ((flatC (Jvm.Cond.and given_1 narrow_1))[i]? = some w)
theorem rvFl_ok {i : Nat} {w : Cond} {args : Array Value} {s : State} (h : rvFl i w = true) (hg : (Jvm.Cond.and given_1 narrow_1).before args s = true) : w.before args s = true := flat_of_before _ hg w (List.mem_of_getElem? (of_decide_eq_true h))
abbrev rvTm (j : Nat) : Term := .string (rvTo j) (rvTi j)
abbrev rvTv (j : Nat) : Term := .field (rvTm j) "java/lang/String" "value" "[B"
abbrev rvTe (j k : Nat) : Cond := .eq (.elem (rvTv j) (.int (Int32.ofNat k))) (.int (((rvTxt j).map Int32.ofInt).getD k 0))
def rvFb (j : Nat) : Nat := [69, 196, 209, 224, 236, 244].getD j 0
def rvFw (j : Nat) : Nat := [159, 1063, 1071, 1072, 1073, 1074].getD j 0
theorem rv_iex : (List.range 6).all (fun j => rvFl (rvFb j) (.exactly (rvTm j) "java/lang/String")) = true := by decide +kernel
theorem rv_ico : (List.range 6).all (fun j => rvFl (rvFb j + 1) (.eq (.field (rvTm j) "java/lang/String" "coder" "B") (.int 0))) = true := by decide +kernel
theorem rv_iar : (List.range 6).all (fun j => rvFl (rvFb j + 2) (.arrayOf (rvTv j) .byte)) = true := by decide +kernel
theorem rv_ile : (List.range 6).all (fun j => rvFl (rvFb j + 3) (.eq (.length (rvTv j)) (.int (Int32.ofNat (rvTxt j).length)))) = true := by decide +kernel
theorem rv_iel_0_0 : (List.range' 0 32).all (fun k => rvFl (rvFb 0 + 4 + k) (rvTe 0 k)) = true := by decide +kernel
theorem rv_iel_0_32 : (List.range' 32 32).all (fun k => rvFl (rvFb 0 + 4 + k) (rvTe 0 k)) = true := by decide +kernel
theorem rv_iel_0_64 : (List.range' 64 32).all (fun k => rvFl (rvFb 0 + 4 + k) (rvTe 0 k)) = true := by decide +kernel
theorem rv_iel_0_96 : (List.range' 96 27).all (fun k => rvFl (rvFb 0 + 4 + k) (rvTe 0 k)) = true := by decide +kernel
theorem rv_iel_1_0 : (List.range' 0 8).all (fun k => rvFl (rvFb 1 + 4 + k) (rvTe 1 k)) = true := by decide +kernel
theorem rv_iel_2_0 : (List.range' 0 9).all (fun k => rvFl (rvFb 2 + 4 + k) (rvTe 2 k)) = true := by decide +kernel
theorem rv_iel_3_0 : (List.range' 0 5).all (fun k => rvFl (rvFb 3 + 4 + k) (rvTe 3 k)) = true := by decide +kernel
theorem rv_iel_5_0 : (List.range' 0 5).all (fun k => rvFl (rvFb 5 + 4 + k) (rvTe 5 k)) = true := by decide +kernel
theorem rv_len_0 : (rvTxt 0).length = 123 := by decide +kernel
theorem rv_el_0 (k : Nat) (h : k < (rvTxt 0).length) : rvFl (rvFb 0 + 4 + k) (rvTe 0 k) = true := by
  rw [rv_len_0] at h
  by_cases h0 : k < 32
  · exact List.all_eq_true.mp rv_iel_0_0 k (List.mem_range'_1.mpr ⟨by omega, by omega⟩)
  by_cases h32 : k < 64
  · exact List.all_eq_true.mp rv_iel_0_32 k (List.mem_range'_1.mpr ⟨by omega, by omega⟩)
  by_cases h64 : k < 96
  · exact List.all_eq_true.mp rv_iel_0_64 k (List.mem_range'_1.mpr ⟨by omega, by omega⟩)
  by_cases h96 : k < 123
  · exact List.all_eq_true.mp rv_iel_0_96 k (List.mem_range'_1.mpr ⟨by omega, by omega⟩)
  omega
theorem rv_len_1 : (rvTxt 1).length = 8 := by decide +kernel
theorem rv_el_1 (k : Nat) (h : k < (rvTxt 1).length) : rvFl (rvFb 1 + 4 + k) (rvTe 1 k) = true := by
  rw [rv_len_1] at h
  by_cases h0 : k < 8
  · exact List.all_eq_true.mp rv_iel_1_0 k (List.mem_range'_1.mpr ⟨by omega, by omega⟩)
  omega
theorem rv_len_2 : (rvTxt 2).length = 9 := by decide +kernel
theorem rv_el_2 (k : Nat) (h : k < (rvTxt 2).length) : rvFl (rvFb 2 + 4 + k) (rvTe 2 k) = true := by
  rw [rv_len_2] at h
  by_cases h0 : k < 9
  · exact List.all_eq_true.mp rv_iel_2_0 k (List.mem_range'_1.mpr ⟨by omega, by omega⟩)
  omega
theorem rv_len_3 : (rvTxt 3).length = 5 := by decide +kernel
theorem rv_el_3 (k : Nat) (h : k < (rvTxt 3).length) : rvFl (rvFb 3 + 4 + k) (rvTe 3 k) = true := by
  rw [rv_len_3] at h
  by_cases h0 : k < 5
  · exact List.all_eq_true.mp rv_iel_3_0 k (List.mem_range'_1.mpr ⟨by omega, by omega⟩)
  omega
theorem rv_len_4 : (rvTxt 4).length = 0 := by decide +kernel
theorem rv_el_4 (k : Nat) (h : k < (rvTxt 4).length) : rvFl (rvFb 4 + 4 + k) (rvTe 4 k) = true := by
  rw [rv_len_4] at h
  omega
theorem rv_len_5 : (rvTxt 5).length = 5 := by decide +kernel
theorem rv_el_5 (k : Nat) (h : k < (rvTxt 5).length) : rvFl (rvFb 5 + 4 + k) (rvTe 5 k) = true := by
  rw [rv_len_5] at h
  by_cases h0 : k < 5
  · exact List.all_eq_true.mp rv_iel_5_0 k (List.mem_range'_1.mpr ⟨by omega, by omega⟩)
  omega
theorem rv_iel (j : Nat) (hj : j < 6) (k : Nat) (h : k < (rvTxt j).length) : rvFl (rvFb j + 4 + k) (rvTe j k) = true := by
  match j, hj with
  | 0, _ => exact rv_el_0 k h
  | 1, _ => exact rv_el_1 k h
  | 2, _ => exact rv_el_2 k h
  | 3, _ => exact rv_el_3 k h
  | 4, _ => exact rv_el_4 k h
  | 5, _ => exact rv_el_5 k h
  | n + 6, hj => exact absurd hj (by omega)
theorem rv_icp : rvFl 4 (.eq (.static "java/lang/String" "COMPACT_STRINGS" "Z") (.int 1)) = true := by decide +kernel
theorem rv_isi : rvFl 5 (.isRef (.static "jdk/internal/util/Preconditions" "SIOOBE_FORMATTER" "Ljava/util/function/BiFunction;")) = true := by decide +kernel
abbrev rvSt (j : Nat) : Term := .static "OboeDistrict" (rvSn j) "[I"
def rvFs (j : Nat) : Nat := [10, 17].getD j 0
theorem rv_sar : (List.range 2).all (fun j => rvFl (rvFs j) (.arrayOf (rvSt j) .int)) = true := by decide +kernel
theorem rv_sle : (List.range 2).all (fun j => rvFl (rvFs j + 1) (.eq (.length (rvSt j)) (.int (Int32.ofNat (rvTxt (10 + j)).length)))) = true := by decide +kernel
theorem rv_sel : (List.range 2).all (fun j => (List.range (rvTxt (10 + j)).length).all (fun k => rvFl (rvFs j + 2 + k) (.eq (.elem (rvSt j) (.int (Int32.ofNat k))) (.int (Int32.ofInt ((rvTxt (10 + j)).getD k 0)))))) = true := by decide +kernel
theorem rv_sne : (List.range 2).all (fun j => rvFl (317 + j) (.not (.eq (.arg 0) (rvSt j)))) = true := by decide +kernel
def rvGt (i : Nat) (w : Cond) : Bool := decide (lw_tbl[i]? = some w)
theorem rvGt_ok {i : Nat} {w : Cond} (h : rvGt i w = true) : w ∈ lw_tbl := List.mem_of_getElem? (of_decide_eq_true h)
theorem rv_w1 : (List.range 6).all (fun j => rvGt (rvFw j) (.stringRef (rvTo j) (rvTi j) (rvTs j))) = true := by decide +kernel
theorem rv_w2 : rvGt 169 (.laysStatic "java/lang/String" "COMPACT_STRINGS" "Z") = true := by decide +kernel
theorem rv_w3 : rvGt 185 (.laysStatic "jdk/internal/util/Preconditions" "SIOOBE_FORMATTER" "Ljava/util/function/BiFunction;") = true := by decide +kernel
theorem rv_w4 : rvGt 122 (.initialized "java/lang/String") = true := by decide +kernel
theorem rv_w5 : rvGt 124 (.initialized "jdk/internal/util/Preconditions") = true := by decide +kernel
theorem rv_w6 : rvGt 273 (.arrayOver (.object RX2)) = true := by decide +kernel
theorem rv_w7 : rvGt 275 (.arrayOver (.object RX6)) = true := by decide +kernel
theorem rv_a0 : rvGt 271 (.arrayClass .int) = true := by decide +kernel
theorem rv_a1 : rvGt 269 (.arrayClass .byte) = true := by decide +kernel
theorem rv_a2 : rvGt 292 (.arrayClass .boolean) = true := by decide +kernel
theorem rv_a3 : rvGt 270 (.arrayClass .long) = true := by decide +kernel
theorem rv_s0 : rvGt 706 (.laysStatic "OboeDistrict" "MOST_OF" "[I") = true := by decide +kernel
theorem rv_s1 : rvGt 1206 (.laysStatic "OboeDistrict" "LACKS_BIT" "[I") = true := by decide +kernel
theorem rv_s2 : rvGt 120 (.initialized "OboeDistrict") = true := by decide +kernel
theorem rv_arr {args : Array Value} {s : State} {ty : FieldType} (h : (Cond.arrayClass ty).before args s = true) (hp : ∀ C, ty ≠ .object C) : ∃ cA, ArrOfT s cA ty ∧ va_RA s cA ty := by
  obtain ⟨cA, kA, comp, h1, h2, h3⟩ := Cond.arrayClass_spec h
  refine ⟨cA, fun n z => ⟨fun k h => (by cases h), kA, h2, comp, h3⟩, ?_⟩
  cases ty <;> first | exact h1 | exact absurd rfl (hp _)
theorem rv_arq {args : Array Value} {s : State} {C : String} (h : (Cond.arrayOver (.object C)).before args s = true) : ∃ cA, ArrOfT s cA (.object C) ∧ va_RA s cA (.object C) := by
  obtain ⟨comp, cA, kA, h1, -, h2, h3, h4⟩ := Cond.arrayOver_spec h
  exact ⟨cA, fun n z => ⟨fun k h => (by cases h), kA, h2, comp, h3⟩, kA, comp, h2, h3, h1, h4⟩
/-- a row of ints that a term names -/
theorem rv_Xof {args : Array Value} {s : State} {tm : Term} {N : Nat} {f : Nat → Int32} (hN : N < 2 ^ 31) (harr : (Cond.arrayOf tm .int).before args s = true) (hlen : (Cond.eq (.length tm) (.int (Int32.ofNat N))).before args s = true) (hel : ∀ j : Nat, j < N → (Cond.eq (.elem tm (.int (Int32.ofNat j))) (.int (f j))).before args s = true) : ∃ t : Nat, tm.eval args s none [] s = some (.ref t) ∧ va_X t N f s s.heap ∧ t < s.heap.size := by
  obtain ⟨t, ht, cell, h1, h2, h3, h4, h5, h6, -⟩ := va_Tof (f := fun j => .int (f j)) (A := fun _ => False) hN harr (va_eqt hlen) (fun j hj => va_eqt (hel j hj)) (fun _ _ h => h)
  refine ⟨t, ht, ⟨cell, h1, h2, h3, ?_, h6⟩, (Array.getElem?_eq_some_iff.mp h1).1⟩
  have hv := va_eqt hlen
  obtain ⟨b, cell2, hb, hat, -⟩ := Term.length_spec hv
  cases ht.symm.trans hb
  have hsz : cell2.slots.size < 2 ^ 31 := by
    simp only [Term.eval, ht, hat, Option.bind_eq_bind, Option.bind_some] at hv
    by_cases hlt : cell2.slots.size < 2147483648
    · exact hlt
    · simp [hlt] at hv
  obtain ⟨hc2, -⟩ := State.arrayAt?_spec hat
  cases h1.symm.trans hc2
  have e1 : (Int32.ofNat cell.slots.size).toInt = (Int32.ofNat N).toInt := congrArg Int32.toInt h5
  rw [Int32.toInt_ofNat_small hsz, Int32.toInt_ofNat_small hN] at e1
  omega
theorem rv_t31 : ∀ j, j < 12 → (rvTxt j).length < 2 ^ 31 := fun j hj => Nat.lt_trans (rvTxt_in j hj).1 (by decide)
set_option maxHeartbeats 4000000 in
set_option maxRecDepth 100000 in
/-- the law's entry -/
theorem rv_start {p : Program} {s : State} {m : MethodId} {meth : Method} {c : Code} {b L : Nat} {xs : Nat → Int32} (C0 : lw_At p s m meth c b L xs) : ∃ (D : va_G) (cT : Nat → ClassId) (ex : Nat → Nat → Nat), cT 99 = 0 ∧ ex 5 0 = b ∧ ∀ sc : List (Int × Int), rvSx ex (fun q : Nat => s.heap.size ≤ q) s sc → rvCx p s m #[Value.ref b] meth c code RL 7 D cT ex (fun q : Nat => s.heap.size ≤ q) false sc := by
  obtain ⟨hx, hb, hr, hml, hown, hts, hX, hbl, hlocks, hgv⟩ := C0
  have hA : ∀ a : Nat, a < s.heap.size → ¬ (fun q : Nat => s.heap.size ≤ q) a := fun a h1 h2 => absurd h2 (Nat.not_le.mpr h1)
  have hwl : ∀ w ∈ rvWl, w.before #[Value.ref b] s = true := fun w h => hts w (List.mem_filter.mp h).1
  have ht : ∀ {i : Nat} {w : Cond}, rvGt i w = true → w.before #[Value.ref b] s = true := fun h => hts _ (rvGt_ok h)
  -- the classes
  have hcls : ∀ k : Nat, ∃ q : ClassId × (Nat → Nat), k < 13 → u_Kn s (rvCn k) (rvFt k) (rvNf k) q.1 q.2 := by
    intro k
    by_cases hk : k < 13
    · obtain ⟨⟨h1, h2, h3, h4⟩, -, -⟩ := rvCl k hk
      obtain ⟨cC, iS, h5⟩ := u_known (C := rvCn k) (T := rvFt k) (N := rvNf k) (n := rvNf k) hwl h3 (hwl _ h1)
      exact ⟨(cC, iS), fun _ => h5⟩
    · exact ⟨(0, fun _ => 0), fun h => absurd h hk⟩
  obtain ⟨dc, hdc⟩ := Classical.axiomOfChoice hcls
  obtain ⟨c0, a0, r0⟩ := rv_arr (ht rv_a0) (fun C q => by cases q)
  obtain ⟨c1, a1, r1⟩ := rv_arr (ht rv_a1) (fun C q => by cases q)
  obtain ⟨c2, a2, r2⟩ := rv_arr (ht rv_a2) (fun C q => by cases q)
  obtain ⟨c3, a3, r3⟩ := rv_arr (ht rv_a3) (fun C q => by cases q)
  obtain ⟨c4, a4, r4⟩ := rv_arq (ht rv_w6)
  obtain ⟨c5, a5, r5⟩ := rv_arq (ht rv_w7)
  -- the texts
  have htx : ∀ j : Nat, ∃ q : Nat × Nat, j < 6 → vk_S 1 [(rvTxt j).length] [(rvTxt j).map Int32.ofInt] (fun _ => q.1) (fun _ => q.2) (fun q : Nat => s.heap.size ≤ q) s s.heap ∧ (rvTm j).eval #[Value.ref b] s none [] s = some (.ref q.1) := by
    intro j
    by_cases hj : j < 6
    · have hm : j ∈ List.range 6 := List.mem_range.mpr hj
      obtain ⟨adK, adV, hSt, hev⟩ := vk_Sof (args := #[Value.ref b]) (s := s) (N := 1) (tm := fun _ => rvTm j) (len := [(rvTxt j).length]) (byt := [(rvTxt j).map Int32.ofInt]) (A := fun q : Nat => s.heap.size ≤ q)
        (fun i hi => by
          have : i = 0 := by omega
          subst this
          exact rv_t31 j (by omega))
        (fun i hi => rvFl_ok (List.all_eq_true.mp rv_iex j hm) hgv) (fun i hi => rvFl_ok (List.all_eq_true.mp rv_ico j hm) hgv) (fun i hi => rvFl_ok (List.all_eq_true.mp rv_iar j hm) hgv)
        (fun i hi => by
          have : i = 0 := by omega
          subst this
          exact rvFl_ok (List.all_eq_true.mp rv_ile j hm) hgv)
        (fun i hi k hk => by
          have : i = 0 := by omega
          subst this
          exact rvFl_ok (rv_iel j hj k hk) hgv)
        (fun i j hi hj hij => absurd (by omega) hij) hA
      refine ⟨(adK 0, adV 0), fun _ => ⟨⟨fun i hi => ?_, fun i j hi hj _ => by omega⟩, hev 0 (by decide)⟩⟩
      have : i = 0 := by omega
      subst this
      exact hSt.1 0 (by decide)
    · exact ⟨(0, 0), fun h => absurd h hj⟩
  obtain ⟨tx, htx⟩ := Classical.axiomOfChoice htx
  -- the static rows
  have hsx : ∀ j : Nat, ∃ q : Nat, j < 2 → (rvSt j).eval #[Value.ref b] s none [] s = some (.ref q) ∧ va_X q (rvTxt (10 + j)).length (fun i => Int32.ofInt ((rvTxt (10 + j)).getD i 0)) s s.heap ∧ q < s.heap.size := by
    intro j
    by_cases hj : j < 2
    · have hm : j ∈ List.range 2 := List.mem_range.mpr hj
      obtain ⟨t, q1, q2, q3⟩ := rv_Xof (args := #[Value.ref b]) (s := s) (tm := rvSt j) (N := (rvTxt (10 + j)).length) (f := fun i => Int32.ofInt ((rvTxt (10 + j)).getD i 0)) (rv_t31 _ (by omega)) (rvFl_ok (List.all_eq_true.mp rv_sar j hm) hgv) (rvFl_ok (List.all_eq_true.mp rv_sle j hm) hgv) (fun k hk => rvFl_ok (List.all_eq_true.mp (List.all_eq_true.mp rv_sel j hm) k (List.mem_range.mpr hk)) hgv)
      exact ⟨t, fun _ => ⟨q1, q2, q3⟩⟩
    · exact ⟨0, fun h => absurd h hj⟩
  obtain ⟨sx, hsx⟩ := Classical.axiomOfChoice hsx
  refine ⟨(fun k => (dc k).1, fun k => (dc k).2), fun n => match n with
    | 0 => c0
    | 1 => c1
    | 2 => c2
    | 3 => c3
    | 4 => c4
    | 5 => c5
    | _ => 0, fun t k => bif Nat.beq t 3 then (tx k).1 else bif Nat.beq t 4 then (tx k).2 else bif Nat.beq t 10 then sx k else b, rfl, rfl, fun sc hsc => ⟨hx, hb, hml, hown, hwl, ⟨fun k q hq => ?_, fun k q hq => ?_⟩, fun q h => h, ⟨fun w hw => ?_, va_AO.of (ht rv_w6), va_AO.of (ht rv_w7), fun j hj => vk_R.of (A := #[Value.ref b]) (ht (List.all_eq_true.mp rv_w1 j (List.mem_range.mpr hj))) (htx j hj).2, fun j hj => (htx j hj).1, va_Zof (ht rv_w2) (ht rv_w4) (va_eqi (rvFl_ok rv_icp hgv)) hA, va_Zqof (ht rv_w3) (ht rv_w5) (rvFl_ok rv_isi hgv) hA, fun j hj => ⟨?_, (hsx j hj).2.1, (hsx j hj).2.2, hA _ (hsx j hj).2.2⟩⟩, fun q => (by cases q), hsc⟩⟩
  · by_cases hk : k < 13
    · obtain ⟨-, h2, -⟩ := rvCl k hk
      have e1 := Option.some.inj (h2.symm.trans hq)
      rw [← e1]
      exact hdc k hk
    · rw [rvCl_none hk] at hq
      cases hq
  · match k, hq with
    | 0, hq => cases hq; exact ⟨a0, r0⟩
    | 1, hq => cases hq; exact ⟨a1, r1⟩
    | 2, hq => cases hq; exact ⟨a2, r2⟩
    | 3, hq => cases hq; exact ⟨a3, r3⟩
    | 4, hq => cases hq; exact ⟨a4, r4⟩
    | 5, hq => cases hq; exact ⟨a5, r5⟩
    | n + 6, hq => cases hq
  · obtain ⟨h1, h2⟩ := List.mem_filter.mp hw
    have h3 := hts w h1
    cases w <;> first | exact va_Nw.of rfl h3 | cases h2
  · match j, hj with
    | 0, hj => exact va_Zref (ht rv_s0) (ht rv_s2) (hsx 0 hj).1 hA
    | 1, hj => exact va_Zref (ht rv_s1) (ht rv_s2) (hsx 1 hj).1 hA
    | n + 2, hj => exact absurd hj (by omega)
