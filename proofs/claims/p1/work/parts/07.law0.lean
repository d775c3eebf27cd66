/-! THE CLAIM OUT OF ONE WALK OF THE LAW'S BODY. Your part is whole_start (and what it stands on); all else here is the same for every law, but numbers. -/
def R_law : String := "OboeDistrictLaw"
def lw_P (b : Addr) (xs : List Int32) (args : Array Value) (s : State) : Prop := args = #[.ref b] ∧ s.IntsAt b xs ∧ xs.length ≤ 6 ∧ (Jvm.Cond.and given_1 narrow_1).before args s = true
def lw_Q (_ : Array Value) (s : State) (o : Outcome) (t : State) : Prop := o = .returned (some (.int 1)) ∧ Framed s o t [] 600002 7302232
def lw_Z (below : List Frame) (a : Array Value) (s : State) : State → Prop := fun t => ∃ o, t.status = .running ∧ Ended t below o ∧ lw_Q a s o t
/-- the law's own end, with 1 on the stack, nothing written that was there before, its room as the claim has it -/
theorem lw_ret {p : Program} {l : Launch} {e : Env} {s : State} {m : MethodId} {below : List Frame} {meth : Method} {c : Code} {b : Nat} (hx : p.tables.exec = Jvm.exec) (hb : c.code = code) (hr : meth.sig.returnType = ret) (hlocks : meth.locks = false) {pc : Nat} {H : Heap} {ls : Array Slot} (hdg : decode code pc = .ok (.ireturn, 1)) : W p l e room_1 s m #[Value.ref b] below meth c H [] 600002 7302232 (lw_Z below #[Value.ref b] s) (F0 m pc ls [.int 1]) := by
  intro T hT X
  obtain ⟨fs, hret, hrun, hended, hW, hframe⟩ := X.leave (v := some (.int 1)) (hlocks := hlocks) (fun h => by rw [hr] at h; cases h)
  have hmeth' : T.vm.method? m = some meth := X.method'
  refine ⟨T.setFrames fs, ?_, .returned (some (.int 1)), hrun, hended, rfl, ⟨_, rfl⟩, hW, hframe⟩
  jvm_step X.here [X.here.top, hx, hb, hdg, hmeth', hr, ret, narrow_b1]
  (try refine ⟨rfl, ?_⟩); (try refine ⟨rfl, ?_⟩)
  first | (intro acts; rw [hret _ acts rfl rfl rfl]) | rw [hret _ _ rfl rfl rfl]
  exact Steps.refl _
/-- what holds at the law's entry: the machine, the code, the tables' words (any of lw_tbl by 'hts w (by decide +kernel)'), the script of L ints xs at the cell b, what the Statement gives of the start (any of its parts by flat_of_before) -/
def lw_At (p : Program) (s : State) (m : MethodId) (meth : Method) (c : Code) (b L : Nat) (xs : Nat → Int32) : Prop :=
  p.tables.exec = Jvm.exec ∧ c.code = code ∧ meth.sig.returnType = ret ∧ c.maxLocals = 7 ∧ s.vm.findClass R_law = some m.cls ∧ (∀ w ∈ lw_tbl, w.before #[Value.ref b] s = true) ∧ va_X b L xs s s.heap ∧ b < s.heap.size ∧ meth.locks = false ∧ (Jvm.Cond.and given_1 narrow_1).before #[Value.ref b] s = true
def rvFl (i : Nat) (w : Cond) : Bool := decide ((flatC (Jvm.Cond.and given_1 narrow_1))[i]? = some w)
theorem rvFl_ok {i : Nat} {w : Cond} {args : Array Value} {s : State} (h : rvFl i w = true) (hg : (Jvm.Cond.and given_1 narrow_1).before args s = true) : w.before args s = true := flat_of_before _ hg w (List.mem_of_getElem? (of_decide_eq_true h))
abbrev rvTm : Term := .string RX9 32
theorem rv_iex : rvFl 69 (.exactly rvTm "java/lang/String") = true := by decide +kernel
theorem rv_ico : rvFl 70 (.eq (.field rvTm "java/lang/String" "coder" "B") (.int 0)) = true := by decide +kernel
theorem rv_iar : rvFl 71 (.arrayOf (.field rvTm "java/lang/String" "value" "[B") .byte) = true := by decide +kernel
theorem rv_ile : rvFl 72 (.eq (.length (.field rvTm "java/lang/String" "value" "[B")) (.int (Int32.ofNat rvTxt.length))) = true := by decide +kernel
theorem rv_iel_0 : (List.range' 0 32).all (fun j => rvFl (73 + j) (.eq (.elem (.field rvTm "java/lang/String" "value" "[B") (.int (Int32.ofNat j))) (.int ((rvTxt.map Int32.ofInt).getD j 0)))) = true := by decide +kernel
theorem rv_iel_32 : (List.range' 32 32).all (fun j => rvFl (73 + j) (.eq (.elem (.field rvTm "java/lang/String" "value" "[B") (.int (Int32.ofNat j))) (.int ((rvTxt.map Int32.ofInt).getD j 0)))) = true := by decide +kernel
theorem rv_iel_64 : (List.range' 64 32).all (fun j => rvFl (73 + j) (.eq (.elem (.field rvTm "java/lang/String" "value" "[B") (.int (Int32.ofNat j))) (.int ((rvTxt.map Int32.ofInt).getD j 0)))) = true := by decide +kernel
theorem rv_iel_96 : (List.range' 96 27).all (fun j => rvFl (73 + j) (.eq (.elem (.field rvTm "java/lang/String" "value" "[B") (.int (Int32.ofNat j))) (.int ((rvTxt.map Int32.ofInt).getD j 0)))) = true := by decide +kernel
theorem rv_iel (j : Nat) (h : j < 123) : rvFl (73 + j) (.eq (.elem (.field rvTm "java/lang/String" "value" "[B") (.int (Int32.ofNat j))) (.int ((rvTxt.map Int32.ofInt).getD j 0))) = true := by
  by_cases h0 : j < 32
  · exact List.all_eq_true.mp rv_iel_0 j (List.mem_range'_1.mpr ⟨by omega, by omega⟩)
  by_cases h32 : j < 64
  · exact List.all_eq_true.mp rv_iel_32 j (List.mem_range'_1.mpr ⟨by omega, by omega⟩)
  by_cases h64 : j < 96
  · exact List.all_eq_true.mp rv_iel_64 j (List.mem_range'_1.mpr ⟨by omega, by omega⟩)
  by_cases h96 : j < 123
  · exact List.all_eq_true.mp rv_iel_96 j (List.mem_range'_1.mpr ⟨by omega, by omega⟩)
  omega
theorem rv_icp : rvFl 4 (.eq (.static "java/lang/String" "COMPACT_STRINGS" "Z") (.int 1)) = true := by decide +kernel
theorem rv_isi : rvFl 5 (.isRef (.static "jdk/internal/util/Preconditions" "SIOOBE_FORMATTER" "Ljava/util/function/BiFunction;")) = true := by decide +kernel
theorem rv_w1 : Cond.stringRef RX9 32 rvText ∈ lw_tbl := List.mem_of_getElem? (i := 159) (by decide +kernel)
theorem rv_w2 : Cond.laysStatic "java/lang/String" "COMPACT_STRINGS" "Z" ∈ lw_tbl := List.mem_of_getElem? (i := 169) (by decide +kernel)
theorem rv_w3 : Cond.laysStatic "jdk/internal/util/Preconditions" "SIOOBE_FORMATTER" "Ljava/util/function/BiFunction;" ∈ lw_tbl := List.mem_of_getElem? (i := 185) (by decide +kernel)
theorem rv_w4 : Cond.initialized "java/lang/String" ∈ lw_tbl := List.mem_of_getElem? (i := 122) (by decide +kernel)
theorem rv_w5 : Cond.initialized "jdk/internal/util/Preconditions" ∈ lw_tbl := List.mem_of_getElem? (i := 124) (by decide +kernel)
theorem rv_w6 : Cond.arrayOver (.object RX2) ∈ lw_tbl := List.mem_of_getElem? (i := 273) (by decide +kernel)
theorem rv_w7 : Cond.arrayOver (.object RX6) ∈ lw_tbl := List.mem_of_getElem? (i := 275) (by decide +kernel)
theorem rv_a0 : Cond.arrayClass .int ∈ lw_tbl := List.mem_of_getElem? (i := 271) (by decide +kernel)
theorem rv_a1 : Cond.arrayClass .byte ∈ lw_tbl := List.mem_of_getElem? (i := 269) (by decide +kernel)
theorem rv_a2 : Cond.arrayClass .boolean ∈ lw_tbl := List.mem_of_getElem? (i := 292) (by decide +kernel)
theorem rv_a3 : Cond.arrayClass .long ∈ lw_tbl := List.mem_of_getElem? (i := 270) (by decide +kernel)
theorem rv_arr {args : Array Value} {s : State} {ty : FieldType} (h : (Cond.arrayClass ty).before args s = true) (hp : ∀ C, ty ≠ .object C) : ∃ cA, ArrOfT s cA ty ∧ va_RA s cA ty := by
  obtain ⟨cA, kA, comp, h1, h2, h3⟩ := Cond.arrayClass_spec h
  refine ⟨cA, fun n z => ⟨fun k h => (by cases h), kA, h2, comp, h3⟩, ?_⟩
  cases ty <;> first | exact h1 | exact absurd rfl (hp _)
theorem rv_arq {args : Array Value} {s : State} {C : String} (h : (Cond.arrayOver (.object C)).before args s = true) : ∃ cA, ArrOfT s cA (.object C) ∧ va_RA s cA (.object C) := by
  obtain ⟨comp, cA, kA, h1, -, h2, h3, h4⟩ := Cond.arrayOver_spec h
  exact ⟨cA, fun n z => ⟨fun k h => (by cases h), kA, h2, comp, h3⟩, kA, comp, h2, h3, h1, h4⟩
set_option maxHeartbeats 4000000 in
set_option maxRecDepth 100000 in
/-- the law's entry -/
theorem rv_start {p : Program} {s : State} {m : MethodId} {meth : Method} {c : Code} {b L : Nat} {xs : Nat → Int32} (C0 : lw_At p s m meth c b L xs) : ∃ (D : va_G) (cT : Nat → ClassId) (ex : Nat → Nat → Nat), cT 99 = 0 ∧ ex 5 0 = b ∧ ex 7 0 = (xs 1).toInt.toNat ∧ ∀ sc : List (Int × Int), rvSx ex (fun q : Nat => s.heap.size ≤ q) s sc → rvCx p s m #[Value.ref b] meth c code RL 7 D cT ex (fun q : Nat => s.heap.size ≤ q) false sc := by
  obtain ⟨hx, hb, hr, hml, hown, hts, hX, hbl, hlocks, hgv⟩ := C0
  have hA : ∀ a : Nat, a < s.heap.size → ¬ (fun q : Nat => s.heap.size ≤ q) a := fun a h1 h2 => absurd h2 (Nat.not_le.mpr h1)
  have hwl : ∀ w ∈ rvWl, w.before #[Value.ref b] s = true := fun w h => hts w (List.mem_filter.mp h).1
  -- the classes
  have hcls : ∀ k : Nat, ∃ q : ClassId × (Nat → Nat), k < 13 → u_Kn s (rvCn k) (rvFt k) (rvNf k) q.1 q.2 := by
    intro k
    by_cases hk : k < 13
    · obtain ⟨⟨h1, h2, h3, h4⟩, -, -⟩ := rvCl k hk
      obtain ⟨cC, iS, h5⟩ := u_known (C := rvCn k) (T := rvFt k) (N := rvNf k) (n := rvNf k) hwl h3 (hwl _ h1)
      exact ⟨(cC, iS), fun _ => h5⟩
    · exact ⟨(0, fun _ => 0), fun h => absurd h hk⟩
  obtain ⟨dc, hdc⟩ := Classical.axiomOfChoice hcls
  obtain ⟨c0, a0, r0⟩ := rv_arr (hts _ rv_a0) (fun C q => by cases q)
  obtain ⟨c1, a1, r1⟩ := rv_arr (hts _ rv_a1) (fun C q => by cases q)
  obtain ⟨c2, a2, r2⟩ := rv_arr (hts _ rv_a2) (fun C q => by cases q)
  obtain ⟨c3, a3, r3⟩ := rv_arr (hts _ rv_a3) (fun C q => by cases q)
  obtain ⟨c4, a4, r4⟩ := rv_arq (hts _ rv_w6)
  obtain ⟨c5, a5, r5⟩ := rv_arq (hts _ rv_w7)
  obtain ⟨adK, adV, hSt, hev⟩ := vk_Sof (args := #[Value.ref b]) (s := s) (N := 1) (tm := fun _ => rvTm) (len := [rvTxt.length]) (byt := [rvTxt.map Int32.ofInt]) (A := fun q : Nat => s.heap.size ≤ q)
    (fun i hi => by
      have : i = 0 := by omega
      subst this
      show rvTxt.length < 2 ^ 31
      decide +kernel)
    (fun i hi => rvFl_ok rv_iex hgv) (fun i hi => rvFl_ok rv_ico hgv) (fun i hi => rvFl_ok rv_iar hgv)
    (fun i hi => by
      have : i = 0 := by omega
      subst this
      exact rvFl_ok rv_ile hgv)
    (fun i hi j hj => by
      have : i = 0 := by omega
      subst this
      have hj : j < rvTxt.length := hj
      exact rvFl_ok (rv_iel j (Nat.lt_of_lt_of_eq hj (by decide +kernel))) hgv)
    (fun i j hi hj hij => absurd (by omega) hij) hA
  refine ⟨(fun k => (dc k).1, fun k => (dc k).2), fun n => match n with
    | 0 => c0
    | 1 => c1
    | 2 => c2
    | 3 => c3
    | 4 => c4
    | 5 => c5
    | _ => 0, fun t k => bif Nat.beq t 3 then adK 0 else bif Nat.beq t 4 then adV 0 else bif Nat.beq t 7 then (xs 1).toInt.toNat else b, rfl, rfl, rfl, fun sc hsc => ⟨hx, hb, hml, hown, hwl, ⟨fun k q hq => ?_, fun k q hq => ?_⟩, fun q h => h, ⟨fun w hw => ?_, va_AO.of (hts _ rv_w6), va_AO.of (hts _ rv_w7), vk_R.of (A := #[Value.ref b]) (hts _ rv_w1) (hev 0 (by decide)), ?_, va_Zof (hts _ rv_w2) (hts _ rv_w4) (va_eqi (rvFl_ok rv_icp hgv)) hA, va_Zqof (hts _ rv_w3) (hts _ rv_w5) (rvFl_ok rv_isi hgv) hA⟩, fun q => (by cases q), hsc⟩⟩
  · by_cases hk : k < 13
    · obtain ⟨-, h2, -⟩ := rvCl k hk
      have e1 := Option.some.inj (h2.symm.trans hq)
      rw [← e1]
      exact hdc k hk
    · rw [rvCl_none hk] at hq
      cases hq
  · match k, hq with
    | 0, hq => cases hq; exact ⟨a0, r0⟩
    | 1, hq => cases hq; exact ⟨a1, r1⟩
    | 2, hq => cases hq; exact ⟨a2, r2⟩
    | 3, hq => cases hq; exact ⟨a3, r3⟩
    | 4, hq => cases hq; exact ⟨a4, r4⟩
    | 5, hq => cases hq; exact ⟨a5, r5⟩
    | n + 6, hq => cases hq
  · obtain ⟨h1, h2⟩ := List.mem_filter.mp hw
    have h3 := hts w h1
    cases w <;> first | exact va_Nw.of rfl h3 | cases h2
  · refine ⟨fun i hi => ?_, fun i j hi hj _ => by omega⟩
    have : i = 0 := by omega
    subst this
    exact hSt.1 0 (by decide)
