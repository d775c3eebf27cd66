/-! 'throw new NoSuchElementException(..)', at 8 and at 156 of OboeDistrict.person. -/
theorem rvPd_8 : decode cX11_person 8 = .ok (.new 173, 3) := by decide +kernel
theorem rvPd_11 : decode cX11_person 11 = .ok (.dup, 1) := by decide +kernel
theorem rvPd_12 : decode cX11_person 12 = .ok (.ldc 175, 2) := by decide +kernel
theorem rvPd_14 : decode cX11_person 14 = .ok (.invokespecial 177, 3) := by decide +kernel
theorem rvPd_17 : decode cX11_person 17 = .ok (.athrow, 1) := by decide +kernel
theorem rvPd_156 : decode cX11_person 156 = .ok (.new 173, 3) := by decide +kernel
theorem rvPd_159 : decode cX11_person 159 = .ok (.dup, 1) := by decide +kernel
theorem rvPd_160 : decode cX11_person 160 = .ok (.ldc 201, 2) := by decide +kernel
theorem rvPd_162 : decode cX11_person 162 = .ok (.invokespecial 177, 3) := by decide +kernel
theorem rvPd_165 : decode cX11_person 165 = .ok (.athrow, 1) := by decide +kernel
section RVT2
variable {p : Program} {l : Launch} {e : Env} {R : Room} {s : State} {m : MethodId} {args : Array Value} {below : List Frame} {meth : Method} {c : Code} {H : Heap} {locs : List Loc} {cells slots mc ms : Nat} {free : Addr → Prop} {ls : Array Slot} {Qc : Array Value → State → Outcome → State → Prop} {XC : String → State → State → Prop}
set_option maxHeartbeats 1000000 in
theorem rv_throw {pc0 ix : Nat} {tx : String} (d0 : decode cX11_person pc0 = .ok (.new 173, 3)) (d3 : decode cX11_person (pc0 + 3) = .ok (.dup, 1)) (d4 : decode cX11_person (pc0 + 4) = .ok (.ldc ix, 2)) (d6 : decode cX11_person (pc0 + 6) = .ok (.invokespecial 177, 3)) (d9 : decode cX11_person (pc0 + 6 + 3) = .ok (.athrow, 1)) (hexec : p.tables.exec = Jvm.exec) (hb : c.code = cX11_person) (hl : l.stackTraces = false) {sa : Nat} {A : Nat → Prop} (hown : s.vm.findClass RX11 = some m.cls)
    (hk : (Cond.classLink RX11 173 rvXn).before args s = true) (hini : (Cond.initialized rvXn).before args s = true) (hstr : vk_R RX11 ix tx sa s) (hat : ∀ w ∈ rvXa.filter vx_no, w.before args s = true)
    (hgood : ∀ w ∈ Cond.classLink RX11 173 rvXn :: Cond.initialized rvXn :: rvXa.filter vx_no, vx_ot w = true)
    (hU : vx_Zq Bundle.tN "UNASSIGNED_STACK" Bundle.steD A s s.heap) (hN : vx_Zq Bundle.tN "SUPPRESSED_SENTINEL" Bundle.listD A s s.heap) (hS : va_S A s.heap H locs) (hsize : ls.size = c.maxLocals) (hout : ∀ x ∈ c.exceptionTable.toList, False)
    (hRframes : 5 < R.frames) (hRlocals : 82 ≤ R.locals) (hRcells : cells + 1 ≤ R.cells) (hRslots : slots + 6 ≤ R.slots) (hlocks : meth.locks = false)
    (hx : ∀ t : State, s.vm.Alike t.vm → H.size ≤ t.heap.size → (∀ q : Nat, q < H.size → t.heap[q]? = H[q]?) → XC rvXn s t) (hf : ∀ z ∈ locs, free z.base) (hc : cells + 1 ≤ mc) (hs : slots + 6 ≤ ms) :
    W p l e R s m args below meth c H locs cells slots (vx_MQ below Qc XC args s mc ms free) (F0 m pc0 ls []) := by
  intro T hT X
  have htr : e.platform.stackTraces = false := (show e.platform.stackTraces = l.stackTraces by rw [X.admits.platform]).trans hl
  have Y := vx_rebase X (R' := { frames := R.frames, locals := R.locals, cells := 1, slots := 6 }) (Nat.le_refl _) (Nat.le_refl _) hRcells hRslots
  obtain ⟨s', hA⟩ : ∃ z, z = (T.setVm s.vm).setFrames (.invoking m args :: below) := ⟨_, rfl⟩
  rw [← hA] at Y
  have hvm : s'.vm = s.vm := by rw [hA]; rfl
  have hhp : s'.heap = H := by rw [hA]; exact hT
  have hW0 : s.WarmedH s'.vm := by rw [hvm]; exact State.WarmedH.refl s
  have hat' : ∀ w ∈ rvXa.filter vx_no, w.before args s' = true := fun w hw => vx_ot_at hW0 hvm.symm (hgood w (List.mem_cons_of_mem _ (List.mem_cons_of_mem _ hw))) (hat w hw)
  have hk' : (Cond.classLink RX11 173 rvXn).before args s' = true := vx_ot_at hW0 hvm.symm (hgood _ List.mem_cons_self) hk
  have hini' : (Cond.initialized rvXn).before args s' = true := vx_ot_at hW0 hvm.symm (hgood _ (List.mem_cons_of_mem _ List.mem_cons_self)) hini
  have hU' : vx_Zq Bundle.tN "UNASSIGNED_STACK" Bundle.steD A s' s'.heap := by rw [hhp]; exact vx_Zq.moved hW0.alike (hU.kept hS.2.1)
  have hN' : vx_Zq Bundle.tN "SUPPRESSED_SENTINEL" Bundle.listD A s' s'.heap := by rw [hhp]; exact vx_Zq.moved hW0.alike (hN.kept hS.2.1)
  have h : ∀ w ∈ rvXa, w.before args s' = true := vx_own hat' (vx_isRefq hU'.1) (vx_isRefq hN'.1) hU'.2.word hN'.2.word
  have hown' : s'.vm.findClass RX11 = some m.cls := by rw [hvm]; exact hown
  have hins : (Cond.instantiable rvXn 6).before args s' = true := h _ (by simp [rvXa, rvXo])
  obtain ⟨vm₁, cX, kX, hfX, hkX, -, -, X₁, st1⟩ := Y.newCold hexec (own := RX11) (C := rvXn) (index := 173) (n := 6) hown' hk' hins hini'
    (g := F0 m pc0 ls []) rfl (by rw [hb]; exact d0) (Nat.le_refl _) (Nat.le_refl _)
  generalize hT1 : (T.setVm vm₁).pushCell { cls := cX, slots := kX.instanceTypes.map defaultValue, vm := .none } = T1 at X₁ st1
  have hcat : (Value.ref T.heap.size).category = 1 := rfl
  have hcellA : T1.heap[T.heap.size]? = some (freshCell cX kX) := by rw [← hT1]; exact State.heap_pushCell_size _ _
  have d3' : decode c.code (pc0 + 3) = .ok (.dup, 1) := by rw [hb]; exact d3
  have d4' : decode c.code (pc0 + 4) = .ok (.ldc ix, 2) := by rw [hb]; exact d4
  have hstr' : vk_R RX11 ix tx sa s' := vk_R.warm hW0 hstr
  obtain ⟨U, hsteps, hrun, hend, hW, hsame, ce, hce, hcl0, hcv⟩ := rv_ctor X₁ hexec htr hown' h (fun x hx => nomatch hx) hfX hkX hcellA (by rw [hhp, hT]; exact Nat.le_refl _) (msg := .ref sa) rfl
    (g := { method := m, pc := pc0 + 6, locals := ls, stack := [.ref sa, .ref T.heap.size, .ref T.heap.size], locked := none }) rfl hsize rfl rfl (rest := []) rfl
    (by rw [hb]; exact d6) (by rw [hb]; exact d9) (fun x hx => (hout x hx).elim) hRframes (by show 2 * 0 + (1 + 0) + 81 ≤ R.locals; omega) hlocks
  obtain ⟨f1, f2⟩ := vx_frame hsame
  rw [hhp] at f1 f2
  have hWs : s.WarmedH U.vm := State.WarmedH.trans hW0 hW
  have hcl : s.vm.findClass rvXn = some ce.cls := by rw [hvm] at hcl0; exact hcl0
  have hall : s.sameButNew ({ U with vm := s.vm } : State) locs mc ms := by
    subst hA
    obtain ⟨e1, e2⟩ := hsame
    rw [State.setFrames_setFrames] at e1
    have h2 : (T.setVm s.vm).sameButNew ({ U with vm := s.vm } : State) [] (0 + 1) (0 + 6) := ⟨e1, e2⟩
    have h3 := X.same.trans h2
    rw [List.append_nil] at h3
    exact h3.mono hc hs
  refine ⟨U, ?_, .threw T.heap.size, hrun, hend, Or.inr ⟨T.heap.size, rfl, rvXn, ce, locs, hx U hWs.alike f1 (fun q hq => f2 q hq (fun z hz => nomatch hz)), hce, hcv, hcl, hWs, hall, hf⟩⟩
  refine st1 _ ?_
  show Steps p.tables e below (T1.setTop { method := m, pc := pc0 + 3, locals := ls, stack := [.ref T.heap.size], locked := none }) _
  jvm_step X₁.here [X₁.here.top, hexec, d3', Value.category]
  exact X₁.ldcString hexec (own := RX11) (text := tx) (index := ix) (a := sa) hown' hstr'.1 hstr'.2
    (g := { method := m, pc := pc0 + 4, locals := ls, stack := [.ref T.heap.size, .ref T.heap.size], locked := none }) rfl d4' _ hsteps
end RVT2
