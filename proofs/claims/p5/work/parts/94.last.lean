/-! The law, from its entry to its end. -/
theorem rv_fx0 : rvFl 258 (.exactly (.string RX11 175) "java/lang/String") = true := by decide +kernel
theorem rv_fx9 : rvFl 282 (.exactly (.string RX11 201) "java/lang/String") = true := by decide +kernel
theorem rv_fx1 : rvFl 24 (.isRef (.static Bundle.tN "UNASSIGNED_STACK" Bundle.steD)) = true := by decide +kernel
theorem rv_fx2 : rvFl 25 (.isRef (.static Bundle.tN "SUPPRESSED_SENTINEL" Bundle.listD)) = true := by decide +kernel
theorem rv_x0 : rvGt 1319 (.castable rvXn rvXn) = true := by decide +kernel
theorem rv_x1 : rvGt 1321 (.declares (Bundle.initS "java/lang/RuntimeException")) = true := by decide +kernel
theorem rv_x2 : rvGt 1323 (.declares (Bundle.initS "java/lang/Exception")) = true := by decide +kernel
theorem rv_x3 : rvGt 1325 (.declares (Bundle.initS Bundle.tN)) = true := by decide +kernel
theorem rv_x4 : rvGt 1356 (.stringRef RX11 175 "no such person") = true := by decide +kernel
theorem rv_x9 : rvGt 1389 (.stringRef RX11 201 "nothing such of a person") = true := by decide +kernel
theorem rv_x5 : rvGt 1344 (.laysStatic Bundle.tN "UNASSIGNED_STACK" Bundle.steD) = true := by decide +kernel
theorem rv_x6 : rvGt 1346 (.laysStatic Bundle.tN "SUPPRESSED_SENTINEL" Bundle.listD) = true := by decide +kernel
theorem rv_x7 : rvGt 140 (.initialized Bundle.tN) = true := by decide +kernel
theorem rv_startx {p : Program} {s : State} {m : MethodId} {meth : Method} {c : Code} {b L : Nat} {xs : Nat → Int32} (C0 : lw_At p s m meth c b L xs) : ∃ sa sb : Nat, rvPx sa sb (fun q : Nat => s.heap.size ≤ q) s s.heap := by
  obtain ⟨hx, hb, hr, hml, hown, hts, hX, hbl, hlocks, hgv⟩ := C0
  have hA : ∀ a : Nat, a < s.heap.size → ¬ (fun q : Nat => s.heap.size ≤ q) a := fun a h1 h2 => absurd h2 (Nat.not_le.mpr h1)
  have ht : ∀ {i : Nat} {w : Cond}, rvGt i w = true → w.before #[Value.ref b] s = true := fun h => hts _ (rvGt_ok h)
  obtain ⟨sa, -, -, -, hev, -⟩ := Cond.exactly_spec (rvFl_ok rv_fx0 hgv)
  obtain ⟨sb, -, -, -, hev2, -⟩ := Cond.exactly_spec (rvFl_ok rv_fx9 hgv)
  exact ⟨sa, sb, ⟨va_Nw.of rfl (ht rv_x0), va_Nw.of rfl (ht rv_x1), va_Nw.of rfl (ht rv_x2), va_Nw.of rfl (ht rv_x3)⟩, vk_R.of (A := #[Value.ref b]) (ht rv_x4) hev, vk_R.of (A := #[Value.ref b]) (ht rv_x9) hev2, vx_Zqof (ht rv_x5) (ht rv_x7) (rvFl_ok rv_fx1 hgv) hA, vx_Zqof (ht rv_x6) (ht rv_x7) (rvFl_ok rv_fx2 hgv) hA⟩
theorem rv_notr {l : Launch} (h : l.flags = flags0) : l.stackTraces = false := by
  unfold Launch.stackTraces
  rw [h]
  decide +kernel
/-- the script's numbers -/
def lwSc (L : Nat) (xs : Nat → Int32) : List (Int × Int) := (List.range L).map (fun j => ((xs j).toInt, (xs j).toInt))
theorem lwSc_len (L : Nat) (xs : Nat → Int32) : (lwSc L xs).length = L := by
  unfold lwSc
  rw [List.length_map, List.length_range]
theorem lwSc_at {L : Nat} {xs : Nat → Int32} {k : Nat} {v : Int × Int} (h : (lwSc L xs)[k]? = some v) : v = ((xs k).toInt, (xs k).toInt) := by
  unfold lwSc at h
  rw [List.getElem?_map] at h
  have hk : k < L := by
    have := (List.getElem?_eq_some_iff.mp (show (lwSc L xs)[k]? = some v by unfold lwSc; rw [List.getElem?_map]; exact h)).1
    rw [lwSc_len] at this
    exact this
  rw [List.getElem?_range hk] at h
  exact (Option.some.inj h).symm
set_option maxHeartbeats 4000000 in
theorem whole_start {p : Program} {e : Env} {s : State} {m : MethodId} {below : List Frame} {meth : Method} {c : Code} (l : Launch) (hflags : l.flags = flags0) {b L : Nat} {xs : Nat → Int32} (hL : L ≤ 3072) (C0 : lw_At p s m meth c b L xs) : W p l e room_1 s m #[Value.ref b] below meth c s.heap [] 0 0 (lw_Z below #[Value.ref b] s) (entryFrame m ([Value.ref b] : List Value).toArray 7) := by
  have hl := rv_notr hflags
  obtain ⟨sa, sb, hPx⟩ := rv_startx C0
  obtain ⟨D, cT, ex, h99, h5, hC⟩ := rv_start C0
  obtain ⟨hx, hb, hr, hml, hown, hts, hX, hbl, hlocks, hgv⟩ := C0
  have hA : ∀ a : Nat, a < s.heap.size → ¬ (fun q : Nat => s.heap.size ≤ q) a := fun a h1 h2 => absurd h2 (Nat.not_le.mpr h1)
  have hX5 : va_X (ex 5 0) L xs s s.heap := by rw [h5]; exact hX
  have hb5 : ex 5 0 < s.heap.size := by rw [h5]; exact hbl
  have hA5 := hA _ hb5
  have C := hC [] (Or.inl rfl)
  have hXs : va_X (ex 5 0) (lwSc L xs).length xs s s.heap := by rw [lwSc_len]; exact hX5
  have Cs := hC (lwSc L xs) (Or.inr ⟨xs, hXs, hb5, hA5, fun j a hj => by
    have := lwSc_at hj
    subst this
    exact ⟨Int.le_refl _, Int.le_refl _⟩⟩)
  have hLs : (lwSc L xs).length ≤ 3072 := by rw [lwSc_len]; exact hL
  have hc0 := rvClo (l := l) (D := D) (cB := cT) (ex := ex) rvPn_all rvMk_all rvBase_ok rvM_all rvT_all
  have hpt : ∀ (k : Nat) (v : Int × Int), (lwSc L xs)[k]? = some v → v.2 = v.1 ∧ xIn32 v.1 := fun k v hk => by
    have := lwSc_at hk
    subst this
    exact ⟨rfl, xi_in _⟩
  have hT : lwTurn PJ (rvG p l e room_1 s m #[Value.ref b] below meth c (lw_Z below #[Value.ref b] s) D cT ex (fun q : Nat => s.heap.size ≤ q) 7) (lwSc L xs) := lw_turns (lw_mS Cs) (lw_mI Cs) lw_msp (lw_mP Cs hl hPx) (lw_mL Cs hXs hb5 hA5 hLs) (lw_mE Cs hr hlocks rfl) (fun j as aw Q h => h _ _ (xClo_e _ _ _ _ _ hc0)) hLs hpt
  have k23 : rvG p l e room_1 s m #[Value.ref b] below meth c (lw_Z below #[Value.ref b] s) D cT ex (fun q : Nat => s.heap.size ≤ q) 7 (23, rzAl0, [], rzAw0, 132, 19068) := by
    exact lw_loop (lw_mSf Cs) hT (lw_mL Cs hXs hb5 hA5 hLs) (lw_mE Cs hr hlocks rfl) hLs hpt (L + 1) 0 132 19068 rzR rzT rzPl rzAw0 _ _ _ _ _ (by rw [lwSc_len]; omega) (by omega) (by omega) (by omega) rz_inv rz_PJ rz_loc trivial trivial
  have hg := rvRun_ok C rvBase_ok (fun _ _ => rfl) rzM_all (fun j as aw r hj h => rvExec_ok rzP_all rvBase_ok rzM_all rzT_all rzOrc_ok 100000 7 j as aw r hj h) rzT_L (Nat.le_refl 2048) (show 600000 ≤ 601024 by decide) (show 7000000 ≤ 7293034 by decide) (Nat.le_refl 84000) k23 100 0 _ [] [] 0 0 rz_made
  rw [lg_entry_eq]
  refine hg [] s.heap [] _ [] ⟨trivial, fun k hk => ?_⟩ (rvLo_entry (as := [.inr (5, 0)]) ⟨?_, trivial⟩ (by decide)) trivial (fun k q hk => by simp at hk) ⟨(fun i j p q hi _ _ => by simp at hi), (fun k q hk => by simp at hk)⟩ va_S.rf
  · rw [h99] at hk
    omega
  · show Value.ref b = .ref (ex 5 0)
    rw [h5]
set_option maxHeartbeats 4000000 in
theorem lw_walk (l : Launch) (hflags : l.flags = flags0) (b : Addr) (xs : List Int32) : MetFree l x (headSpec (Jvm.Cond.code x code maxLocals ret :: tables_1) room_1) (lw_P b xs) (fun _ _ _ _ _ => True) lw_Q := by
  refine MetFree.of_bodyS (code := code) (maxLocals := maxLocals) (ret := ret) (by decide) ?_ ?_
  · intro args s m h hn
    obtain ⟨meth, c, h1, h2, h3, h4, h5, h6, -, -⟩ := Cond.code_spec hn (atoms_spec (ws := Jvm.Cond.code x code maxLocals ret :: tables_1) h _ List.mem_cons_self)
    exact ⟨meth, c, h1, h2, h3, h4, h5, h6⟩
  · intro p e s m args below meth c s₁ B hml0 hP _
    obtain ⟨rfl, hx, hbd, hgv⟩ := hP
    obtain ⟨scr, harrAt, hlist, hof, hsmall⟩ := hx
    obtain ⟨hcb, hkn, -, -⟩ := State.arrayAt?_spec harrAt
    have hown : s.vm.findClass R_law = some m.cls := findClass_of_methodNamed B.named
    have hts0 : ∀ c ∈ (Jvm.Cond.code x code maxLocals ret :: tables_1), c.before #[Value.ref b] s = true := atoms_spec (ws := Jvm.Cond.code x code maxLocals ret :: tables_1) B.pre
    have hts : ∀ w ∈ lw_tbl, w.before #[Value.ref b] s = true := k2_hts_sels lw_privs (fun w hw => hts0 w (List.mem_cons_of_mem _ hw)) lw_privs_ok
    have hml : c.maxLocals = 7 := B.maxLocals_eq (hts0 _ List.mem_cons_self)
    have X₀ : Stand p l e room_1 s m #[Value.ref b] below meth c s₁ [] 0 0 := Stand.of_body B
    have hh0 : s₁.heap = s.heap := by rw [B.state]; rfl
    have hsz : scr.slots.size = xs.length := by rw [← Array.length_toList, hlist, List.length_map]
    have hval : ∀ j : Nat, j < xs.length → scr.slots[j]? = some (.int (xs.getD j 0)) := fun j hj => by
      rw [← Array.getElem?_toList, hlist]
      simp [hj]
    have hbl : b < s.heap.size := (Array.getElem?_eq_some_iff.mp hcb).1
    have hX : va_X b xs.length (fun j => xs.getD j 0) s s.heap := ⟨scr, hcb, hof, hkn, hsz, hval⟩
    have K : W p l e room_1 s m #[Value.ref b] below meth c s₁.heap [] 0 0 (lw_Z below #[Value.ref b] s) (entryFrame m ([Value.ref b] : List Value).toArray 7) := by
      rw [hh0]
      exact whole_start l hflags hbd ⟨B.exec, B.bytes, B.returns, hml, hown, hts, hX, hbl, B.notSynchronized, hgv⟩
    obtain ⟨t, a1, o, b1, b2, b3⟩ := K s₁ rfl X₀
    exact ⟨t, o, a1, b1, b2, b3⟩
theorem lw_pre_spec {args : Array Value} {s : State} (h : (Jvm.Cond.and given_1 narrow_1).before args s = true) (hr : rest_1_c.before args s = true) : ∃ (b : Addr) (xs : List Int32), lw_P b xs args s := by
  have hs := flat_of_before _ h
  have hq := flat_of_before _ hr
  have hc : (Cond.count 1).before args s = true := hs _ (by decide +kernel)
  have harr : (Cond.arrayOf (.arg 0) .int).before args s = true := hs _ (by decide +kernel)
  have hle : (Cond.le (.length (.arg 0)) (.int 3072)).before args s = true := hs _ (by decide +kernel)
  have hlen : (Cond.isInt (.length (.arg 0))).before args s = true := hq _ (by decide +kernel)
  have hall : (Cond.all (.arg 0) (.isInt (.elem (.arg 0) (.index 0)))).before args s = true := hq _ (by decide +kernel)
  obtain ⟨b, xs, hb, hx⟩ := State.ints_of_pre rfl harr hlen hall
  have hsm : xs.length < 2 ^ 31 := hx.choose_spec.2.2.2
  have hev : (Term.length (.arg 0)).eval args s none [] s = some (.int xs.length.toInt32) := hx.length_eval hb
  have hv := Cond.le_ints hev (show (Term.int 3072).eval args s none [] s = some (.int 3072) from rfl)
  have hd : xs.length.toInt32 ≤ 3072 := by
    simpa [Cond.before, Cond.holds, hv] using hle
  have hN : xs.length ≤ 3072 := (Int32.ofNat_le_ofNat hsm (by decide)).mp (show Int32.ofNat xs.length ≤ Int32.ofNat 3072 from hd)
  exact ⟨b, xs, Cond.one_arg hc (show args[0]? = some (.ref b) from hb), hx, hN, h⟩
theorem lw_comes (l : Launch) (hflags : l.flags = flags0) : Comes l x (Jvm.Cond.code x code maxLocals ret :: tables_1) room_1 (fun tb e args s => Calls_1 tb e args s ∧ rest_1 tb e args s ∧ Pre_1 tb e args s)
    (fun _ _ args s o t => lw_Q args s o t) := by
  intro p e ha hc hk s m args below hf hfit hheap happ hpre
  obtain ⟨b, xs, hP⟩ := lw_pre_spec hpre.2.2 hpre.2.1
  obtain ⟨k, o, h1, h2, h3, hQ⟩ := lw_walk l hflags b xs p e ha hc hk s m args below hf ((Spec.applies_iff_loose hf).mp happ).1 hP trivial
  exact ⟨k, o, h1, h2, h3, hQ⟩
theorem lw_frame {s t : State} {o : Outcome} {args : Array Value} (h : Framed s o t [] 601024 7293034) :
    Framed s o t (fieldLocs frame_1_writes args s ++ arrayLocs frame_1_arrays args s ++ staticLocs frame_1_statics s) 601024 7293034 := h
theorem lw_limb (L : Cond) (hL : ∀ (args : Array Value) (s t : State), L.after args s (.returned (some (.int 1))) t = true) :
    ArmFor flags0 classFile x code maxLocals ret World_1 tables_1 room_1 Calls_1 rest_1 Pre_1
      (fun tb e a s o t => postC L tb e a s o t ∧ Framed s o t (fieldLocs frame_1_writes a s ++ arrayLocs frame_1_arrays a s ++ staticLocs frame_1_statics s) 601024 7293034) := by
  intro l hflags _ _ p e ha hc hk s m args below hf hfit hheap happ hpre
  obtain ⟨k, o, h1, h2, h3, rfl, hF⟩ := lw_comes l hflags p e ha hc hk s m args below hf hfit hheap happ hpre
  exact ⟨k, _, h1, h2, h3, hL args s _, lw_frame hF⟩
theorem i_vc : Claimed_1_1 ∧ Claimed_1_2 := ⟨lw_limb limb_1_1 (fun args s t => by simp [limb_1_1, Cond.after, Cond.holds, Cond.value]), lw_limb limb_1_2 (fun args s t => Cond.after_iff.mpr (by
  first | (rw [show limb_1_2 = Cond.eq .result (.int 1) from rfl, Cond.eq_ints (x := 1) (y := 1) rfl rfl]; simp; done) | (simp [limb_1_2, Cond.value, Term.eval]; done)))⟩
