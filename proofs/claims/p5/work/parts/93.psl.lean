/-! The law's own person: what the class's person throws is caught. -/
theorem rvQd_0 : decode cL_person 0 = .ok (.aload_n 3, 1) := by decide +kernel
theorem rvQd_1 : decode cL_person 1 = .ok (.iconst 0, 1) := by decide +kernel
theorem rvQd_2 : decode cL_person 2 = .ok (.aload_n 0, 1) := by decide +kernel
theorem rvQd_3 : decode cL_person 3 = .ok (.iload_n 1, 1) := by decide +kernel
theorem rvQd_4 : decode cL_person 4 = .ok (.iload_n 2, 1) := by decide +kernel
theorem rvQd_5 : decode cL_person 5 = .ok (.invokevirtual 7, 3) := by decide +kernel
theorem rvQd_8 : decode cL_person 8 = .ok (.i2l, 1) := by decide +kernel
theorem rvQd_9 : decode cL_person 9 = .ok (.lastore, 1) := by decide +kernel
theorem rvQd_10 : decode cL_person 10 = .ok (.goto 7, 3) := by decide +kernel
theorem rvQd_13 : decode cL_person 13 = .ok (.astore 4, 2) := by decide +kernel
theorem rvQd_15 : decode cL_person 15 = .ok (.iconst 1, 1) := by decide +kernel
theorem rvQd_16 : decode cL_person 16 = .ok (.ireturn, 1) := by decide +kernel
theorem rvQd_17 : decode cL_person 17 = .ok (.iconst 0, 1) := by decide +kernel
theorem rvQd_18 : decode cL_person 18 = .ok (.ireturn, 1) := by decide +kernel
theorem rvQw_l : rvW 1313 (.methodLink RL 7 yX11_person) = true := by decide +kernel
theorem rvQw_m : rvW 1314 (.instanceMethod yX11_person) = true := by decide +kernel
theorem rvQw_s : rvW 1315 (.selects RX11 yX11_person yX11_person) = true := by decide +kernel
theorem rvQw_i : rvW 120 (.initialized RX11) = true := by decide +kernel
theorem rvQw_c : rvW 1316 (.code yX11_person cX11_person 3 (some .int)) = true := by decide +kernel
theorem rvQw_h : rvW 1312 (.classLink RL 13 rvXn) = true := by decide +kernel
theorem rvQw_n : rvCn 11 = RX11 := by decide +kernel
/-- the answer of the law's person -/
def lpPost (T0 pl : List Nat) (aw0 : rvH) (res : xRes2) : Prop := (∃ k : Int, 0 ≤ k ∧ k ≤ 1 ∧ res.1 = some (.inl (k, k))) ∧ psOkI T0 pl aw0 res.2
/-- the row that takes the answer -/
theorem ps_out {T0 pl : List Nat} {aw0 aw : rvH} {x : Nat} (h : psOkI T0 pl aw0 aw) (hp : pl[51]? = some x) : ∃ d ov, aw[x]? = some (.inr (3, 1, d, ov)) := by
  obtain ⟨⟨r, T, ⟨⟨g0, g1⟩, g2, -⟩, -⟩, -⟩ := h
  obtain ⟨i, c, e1, e2, e3, -⟩ := g1 51 (111, []) rfl
  have ei : x = i := Option.some.inj (hp.symm.trans e1)
  subst ei
  have hcell := g2.2 x 111 c e2 e3
  have hcell : xCell T pl (.inr (3, 1, 1, [(1, .inr (1, 0))])) c := hcell
  rcases c with c | ⟨k, n, d, ov⟩
  · exact absurd hcell id
  · obtain ⟨h1, h2, -⟩ := hcell
    have h1 : 3 = k := h1
    have h2 : 1 = n := h2
    subst h1; subst h2
    exact ⟨d, ov, e3⟩
/-- the class's object -/
theorem ps_obj {T0 pl : List Nat} {aw0 aw : rvH} {x : Nat} (h : psOkI T0 pl aw0 aw) (hp : pl[0]? = some x) : ∃ fs, aw[x]? = some (.inl (11, fs)) := by
  obtain ⟨⟨r, T, ⟨⟨g0, g1⟩, g2, -⟩, -⟩, -⟩ := h
  obtain ⟨i, c, e1, e2, e3, -⟩ := g1 0 (60, []) rfl
  have ei : x = i := Option.some.inj (hp.symm.trans e1)
  subst ei
  have hcell := g2.2 x 60 c e2 e3
  have hcell : xCell T pl xg60 c := hcell
  rcases c with ⟨ci, fs⟩ | c
  · obtain ⟨h1, -⟩ := hcell
    have h1 : 11 = ci := h1
    subst h1
    exact ⟨fs, e3⟩
  · exact absurd hcell id
section PSL
variable {l : Launch} {D : va_G} {cB : Nat → ClassId} {ex : Nat → Nat → Nat} {ws : va_W} {xs : List Value} {sz sa sb : Nat}
set_option maxHeartbeats 4000000 in
theorem ps_L (hl : l.stackTraces = false) {r : List Int} {T pl : List Nat} {aw : rvH} {x0 x3 : Nat} {v1 v2 : Int} (hinv : lwInv r T pl aw) (hex : exH aw) (hp0 : pl[0]? = some x0) (hp3 : pl[51]? = some x3) (h1 : xIn32 v1) (h2 : xIn32 v2) (hw : rvWoo cB (rvAd ws) ex aw ws) (hxs : rvRs (rvAd ws) ex [.inr (2, x0), .inl (v1, v1), .inl (v2, v2), .inr (2, x3)] xs) :
    vx_Met l yL_person (.codeWith yL_person cL_person 5 (some .int) [(0, 10, 13, 13)] :: rvWl) { frames := 8, cells := 1, slots := 6, locals := 200 } (rvPcx D cB ex ws sz xs sa sb) (rvQP D cB ex ws sz (lpPost T pl aw)) (fun _ _ _ => False) 1 6 (va_A ws sz) := by
  refine vx_ofWH (cc := cL_person) (maxL := 5) (ret := some .int) (hh := [(0, 10, 13, 13)]) (by decide +kernel) rfl ?_
  intro p e s m args below meth c s₁ B hml hv
  have htab := vx_table (x := yL_person) B (atoms_spec (ws := Cond.codeWith yL_person cL_person 5 (some .int) [(0, 10, 13, 13)] :: rvWl) B.pre _ List.mem_cons_self)
  obtain ⟨⟨rfl, hsz, hP, hK, hD0, hX⟩, hPx⟩ := hv
  subst hsz
  have hx := B.exec
  have hb := B.bytes
  have hr := B.returns
  have hlocks := B.notSynchronized
  have hown : s.vm.findClass RL = some m.cls := findClass_of_methodNamed B.named
  have hts : ∀ w ∈ rvWl, w.before xs.toArray s = true := fun w hw9 => atoms_spec (ws := Cond.codeWith yL_person cL_person 5 (some .int) [(0, 10, 13, 13)] :: rvWl) B.pre w (List.mem_cons_of_mem _ hw9)
  have hD := hD0.self (sz := s.heap.size)
  have hA : ∀ q : Nat, s.heap.size ≤ q → va_A ws s.heap.size q := fun q h9 => Or.inr h9
  have hcB : ∀ q, q < 6 → cB q = rvCt cB (rvAd ws) q := rvCt_c cB (rvAd ws)
  have hK2 : va_K D vwCl (rvTys (rvCt cB (rvAd ws))) s := by rw [rvTys_c hcB]; exact hK
  have C : rvCx p s m xs.toArray meth c cL_person RL 5 D (rvCt cB (rvAd ws)) ex (va_A ws s.heap.size) false [] := ⟨hx, hb, hml, hown, hts, hK2, hA, hX, fun q => (by cases q), Or.inl rfl⟩
  obtain ⟨RG, hRG⟩ : ∃ G : rvS → Prop, G = rvG p l e (headSpec (Cond.codeWith yL_person cL_person 5 (some .int) [(0, 10, 13, 13)] :: rvWl) { frames := 8, cells := 1, slots := 6, locals := 200 }).room s m xs.toArray below meth c (vx_MQ below (rvQP D cB ex ws s.heap.size (lpPost T pl aw)) (fun _ _ _ => False) xs.toArray s 1 6 (va_A ws s.heap.size)) D (rvCt cB (rvAd ws)) ex (va_A ws s.heap.size) 5 := ⟨_, rfl⟩
  have st1 : ∀ (pc : Nat) (al st : List rvV) (aw : rvH) (kc ks : Nat) (i : Instr) (len : Nat) (o : rvS), decode cL_person pc = .ok (i, rvSz i len) → rvAux RL false i 0 0 0 = true → rvStep rvTy rvNf rvTxt [] 1 6 5 i 0 0 0 pc al st aw kc ks = some o → RG o → RG (pc, al, st, aw, kc, ks) := by
    intro pc al st aw kc ks i len o hd hk hst hG
    subst hRG
    exact rvStep_ok C hd hk (Nat.le_refl 1) (Nat.le_refl 6) hst hG
  have kret : ∀ (pc : Nat) (al : List rvV) (k : Int) (aw2 : rvH), decode cL_person pc = .ok (.ireturn, 1) → 0 ≤ k → k ≤ 1 → psOkI T pl aw aw2 → RG (pc, al, [.inl (k, k)], aw2, 1, 6) := by
    intro pc al k aw2 hd k0 k1 hok
    subst hRG
    intro ws1 H locs ls stk hw1 hl1 hs1 hP1 hD1 hS1
    dsimp only at hw1 hl1 hs1 ⊢
    obtain ⟨hw2, t1, ht1⟩ := rvWo_out hw1
    obtain ⟨x, stk1, rfl, ⟨n1, rfl, p1, q1⟩, hs2⟩ := rvRs_cons hs1
    have hnil := rvRs_nil hs2
    subst hnil
    obtain ⟨g1, -⟩ := rvFit_ok (ad := rvAd ws1) (ex := ex) (ty := .int) (v := .inl (k, k)) (x := .int n1) rfl ⟨n1, rfl, p1, q1⟩
    exact vx_ret (W.zret hx hb hr g1 (fun t ht hW => ⟨(some (.inl (k, k)), aw2), ⟨⟨k, k0, k1, rfl⟩, hok⟩, _, ws1, rfl, ⟨t1, ht1⟩, hw2, ⟨n1, rfl, p1, q1⟩, by rw [ht]; exact hP1, hD1, hS1.F ht⟩) hS1.2.2 hd)
  have k13 : ∀ aw2 : rvH, psOkI T pl aw aw2 → RG (13, [.inr (2, x0), .inl (v1, v1), .inl (v2, v2), .inr (2, x3), rvU], [.inr (6, 0)], aw2, 1, 6) := by
    intro aw2 hok
    refine st1 13 _ _ aw2 1 6 (.astore 4) 2 (15, [.inr (2, x0), .inl (v1, v1), .inl (v2, v2), .inr (2, x3), .inr (6, 0)], [], aw2, 1, 6) rvQd_13 rfl rfl ?_
    refine st1 15 _ _ aw2 1 6 (.iconst 1) 1 (16, [.inr (2, x0), .inl (v1, v1), .inl (v2, v2), .inr (2, x3), .inr (6, 0)], [.inl (1, 1)], aw2, 1, 6) rvQd_15 rfl rfl ?_
    exact kret 16 _ 1 aw2 rvQd_16 (by omega) (by omega) hok
  have k8 : ∀ (z : Int) (aw2 : rvH), psOkI T pl aw aw2 → RG (8, [.inr (2, x0), .inl (v1, v1), .inl (v2, v2), .inr (2, x3), rvU], [.inl (z, z), .inl (0, 0), .inr (2, x3)], aw2, 1, 6) := by
    intro z aw2 hok
    obtain ⟨d, ov, hrow⟩ := ps_out hok hp3
    obtain ⟨⟨r1, T1, hinv1, hfr1⟩, hex1, hF1, hW1⟩ := hok
    obtain ⟨r2, T2, hinv2, hfr2, hex2⟩ := lw_out (n := (Int32.ofInt z).toInt64) hinv1 hex1 hp3 hrow
    have hok2 : psOkI T pl aw (aw2.set x3 (.inr (3, 1, d, rvUp ov 0 (.inr (1, rvLe (Int32.ofInt z).toInt64))))) := ⟨⟨r2, T2, hinv2, lwFr_trans hfr1 hfr2⟩, hex2, Fr_trans hF1 (Fr_set hrow ⟨rfl, rfl, fun h => absurd h (by decide)⟩), Fw_trans hW1 (Fw_set hrow ⟨rfl, rfl⟩)⟩
    refine st1 8 _ _ aw2 1 6 .i2l 1 (9, [.inr (2, x0), .inl (v1, v1), .inl (v2, v2), .inr (2, x3), rvU], [.inr (1, rvLe (Int32.ofInt z).toInt64), .inl (0, 0), .inr (2, x3)], aw2, 1, 6) rvQd_8 rfl ?_ ?_
    · show some ((8 + 1 : Nat), ([.inr (2, x0), .inl (v1, v1), .inl (v2, v2), .inr (2, x3), rvU] : List rvV), rvLw (z, z) :: ([.inl (0, 0), .inr (2, x3)] : List rvV), aw2, 1, 6) = _
      have : rvLw (z, z) = .inr (1, rvLe (Int32.ofInt z).toInt64) := by
        unfold rvLw rvOne
        rw [decide_eq_true (rfl : z = z)]
        rfl
      rw [this]
    refine st1 9 _ _ aw2 1 6 .lastore 1 (10, [.inr (2, x0), .inl (v1, v1), .inl (v2, v2), .inr (2, x3), rvU], [], aw2.set x3 (.inr (3, 1, d, rvUp ov 0 (.inr (1, rvLe (Int32.ofInt z).toInt64)))), 1, 6) rvQd_9 rfl ?_ ?_
    · show (match aw2[x3]? with
        | some (.inr (3, n, d, ov)) => (match rvIdx (0, 0) n with
          | some j => some (9 + 1, ([.inr (2, x0), .inl (v1, v1), .inl (v2, v2), .inr (2, x3), rvU] : List rvV), ([] : List rvV), aw2.set x3 (.inr (3, n, d, rvUp ov j (.inr (1, rvLe (Int32.ofInt z).toInt64)))), 1, 6)
          | none => none)
        | _ => none) = _
      rw [hrow]
      rfl
    refine st1 10 _ _ _ 1 6 (.goto 7) 3 (17, [.inr (2, x0), .inl (v1, v1), .inl (v2, v2), .inr (2, x3), rvU], [], aw2.set x3 (.inr (3, 1, d, rvUp ov 0 (.inr (1, rvLe (Int32.ofInt z).toInt64)))), 1, 6) rvQd_10 rfl rfl ?_
    refine st1 17 _ _ _ 1 6 (.iconst 0) 1 (18, [.inr (2, x0), .inl (v1, v1), .inl (v2, v2), .inr (2, x3), rvU], [.inl (0, 0)], aw2.set x3 (.inr (3, 1, d, rvUp ov 0 (.inr (1, rvLe (Int32.ofInt z).toInt64)))), 1, 6) rvQd_17 rfl rfl ?_
    exact kret 18 _ 0 _ rvQd_18 (by omega) (by omega) hok2
  have hok0 : psOkI T pl aw aw := ⟨⟨r, T, hinv, lwFr_refl⟩, hex, Fr_refl _, Fw_refl _⟩
  have k5 : RG (5, [.inr (2, x0), .inl (v1, v1), .inl (v2, v2), .inr (2, x3), rvU], [.inl (v2, v2), .inl (v1, v1), .inr (2, x0), .inl (0, 0), .inr (2, x3)], aw, 0, 0) := by
    subst hRG
    intro ws1 H locs ls stk hw1 hl1 hs1 hP1 hD1 hS1
    dsimp only at hw1 hl1 hs1 ⊢
    have hls : ls.size = 5 := by obtain ⟨-, l9, h9, -⟩ := hl1; exact h9.1
    obtain ⟨y2, stk2, rfl, ⟨n2, rfl, p2, q2⟩, hs2⟩ := rvRs_cons hs1
    obtain ⟨y1, stk1, rfl, ⟨n1, rfl, p1, q1⟩, hs3⟩ := rvRs_cons hs2
    obtain ⟨y0, rest, rfl, ⟨q, hq, rfl⟩, hs4⟩ := rvRs_cons hs3
    obtain ⟨fs, hc0⟩ := ps_obj hok0 hp0
    obtain ⟨⟨a, e0⟩, hq1, fvs, he, hfvs⟩ := rvWo_get hw1 hc0
    have he : e0 = .inr (11, fvs) := he
    subst he
    have hqa := rvAd_ref hq1 hq
    subst hqa
    have hwB : rvWoo cB (rvAd ws1) ex aw ws1 := rvWoo_c (fun q hq => (hcB q hq).symm) hw1.1
    have hM9 := ps_X (l := l) (D := D) (sz := H.size) (sa := sa) (sb := sb) (xs := [.ref q, .int n1, .int n2]) hl hinv hex hp0 h1 h2 hwB ⟨⟨q, hq, rfl⟩, ⟨n1, rfl, p1, q1⟩, ⟨n2, rfl, p2, q2⟩, trivial⟩
    have cw : ∀ C9, yX11_person.cls = C9 → CallW (headSpec (Cond.codeWith yL_person cL_person 5 (some .int) [(0, 10, 13, 13)] :: rvWl) { frames := 8, cells := 1, slots := 6, locals := 200 }).room s xs.toArray RL C9 7 yX11_person cX11_person 3 (some .int) (.code yX11_person cX11_person 3 (some .int) :: rvWl) { frames := 6, cells := 1, slots := 6, locals := 90 } 1 6 2 := by
      intro C9 hC9
      subst hC9
      exact cwV 2 hts (rvGood_cons (rvW_ok rvQw_l) (rvGood_cons (rvW_ok rvQw_m) (rvGood_cons (rvW_ok rvQw_s) (rvGood_cons (rvW_ok rvQw_i) (rvGood_cons (rvW_ok rvQw_c) rvGood_self))))) rfl rfl rfl ⟨rfl, by decide +kernel, by decide +kernel, by decide +kernel⟩ ⟨by show 6 + 1 ≤ 8; decide, by show 8 + (3 + 11) + 90 ≤ 200; decide⟩
    have hcl := (rvCl 11 (by decide)).2.1
    have hrn := vx_runV (g := F0 m 5 ls (.int n2 :: .int n1 :: .ref q :: rest)) (locs := locs) (cells := 0) (slots := 0) (As := [.int n1, .int n2]) (rest := rest) (nL := 5) (e := e) (below := below) (meth := meth) ⟨hx, hb, hml, hown, hts⟩ hM9 (cw (rvCn 11) rvQw_n.symm) ⟨rv_blindx, va_recv hK2 hP1 hcl hq1, rv_prex hK hX hPx hA hP1 hD1 hS1⟩ rfl rfl hls rfl (lv_room (by rw [rvRs_wd hs4]; show 1 + (1 + 0) ≤ 8; decide)) rvQd_5 ⟨by show 0 + 1 ≤ 1; decide, by show 0 + 6 ≤ 6; decide⟩
    have hF := rv_free hD1 hS1 hA
    intro T9 hT X
    rcases hrn T9 hT X with ⟨v, st₀, t, T', L, h0, X', hL, e1, e2, ⟨res, ⟨⟨z, hz⟩, hok⟩, v', w1, hv', ⟨t1, ht1⟩, hw9, ho, hP9, hD9, hzz, hk⟩, st⟩ | ⟨q9, st₀, t, T', L, E, ce, h0, X', hL, e1, e2, ⟨hE, aw2, w1, hok, ⟨t1, ht1⟩, hw9, hP9, hD9, hzz, hk⟩, hce, hcv, hcl9, st⟩
    · cases hv'
      obtain ⟨ro, aw2⟩ := res
      have hz : ro = some (.inl (z, z)) := hz
      subst hz
      rw [h0] at hzz hk
      have hS2 : va_S (va_A ws s.heap.size) s.heap T'.heap (locs ++ L) := ⟨Nat.le_trans hS1.1 (by rw [e1]; exact hzz), fun q h1 h2 => by rw [e1, hk q (Nat.lt_of_lt_of_le h1 hS1.1) (fun z => h2 (hF q z))]; exact hS1.2.1 q h1 h2, fun q hq => by
          rcases List.mem_append.mp hq with h | h
          · exact hS1.2.2 q h
          · exact hF _ (hL q h)⟩
      rw [← e1] at hP9
      have hw2 : rvWo (rvCt cB (rvAd ws)) (rvAd w1) ex aw2 w1 := ⟨rvWoo_c hcB hw9, fun k9 hk9 => by
        have h9 := hw1.2 k9 hk9
        rw [ht1, List.getElem?_append_left (List.getElem?_eq_some_iff.mp h9).1]
        exact h9⟩
      obtain ⟨t2, a9, b9⟩ := k8 z aw2 hok w1 T'.heap (locs ++ L) ls (v.toList ++ rest) hw2 (by rw [ht1]; exact rvLo_mono _ hl1) (rvOp_rs ho (by rw [ht1]; exact rvRs_mono _ hs4)) hP9 (hD9.weaken (fun _ q _ h => hF q.1 h)) hS2 T' rfl X'
      exact ⟨t2, st t2 a9, b9⟩
    · subst hE
      rw [h0] at hzz hk
      have hS2 : va_S (va_A ws s.heap.size) s.heap T'.heap (locs ++ L) := ⟨Nat.le_trans hS1.1 (by rw [e1]; exact hzz), fun q h1 h2 => by rw [e1, hk q (Nat.lt_of_lt_of_le h1 hS1.1) (fun z => h2 (hF q z))]; exact hS1.2.1 q h1 h2, fun q hq => by
          rcases List.mem_append.mp hq with h | h
          · exact hS1.2.2 q h
          · exact hF _ (hL q h)⟩
      rw [← e1] at hP9 hce
      have hw2 : rvWo (rvCt cB (rvAd ws)) (rvAd w1) ex aw2 w1 := ⟨rvWoo_c hcB hw9, fun k9 hk9 => by
        have h9 := hw1.2 k9 hk9
        rw [ht1, List.getElem?_append_left (List.getElem?_eq_some_iff.mp h9).1]
        exact h9⟩
      have kk := k13 aw2 hok w1 T'.heap (locs ++ L) ls [.ref q9] hw2 (by rw [ht1]; exact rvLo_mono _ hl1) ⟨Or.inr ⟨q9, rfl⟩, trivial⟩ hP9 (hD9.weaken (fun _ q _ h => hF q.1 h)) hS2
      obtain ⟨t2, a9, b9⟩ := (vx_catch (own := RL) (name := rvXn) (E := rvXn) (pc := 5) (rest := rest) (ls := ls) hown [] ⟨0, 10, 13, 13⟩ [] htab (fun z hz => nomatch hz) (by decide +kernel) (by decide) (hts _ (rvW_ok rvQw_h)) (va_Nw.use rfl hPx.1.1) hce hcv hcl9 kk) T' rfl X'
      exact ⟨t2, st.trans a9, b9⟩
  have key : RG (0, [.inr (2, x0), .inl (v1, v1), .inl (v2, v2), .inr (2, x3), rvU], [], aw, 0, 0) := by
    refine st1 0 _ _ aw 0 0 (.aload_n 3) 1 (1, [.inr (2, x0), .inl (v1, v1), .inl (v2, v2), .inr (2, x3), rvU], [.inr (2, x3)], aw, 0, 0) rvQd_0 rfl rfl ?_
    refine st1 1 _ _ aw 0 0 (.iconst 0) 1 (2, [.inr (2, x0), .inl (v1, v1), .inl (v2, v2), .inr (2, x3), rvU], [.inl (0, 0), .inr (2, x3)], aw, 0, 0) rvQd_1 rfl rfl ?_
    refine st1 2 _ _ aw 0 0 (.aload_n 0) 1 (3, [.inr (2, x0), .inl (v1, v1), .inl (v2, v2), .inr (2, x3), rvU], [.inr (2, x0), .inl (0, 0), .inr (2, x3)], aw, 0, 0) rvQd_2 rfl rfl ?_
    refine st1 3 _ _ aw 0 0 (.iload_n 1) 1 (4, [.inr (2, x0), .inl (v1, v1), .inl (v2, v2), .inr (2, x3), rvU], [.inl (v1, v1), .inr (2, x0), .inl (0, 0), .inr (2, x3)], aw, 0, 0) rvQd_3 rfl rfl ?_
    exact st1 4 _ _ aw 0 0 (.iload_n 2) 1 (5, [.inr (2, x0), .inl (v1, v1), .inl (v2, v2), .inr (2, x3), rvU], [.inl (v2, v2), .inl (v1, v1), .inr (2, x0), .inl (0, 0), .inr (2, x3)], aw, 0, 0) rvQd_4 rfl rfl k5
  subst hRG
  rw [lg_entry_eq]
  exact key ws s.heap [] _ [] (rvWo_in hw) (rvLo_entry hxs (by show 4 ≤ 5; decide)) trivial hP hD va_S.rf
end PSL
theorem rvLd_374 : decode cL_law 374 = .ok (.invokestatic 38, 3) := by decide +kernel
theorem rvLw_l : rvW 1309 (.methodLink RL 38 yL_person) = true := by decide +kernel
theorem rvLw_s : rvW 1310 (.static yL_person) = true := by decide +kernel
theorem rvLw_i : rvW 119 (.initialized RL) = true := by decide +kernel
theorem rvLw_c : rvW 1311 (.codeWith yL_person cL_person 5 (some .int) [(0, 10, 13, 13)]) = true := by decide +kernel
section PSP
variable {p : Program} {l : Launch} {e : Env} {s : State} {m : MethodId} {args : Array Value} {below : List Frame} {meth : Method} {c : Code} {Q : State → Prop} {D : va_G} {cT : Nat → ClassId} {ex : Nat → Nat → Nat} {A : Nat → Prop} {sa sb : Nat} {sc : List (Int × Int)}
set_option maxHeartbeats 4000000 in
theorem lw_mP (C : rvCx p s m args meth c cL_law RL 7 D cT ex A false sc) (hl : l.stackTraces = false) (hPx : rvPx sa sb A s s.heap) : lwPerX (rvG p l e room_1 s m args below meth c Q D cT ex A 7) := by
  obtain ⟨hx, hb, hml, hown, hts, hK, hA, hX, hini, hsc⟩ := C
  intro al st aw kc ks r T pl hex hinv hst hkc hks k
  obtain ⟨xo, xx, w1, w2, rfl, hp3, hp0, i1, i2⟩ := hst
  intro ws H locs ls stk hw hl1 hs hP hD hS
  dsimp only at hw hl1 hs ⊢
  have hls : ls.size = 7 := by obtain ⟨-, l9, h9, -⟩ := hl1; exact h9.1
  obtain ⟨y3, stk3, rfl, ⟨q3, hq3, rfl⟩, hs3⟩ := rvRs_cons hs
  obtain ⟨y2, stk2, rfl, ⟨n2, rfl, p2, q2⟩, hs2⟩ := rvRs_cons hs3
  obtain ⟨y1, stk1, rfl, ⟨n1, rfl, p1, q1⟩, hs1⟩ := rvRs_cons hs2
  obtain ⟨y0, stk0, rfl, ⟨q0, hq0, rfl⟩, hs0⟩ := rvRs_cons hs1
  have hnil := rvRs_nil hs0
  subst hnil
  have hM9 := ps_L (l := l) (D := D) (sz := H.size) (sa := sa) (sb := sb) (xs := [.ref q0, .int n1, .int n2, .ref q3]) hl hinv hex hp0 hp3 i1 i2 hw.1 ⟨⟨q0, hq0, rfl⟩, ⟨n1, rfl, p1, q1⟩, ⟨n2, rfl, p2, q2⟩, ⟨q3, hq3, rfl⟩, trivial⟩
  have cw : vx_CSW room_1 s args RL 38 yL_person cL_person 5 (some .int) [(0, 10, 13, 13)] (.codeWith yL_person cL_person 5 (some .int) [(0, 10, 13, 13)] :: rvWl) { frames := 8, cells := 1, slots := 6, locals := 200 } 1 6 4 :=
    vx_cwSW 4 hts (rvGood_cons (rvW_ok rvLw_l) (rvGood_cons (rvW_ok rvLw_s) (rvGood_cons (rvW_ok rvLw_i) (rvGood_cons (rvW_ok rvLw_c) rvGood_self)))) rfl rfl rfl ⟨by decide +kernel, by decide +kernel, by decide +kernel⟩ ⟨by show 8 + 1 ≤ 2048; decide, by show 8 + (5 + 11) + 200 ≤ 84000; decide⟩
  have hrn := vx_runSX (g := F0 m 374 ls [.ref q3, .int n2, .int n1, .ref q0]) (locs := locs) (cells := kc) (slots := ks) (As := [.ref q0, .int n1, .int n2, .ref q3]) (rest := []) (nL := 7) (e := e) (below := below) (meth := meth) ⟨hx, hb, hml, hown, hts⟩ hM9 cw ⟨rv_blindx, rv_prex hK hX hPx hA hP hD hS⟩ rfl rfl hls rfl (lv_room (by decide)) rvLd_374 ⟨by show kc + 1 ≤ 601024; omega, by show ks + 6 ≤ 7293034; omega⟩
  have hr : va_Run p l e room_1 s m args below meth c H locs kc ks 1 6 (F0 m 374 ls [.ref q3, .int n2, .int n1, .ref q0]) [] (rvQP D cT ex ws H.size (lpPost T pl aw) [.ref q0, .int n1, .int n2, .ref q3].toArray) (va_A ws H.size) := by
    intro T9 hT X
    rcases hrn T9 hT X with h | ⟨q9, st₀, t, T', L, E, ce, h0, X', hL, e1, e2, hF, -⟩
    · exact h
    · exact absurd hF id
  refine rv_goP hA (fun _ _ => rfl) hr hw hl1 (rst := []) trivial hD hS (fun res hres => ?_)
  obtain ⟨⟨z, z0, z1, hz⟩, ⟨r', T', hinv', hfr'⟩, hex', hF', hW'⟩ := hres
  obtain ⟨ro, aw2⟩ := res
  have hz : ro = some (.inl (z, z)) := hz
  subst hz
  exact k z aw2 r' T' pl z0 z1 hex' hinv' hfr' hF' hW'
end PSP
