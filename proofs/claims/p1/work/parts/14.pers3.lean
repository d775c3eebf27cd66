/-! The law's person: what OboeDistrict.person throws is caught, the answer is 1. -/
def tb_Q : List (Nat × List (Nat × rvE)) := [(17, [(0, (.aload_n 3, 1, 0, 0, 0, 0)), (1, (.iconst 0, 1, 0, 0, 0, 0)), (2, (.aload_n 0, 1, 0, 0, 0, 0)), (3, (.iload_n 1, 1, 0, 0, 0, 0)), (4, (.iload_n 2, 1, 0, 0, 0, 0)), (13, (.astore 4, 2, 0, 0, 0, 0)), (15, (.iconst 1, 1, 0, 0, 0, 0)), (16, (.ireturn, 1, 0, 0, 0, 0))])]
theorem rvT_Q : rvTk rvYn rvKd 168 RL cL_person false (rvFind2 tb_Q) := rvTc_ok (by decide +kernel)
theorem rvQd_5 : decode cL_person 5 = .ok (.invokevirtual 7, 3) := by decide +kernel
theorem rvQd_16 : decode cL_person 16 = .ok (.ireturn, 1) := by decide +kernel
theorem rvQw_l : rvW 1313 (.methodLink RL 7 yX11_person) = true := by decide +kernel
theorem rvQw_m : rvW 1314 (.instanceMethod yX11_person) = true := by decide +kernel
theorem rvQw_s : rvW 1315 (.selects RX11 yX11_person yX11_person) = true := by decide +kernel
theorem rvQw_i : rvW 120 (.initialized RX11) = true := by decide +kernel
theorem rvQw_c : rvW 1316 (.code yX11_person cX11_person 3 (some .int)) = true := by decide +kernel
theorem rvQw_h : rvW 1312 (.classLink RL 13 rvXn) = true := by decide +kernel
theorem rvQw_n : rvCn 11 = RX11 := by decide +kernel
theorem rvQr_0 (a1 : Int × Int) : rvRun rvTy rvNf rvTxt [] (fun _ _ _ => none) rvInf (rvFind2 tb_Q) 5 0 0 0 0 5 100 0 [.inr (2, 0), .inl a1, rvTop, .inr (2, 131), rvU] [] rvAw0 0 0 = some (5, [.inr (2, 0), .inl a1, rvTop, .inr (2, 131), rvU], [rvTop, .inl a1, .inr (2, 0), rvK 0, .inr (2, 131)], rvAw0, 0, 0) := rfl
theorem rvQr_1 (a1 : Int × Int) : rvRun rvTy rvNf rvTxt [] (fun _ _ _ => none) rvInf (rvFind2 tb_Q) 16 0 0 0 0 5 100 13 [.inr (2, 0), .inl a1, rvTop, .inr (2, 131), rvU] [.inr (6, 0)] rvAw0 1 6 = some (16, [.inr (2, 0), .inl a1, rvTop, .inr (2, 131), .inr (6, 0)], [rvK 1], rvAw0, 1, 6) := rfl
theorem rvAw0_0 : ∃ fs, rvAw0[0]? = some (.inl (11, fs)) := ⟨_, rfl⟩
section RVP2
variable {l : Launch} {D : va_G} {cB : Nat → ClassId} {ex : Nat → Nat → Nat} {a1 : Int × Int} {ws : va_W} {xs : List Value} {sz sa : Nat}
set_option maxHeartbeats 1000000 in
theorem rv_personL (hl : l.stackTraces = false) (hrun : rvPr a1) (hw : rvWoo cB (rvAd ws) ex rvAw0 ws) (hxs : rvRs (rvAd ws) ex [.inr (2, 0), .inl a1, rvTop, .inr (2, 131)] xs) :
    vx_Met l yL_person (.codeWith yL_person cL_person 5 (some .int) [(0, 10, 13, 13)] :: rvWl) { frames := 12, cells := 1, slots := 6, locals := 300 } (rvPcx D cB ex ws sz xs sa) (rvQ D cB ex ws sz (some (rvK 1), rvAw0)) (fun _ _ _ => False) 1 6 (va_A ws sz) := by
  refine vx_ofWH (cc := cL_person) (maxL := 5) (ret := some .int) (hh := [(0, 10, 13, 13)]) (by decide +kernel) rfl ?_
  intro p e s m args below meth c s₁ B hml hv
  have htab := vx_table (x := yL_person) B (atoms_spec (ws := Cond.codeWith yL_person cL_person 5 (some .int) [(0, 10, 13, 13)] :: rvWl) B.pre _ List.mem_cons_self)
  obtain ⟨⟨rfl, hsz, hP, hK, hD0, hX⟩, hPx⟩ := hv
  subst hsz
  have hx := B.exec
  have hb := B.bytes
  have hr := B.returns
  have hlocks := B.notSynchronized
  have hown : s.vm.findClass RL = some m.cls := findClass_of_methodNamed B.named
  have hts : ∀ w ∈ rvWl, w.before xs.toArray s = true := fun w hw9 => atoms_spec (ws := Cond.codeWith yL_person cL_person 5 (some .int) [(0, 10, 13, 13)] :: rvWl) B.pre w (List.mem_cons_of_mem _ hw9)
  have hD := hD0.self (sz := s.heap.size)
  have hA : ∀ q : Nat, s.heap.size ≤ q → va_A ws s.heap.size q := fun q h9 => Or.inr h9
  have hcB : ∀ q, q < 6 → cB q = rvCt cB (rvAd ws) q := rvCt_c cB (rvAd ws)
  have hK2 : va_K D vwCl (rvTys (rvCt cB (rvAd ws))) s := by rw [rvTys_c hcB]; exact hK
  have C : rvCx p s m xs.toArray meth c cL_person RL 5 D (rvCt cB (rvAd ws)) ex (va_A ws s.heap.size) false [] := ⟨hx, hb, hml, hown, hts, hK2, hA, hX, fun q => (by cases q), Or.inl rfl⟩
  have key16 : rvG p l e (headSpec (Cond.codeWith yL_person cL_person 5 (some .int) [(0, 10, 13, 13)] :: rvWl) { frames := 12, cells := 1, slots := 6, locals := 300 }).room s m xs.toArray below meth c (vx_MQ below (rvQ D cB ex ws s.heap.size (some (rvK 1), rvAw0)) (fun _ _ _ => False) xs.toArray s 1 6 (va_A ws s.heap.size)) D (rvCt cB (rvAd ws)) ex (va_A ws s.heap.size) 5 (16, [.inr (2, 0), .inl a1, rvTop, .inr (2, 131), .inr (6, 0)], [rvK 1], rvAw0, 1, 6) := by
    intro ws1 H locs ls stk hw1 hl1 hs1 hP1 hD1 hS1
    dsimp only at hw1 hl1 hs1 ⊢
    obtain ⟨hw2, t1, ht1⟩ := rvWo_out hw1
    obtain ⟨x, stk1, rfl, ⟨n1, rfl, p1, q1⟩, hs2⟩ := rvRs_cons hs1
    have hnil := rvRs_nil hs2
    subst hnil
    obtain ⟨g1, -⟩ := rvFit_ok (ad := rvAd ws1) (ex := ex) (ty := .int) (v := rvK 1) (x := .int n1) rfl ⟨n1, rfl, p1, q1⟩
    exact vx_ret (W.zret hx hb hr g1 (fun t ht hW => ⟨_, ws1, rfl, ⟨t1, ht1⟩, hw2, ⟨n1, rfl, p1, q1⟩, by rw [ht]; exact hP1, hD1, hS1.F ht⟩) hS1.2.2 rvQd_16)
  have key13 := rvRun_ok C rvBase_ok hcB rvM_all (fun _ _ _ _ _ h => by cases h) rvT_Q (Nat.zero_le _) (Nat.zero_le _) (Nat.zero_le _) (Nat.zero_le _) key16 100 13 _ _ rvAw0 1 6 (rvQr_1 a1)
  have key5 : rvG p l e (headSpec (Cond.codeWith yL_person cL_person 5 (some .int) [(0, 10, 13, 13)] :: rvWl) { frames := 12, cells := 1, slots := 6, locals := 300 }).room s m xs.toArray below meth c (vx_MQ below (rvQ D cB ex ws s.heap.size (some (rvK 1), rvAw0)) (fun _ _ _ => False) xs.toArray s 1 6 (va_A ws s.heap.size)) D (rvCt cB (rvAd ws)) ex (va_A ws s.heap.size) 5 (5, [.inr (2, 0), .inl a1, rvTop, .inr (2, 131), rvU], [rvTop, .inl a1, .inr (2, 0), rvK 0, .inr (2, 131)], rvAw0, 0, 0) := by
    intro ws1 H locs ls stk hw1 hl1 hs1 hP1 hD1 hS1
    dsimp only at hw1 hl1 hs1 ⊢
    have hls : ls.size = 5 := by obtain ⟨-, l9, h9, -⟩ := hl1; exact h9.1
    obtain ⟨x2, stk2, rfl, ⟨n2, rfl, -, -⟩, hs2⟩ := rvRs_cons hs1
    obtain ⟨x1, stk1, rfl, ⟨n1, rfl, p1, q1⟩, hs3⟩ := rvRs_cons hs2
    obtain ⟨x0, rest, rfl, ⟨q, hq, rfl⟩, hs4⟩ := rvRs_cons hs3
    obtain ⟨fs, hc0⟩ := rvAw0_0
    obtain ⟨⟨a, e0⟩, hq1, fvs, he, hfvs⟩ := rvWo_get hw1 hc0
    have he : e0 = .inr (11, fvs) := he
    subst he
    have hqa := rvAd_ref hq1 hq
    subst hqa
    have hwB : rvWoo cB (rvAd ws1) ex rvAw0 ws1 := rvWoo_c (fun q hq => (hcB q hq).symm) hw1.1
    have hM9 := rv_personX (l := l) (D := D) (sz := H.size) (sa := sa) (xs := [.ref q, .int n1, .int n2]) hl hrun hwB ⟨⟨q, hq, rfl⟩, ⟨n1, rfl, p1, q1⟩, rvR_top n2, trivial⟩
    have cw : ∀ C9, yX11_person.cls = C9 → CallW (headSpec (Cond.codeWith yL_person cL_person 5 (some .int) [(0, 10, 13, 13)] :: rvWl) { frames := 12, cells := 1, slots := 6, locals := 300 }).room s xs.toArray RL C9 7 yX11_person cX11_person 3 (some .int) (.code yX11_person cX11_person 3 (some .int) :: rvWl) { frames := 10, cells := 1, slots := 6, locals := 200 } 1 6 2 := by
      intro C9 hC9
      subst hC9
      exact cwV 2 hts (rvGood_cons (rvW_ok rvQw_l) (rvGood_cons (rvW_ok rvQw_m) (rvGood_cons (rvW_ok rvQw_s) (rvGood_cons (rvW_ok rvQw_i) (rvGood_cons (rvW_ok rvQw_c) rvGood_self))))) rfl rfl rfl ⟨rfl, by decide +kernel, by decide +kernel, by decide +kernel⟩ ⟨by show 10 + 1 ≤ 12; decide, by show 8 + (3 + 11) + 200 ≤ 300; decide⟩
    have hcl := (rvCl 11 (by decide)).2.1
    have hrn := vx_runV (g := F0 m 5 ls (.int n2 :: .int n1 :: .ref q :: rest)) (locs := locs) (cells := 0) (slots := 0) (As := [.int n1, .int n2]) (rest := rest) (nL := 5) (e := e) (below := below) (meth := meth) ⟨hx, hb, hml, hown, hts⟩ hM9 (cw (rvCn 11) rvQw_n.symm) ⟨rv_blindx, va_recv hK2 hP1 hcl hq1, rv_prex hK hX hPx hA hP1 hD1 hS1⟩ rfl rfl hls rfl (lv_room (by rw [rvRs_wd hs4]; decide)) rvQd_5 ⟨by show 0 + 1 ≤ 1; decide, by show 0 + 6 ≤ 6; decide⟩
    intro T hT X
    rcases hrn T hT X with ⟨v, st₀, t, T', L, h0, X', hL, e1, e2, hF, st⟩ | ⟨q9, st₀, t, T', L, E, ce, h0, X', hL, e1, e2, ⟨hE, w1, ⟨t1, ht1⟩, hw9, hP9, hD9, hz, hk⟩, hce, hcv, hcl9, st⟩
    · exact absurd hF id
    · subst hE
      rw [h0] at hz hk
      have hF := rv_free hD1 hS1 hA
      have hS2 : va_S (va_A ws s.heap.size) s.heap T'.heap (locs ++ L) := ⟨Nat.le_trans hS1.1 (by rw [e1]; exact hz), fun q h1 h2 => by rw [e1, hk q (Nat.lt_of_lt_of_le h1 hS1.1) (fun z => h2 (hF q z))]; exact hS1.2.1 q h1 h2, fun q hq => by
          rcases List.mem_append.mp hq with h | h
          · exact hS1.2.2 q h
          · exact hF _ (hL q h)⟩
      rw [← e1] at hP9 hce
      have hw2 : rvWo (rvCt cB (rvAd ws)) (rvAd w1) ex rvAw0 w1 := ⟨rvWoo_c hcB hw9, fun k9 hk9 => by
        have h9 := hw1.2 k9 hk9
        rw [ht1, List.getElem?_append_left (List.getElem?_eq_some_iff.mp h9).1]
        exact h9⟩
      have kk := key13 w1 T'.heap (locs ++ L) ls [.ref q9] hw2 (by rw [ht1]; exact rvLo_mono _ hl1) ⟨Or.inr ⟨q9, rfl⟩, trivial⟩ hP9 (hD9.weaken (fun _ q _ h => hF q.1 h)) hS2
      obtain ⟨t2, a9, b9⟩ := (vx_catch (own := RL) (name := rvXn) (E := rvXn) (pc := 5) (rest := rest) (ls := ls) hown [] ⟨0, 10, 13, 13⟩ [] htab (fun z hz => nomatch hz) (by decide +kernel) (by decide) (hts _ (rvW_ok rvQw_h)) (va_Nw.use rfl hPx.1.1) hce hcv hcl9 kk) T' rfl X'
      exact ⟨t2, st.trans a9, b9⟩
  have hg := rvRun_ok C rvBase_ok hcB rvM_all (fun _ _ _ _ _ h => by cases h) rvT_Q (Nat.zero_le _) (Nat.zero_le _) (Nat.zero_le _) (Nat.zero_le _) key5 100 0 _ [] rvAw0 0 0 (rvQr_0 a1)
  rw [lg_entry_eq]
  exact hg ws s.heap [] _ [] (rvWo_in hw) (rvLo_entry hxs (by show 4 ≤ 5; decide)) trivial hP hD va_S.rf
end RVP2
