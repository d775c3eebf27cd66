section RVN
variable {p : Program} {l : Launch} {e : Env} {R : Room} {s : State} {m : MethodId} {args : Array Value} {below : List Frame} {meth : Method} {c : Code} {Q : State → Prop} {cc : ByteArray} {own : String} {mL : Nat} {D : va_G} {cT : Nat → ClassId} {ex : Nat → Nat → Nat} {A : Nat → Prop} {sc : List (Int × Int)} {ini : Bool}
theorem rvRs_map {ad : List Nat} {f : Nat → rvV} {g : Nat → Value} : ∀ (l : List Nat), (∀ k ∈ l, rvR ad ex (f k) (g k)) → rvRs ad ex (l.map f) (l.map g)
  | [], _ => trivial
  | a :: t, h => ⟨h a List.mem_cons_self, rvRs_map t (fun k hk => h k (List.mem_cons_of_mem _ hk))⟩
theorem rvDef_ok {ad : List Nat} {ty : FieldType} (h : rvTyOk ty = true) : rvR ad ex (rvDef ty) (defaultValue ty) := by
  cases ty with
  | int => exact rvR_K rfl
  | boolean => exact rvR_K rfl
  | long => exact rvR_L0
  | object _ => rfl
  | array _ => rfl
  | byte => cases h
  | char => cases h
  | short => cases h
  | float => cases h
  | double => cases h
theorem rv_bytes {a b : Nat} (h1 : a ≤ 100000) (h2 : b ≤ 8) : a * b ≤ 536870912 := Nat.le_trans (Nat.mul_le_mul h1 h2) (by decide)
/-- behind the making of a cell -/
theorem rvPush {ws : va_W} {q kc ks pc : Nat} {e0 : va_E} {cn : rvC} {al st : List rvV} {aw : rvH} {ls : Array Slot} {stk : List Value} {H1 : Heap} {locs : List Loc} (k : rvG p l e R s m args below meth c Q D cT ex A mL (pc, al, .inr (2, aw.length) :: st, aw ++ [cn], kc, ks))
    (hw : rvWo cT (rvAd ws) ex aw ws) (hl : rvLo (rvAd ws) ex mL al ls) (hs : rvRs (rvAd ws) ex st stk) (hc : rvCe cT (rvAd ws) ex cn e0) (hP : va_P D vwCl (ws ++ [(q, e0)]) H1) (hD : va_D A (ws ++ [(q, e0)])) (hS : va_S A s.heap H1 locs) :
    W p l e R s m args below meth c H1 locs kc ks Q (F0 m pc ls (.ref q :: stk)) := by
  have ea : rvAd (ws ++ [(q, e0)]) = rvAd ws ++ [q] := rvAd_push
  have en : aw.length = (rvAd ws).length := by rw [rvWo_len hw]; simp
  refine k _ H1 locs ls _ ?_ ?_ ⟨⟨q, ?_, rfl⟩, ?_⟩ hP hD hS
  · rw [ea]
    exact rvWo_push (rvWo_mono _ hw) (rvCe_mono _ hc)
  · rw [ea]; exact rvLo_mono _ hl
  · rw [ea, en, List.getElem?_append_right (Nat.le_refl _)]
    simp
  · rw [ea]; exact rvRs_mono _ hs
set_option maxHeartbeats 4000000 in
set_option maxRecDepth 100000 in
theorem rs_aastore (C : rvCx p s m args meth c cc own mL D cT ex A ini sc) {BC BS a1 a2 a3 wi pc kc ks : Nat} {al st : List rvV} {aw : rvH} {o : rvS} (hd : decode cc pc = .ok (.aastore, 1)) (hk : rvAux own ini (.aastore) a1 a2 wi = true) (hBC : BC ≤ R.cells) (hBS : BS ≤ R.slots)
    (h : rvStep rvTy rvNf rvTxt sc BC BS mL (.aastore) a1 a2 a3 pc al st aw kc ks = some o) (k : rvG p l e R s m args below meth c Q D cT ex A mL o) : rvG p l e R s m args below meth c Q D cT ex A mL (pc, al, st, aw, kc, ks) := by
  obtain ⟨hx, hb, hml, hown, hts, hK, hA, hX, hini, hsc⟩ := C
  intro ws H locs ls stk hw hl hs hP hD hS
  dsimp only at hw hl hs ⊢
  simp only [rvStep] at h
  split at h
  · rename_i v0 a0 k0 st
    obtain ⟨y0, stk0, rfl, hy0, hs0⟩ := rvRs_cons hs
    obtain ⟨y1, stk1, rfl, ⟨n1, rfl, p1, q1⟩, hs1⟩ := rvRs_cons hs0
    obtain ⟨x, stk2, rfl, ⟨q, hq, rfl⟩, hs2⟩ := rvRs_cons hs1
    split at h
    · rename_i kd n d ov hc0
      obtain ⟨⟨a, e0⟩, hq1, hce⟩ := rvWo_get hw hc0
      have hqa := rvAd_ref hq1 hq
      subst hqa
      split at h
      · rename_i j hj
        obtain ⟨i1, i2, i3⟩ := rvIdx_ok hj p1 q1
        have fin : ∀ (f : Nat → Option Nat) (y : Option Nat) (v : rvV) (H1 : Heap) (locs1 : List Loc), (kd = 4 ∨ kd = 5) → ws[k0]? = some (q, .inl (cT kd, n, .inr (.inr (.inr (.inr f))))) → (∀ i, i < n → rvR (rvAd ws) ex (rvLook d ov i) (va_rf (f i))) → rvR (rvAd ws) ex v (va_rf y) → rvG p l e R s m args below meth c Q D cT ex A mL (pc + 1, al, st, aw.set k0 (.inr (kd, n, d, rvUp ov j v)), kc, ks) →
            va_P D vwCl (ws.set k0 (q, .inl (cT kd, n, .inr (.inr (.inr (.inr (va_up f n1.toNatClampNeg y))))))) H1 → va_D A (ws.set k0 (q, .inl (cT kd, n, .inr (.inr (.inr (.inr (va_up f n1.toNatClampNeg y))))))) → va_S A s.heap H1 locs1 → W p l e R s m args below meth c H1 locs1 kc ks Q (F0 m (pc + 1) ls stk2) := by
          intro f y v H1 locs1 hkd hq9 hf hv k9 hP1 hD1 hS1
          have ea := rvAd_set (e := .inl (cT kd, n, .inr (.inr (.inr (.inr (va_up f n1.toNatClampNeg y)))))) hq9
          refine k9 _ H1 locs1 ls stk2 ?_ ?_ ?_ hP1 hD1 hS1
          · rw [ea]
            refine rvWo_set hw (Or.inr (Or.inr ⟨hkd, _, rfl, ?_⟩))
            rw [i2]
            exact rvRow_upq hf hv
          · rw [ea]; exact hl
          · rw [ea]; exact hs2
        split at h
        · rename_i z
          obtain ⟨hc, rfl⟩ := rv_bif h
          have hkd : kd = 4 ∨ kd = 5 := (rv_or' hc).elim (fun q9 => Or.inl (rv_beq q9)) (fun q9 => Or.inr (rv_beq q9))
          have hy0 : y0 = .null := hy0
          subst hy0
          rcases hce with ⟨h0, -⟩ | ⟨h0, -⟩ | ⟨-, f, he, hf⟩
          · rcases hkd with q9 | q9
            · rw [q9] at h0; exact absurd h0 (by decide)
            · rw [q9] at h0; exact absurd h0 (by decide)
          · rcases hkd with q9 | q9
            · rw [q9] at h0; exact absurd h0 (by decide)
            · rw [q9] at h0; exact absurd h0 (by decide)
          · have he : e0 = .inl (cT kd, n, .inr (.inr (.inr (.inr f)))) := he
            subst he
            rcases hkd with q9 | q9
            · subst q9
              exact va_astqN (D := D) (C := RX2) hx hb hK hP hD hS k0 4 hq1 rfl i1 hd (fun H1 locs1 hP1 hD1 hS1 => fin f none (.inr (0, z)) H1 locs1 (Or.inl rfl) hq1 hf rfl k hP1 hD1 hS1)
            · subst q9
              exact va_astqN (D := D) (C := RX6) hx hb hK hP hD hS k0 5 hq1 rfl i1 hd (fun H1 locs1 hP1 hD1 hS1 => fin f none (.inr (0, z)) H1 locs1 (Or.inr rfl) hq1 hf rfl k hP1 hD1 hS1)
        · rename_i z
          obtain ⟨qv, hqv, rfl⟩ := hy0
          split at h
          · rename_i ci fs hcz
            obtain ⟨hc, rfl⟩ := rv_bif h
            obtain ⟨⟨az, ez⟩, hz1, vs, hez, hvs⟩ := rvWo_get hw hcz
            have hez : ez = .inr (ci, vs) := hez
            subst hez
            have hqz := rvAd_ref hz1 hqv
            subst hqz
            have hkd : (kd = 4 ∧ ci = 2) ∨ (kd = 5 ∧ ci = 6) := (rv_or' hc).elim (fun q9 => Or.inl ⟨rv_beq (rv_and q9).1, rv_beq (rv_and q9).2⟩) (fun q9 => Or.inr ⟨rv_beq (rv_and q9).1, rv_beq (rv_and q9).2⟩)
            rcases hce with ⟨h0, -⟩ | ⟨h0, -⟩ | ⟨-, f, he, hf⟩
            · rcases hkd with q9 | q9
              · rw [q9.1] at h0; exact absurd h0 (by decide)
              · rw [q9.1] at h0; exact absurd h0 (by decide)
            · rcases hkd with q9 | q9
              · rw [q9.1] at h0; exact absurd h0 (by decide)
              · rw [q9.1] at h0; exact absurd h0 (by decide)
            · have he : e0 = .inl (cT kd, n, .inr (.inr (.inr (.inr f)))) := he
              subst he
              rcases hkd with ⟨q9, q8⟩ | ⟨q9, q8⟩
              · subst q9; subst q8
                exact va_astq (D := D) (r := (RX2, TX2, 11)) hx hb hK hP hD hS k0 4 z 2 hq1 rfl hz1 rfl i1 hd (fun H1 locs1 hP1 hD1 hS1 => fin f (some qv) (.inr (2, z)) H1 locs1 (Or.inl rfl) hq1 hf ⟨qv, hqv, rfl⟩ k hP1 hD1 hS1)
              · subst q9; subst q8
                exact va_astq (D := D) (r := (RX6, TX6, 5)) hx hb hK hP hD hS k0 5 z 6 hq1 rfl hz1 rfl i1 hd (fun H1 locs1 hP1 hD1 hS1 => fin f (some qv) (.inr (2, z)) H1 locs1 (Or.inr rfl) hq1 hf ⟨qv, hqv, rfl⟩ k hP1 hD1 hS1)
          · cases h
        · cases h
      · cases h
    · cases h
  · cases h
set_option maxHeartbeats 4000000 in
set_option maxRecDepth 100000 in
theorem rs_new (C : rvCx p s m args meth c cc own mL D cT ex A ini sc) {BC BS a1 a2 a3 wi pc kc ks idx : Nat} {al st : List rvV} {aw : rvH} {o : rvS} (hd : decode cc pc = .ok (.new idx, 3)) (hk : rvAux own ini (.new idx) a1 a2 wi = true) (hBC : BC ≤ R.cells) (hBS : BS ≤ R.slots)
    (h : rvStep rvTy rvNf rvTxt sc BC BS mL (.new idx) a1 a2 a3 pc al st aw kc ks = some o) (k : rvG p l e R s m args below meth c Q D cT ex A mL o) : rvG p l e R s m args below meth c Q D cT ex A mL (pc, al, st, aw, kc, ks) := by
  obtain ⟨hx, hb, hml, hown, hts, hK, hA, hX, hini, hsc⟩ := C
  intro ws H locs ls stk hw hl hs hP hD hS
  dsimp only at hw hl hs ⊢
  obtain ⟨hc, rfl⟩ := rv_bif h
  obtain ⟨c1, c2⟩ := rv_and hc
  obtain ⟨g1, g2⟩ := rv_and (show (Nat.blt a1 13 && rvW wi (.classLink own idx (rvCn a1))) = true from hk)
  obtain ⟨⟨hi1, hi2, hin, hty⟩, hcl, hnm⟩ := rvCl a1 (rv_blt g1)
  have c1 := rv_ble c1
  have c2 := rv_ble c2
  refine va_new (D := D) (fs := (List.range (rvNf a1)).map (fun k => defaultValue (rvTy a1 k))) hx hb hts hin (rvTy a1) (fun j hj => (hty j hj).2) hown (hts _ (rvW_ok g2)) (hts _ hi1) (hts _ hi2) hK hP hD hS hA hcl (fun j hj => ?_) (by omega) (by omega) hd (fun q H1 hP1 hD1 hS1 => ?_)
  · show _ = List.getD _ j Value.null
    rw [List.getD_eq_getElem?_getD, List.getElem?_map, List.getElem?_range hj]
    rfl
  · exact rvPush k hw hl hs ⟨_, rfl, rvRs_map _ (fun k9 hk9 => rvDef_ok (hty k9 (List.mem_range.mp hk9)).1)⟩ hP1 hD1 hS1
set_option maxHeartbeats 4000000 in
set_option maxRecDepth 100000 in
theorem rs_newarray (C : rvCx p s m args meth c cc own mL D cT ex A ini sc) {BC BS a1 a2 a3 wi pc kc ks : Nat} {t : ArrayType} {al st : List rvV} {aw : rvH} {o : rvS} (hd : decode cc pc = .ok (.newarray t, 2)) (hk : rvAux own ini (.newarray t) a1 a2 wi = true) (hBC : BC ≤ R.cells) (hBS : BS ≤ R.slots)
    (h : rvStep rvTy rvNf rvTxt sc BC BS mL (.newarray t) a1 a2 a3 pc al st aw kc ks = some o) (k : rvG p l e R s m args below meth c Q D cT ex A mL o) : rvG p l e R s m args below meth c Q D cT ex A mL (pc, al, st, aw, kc, ks) := by
  obtain ⟨hx, hb, hml, hown, hts, hK, hA, hX, hini, hsc⟩ := C
  intro ws H locs ls stk hw hl hs hP hD hS
  dsimp only at hw hl hs ⊢
  simp only [rvStep] at h
  split at h
  · rename_i x st
    obtain ⟨hc, rfl⟩ := rv_bif h
    obtain ⟨c1, c2⟩ := rv_and hc
    obtain ⟨c2, c3⟩ := rv_and c2
    obtain ⟨c3, c4⟩ := rv_and c3
    obtain ⟨c4, c5⟩ := rv_and c4
    have c2 := of_decide_eq_true c2
    have c3 := of_decide_eq_true c3
    have c4 := rv_ble c4
    have c5 := rv_ble c5
    obtain ⟨y1, stk1, rfl, ⟨n1, rfl, p1, q1⟩, hs1⟩ := rvRs_cons hs
    obtain ⟨e1, -⟩ := rv_one c1 p1 q1
    have hn0 : ¬ n1 < 0 := by
      rw [Int32.lt_iff_toInt_lt]
      show ¬ n1.toInt < 0
      omega
    have hN : n1.toNatClampNeg = x.1.toNat := by
      show n1.toInt.toNat = _
      rw [e1]
    have hle : x.1.toNat ≤ 100000 := by omega
    cases t
    case int =>
      obtain ⟨g1, g2⟩ := rv_and (show (rvW wi (.arrayClass (newarray.typeOf .int)) && Nat.beq a1 0) = true from hk)
      have ea1 := rv_beq g2
      subst ea1
      refine va_newa (D := D) (atype := .int) (ty := .int) (N' := x.1.toNat) (a0 := (x.1.toNat, .inl (fun _ => 0))) hx hb (hts _ (rvW_ok g1)) rfl hK hP hD hS hA (fun cA => rfl) hn0 hN (rv_bytes hle (by decide)) (by omega) (by omega) hd (fun q cA H1 hK1 hP1 hD1 hS1 => ?_)
      have hca : cA = cT 0 := by
        have r1 := (hK1.2 6 (cA, .int) rfl).2
        have r2 := (hK.2 0 (cT 0, .int) rfl).2
        exact Option.some.inj ((show s.vm.findClass _ = some cA from r1).symm.trans (show s.vm.findClass _ = some (cT 0) from r2))
      subst hca
      exact rvPush k hw hl hs1 (Or.inl ⟨by decide, _, rfl, fun j _ => rvR_K rfl⟩) hP1 hD1 hS1
    case byte =>
      obtain ⟨g1, g2⟩ := rv_and (show (rvW wi (.arrayClass (newarray.typeOf .byte)) && Nat.beq a1 1) = true from hk)
      have ea1 := rv_beq g2
      subst ea1
      refine va_newa (D := D) (atype := .byte) (ty := .byte) (N' := x.1.toNat) (a0 := (x.1.toNat, .inl (fun _ => 0))) hx hb (hts _ (rvW_ok g1)) rfl hK hP hD hS hA (fun cA => rfl) hn0 hN (rv_bytes hle (by decide)) (by omega) (by omega) hd (fun q cA H1 hK1 hP1 hD1 hS1 => ?_)
      have hca : cA = cT 1 := by
        have r1 := (hK1.2 6 (cA, .byte) rfl).2
        have r2 := (hK.2 1 (cT 1, .byte) rfl).2
        exact Option.some.inj ((show s.vm.findClass _ = some cA from r1).symm.trans (show s.vm.findClass _ = some (cT 1) from r2))
      subst hca
      exact rvPush k hw hl hs1 (Or.inl ⟨by decide, _, rfl, fun j _ => rvR_K rfl⟩) hP1 hD1 hS1
    case boolean =>
      obtain ⟨g1, g2⟩ := rv_and (show (rvW wi (.arrayClass (newarray.typeOf .boolean)) && Nat.beq a1 2) = true from hk)
      have ea1 := rv_beq g2
      subst ea1
      refine va_newa (D := D) (atype := .boolean) (ty := .boolean) (N' := x.1.toNat) (a0 := (x.1.toNat, .inl (fun _ => 0))) hx hb (hts _ (rvW_ok g1)) rfl hK hP hD hS hA (fun cA => rfl) hn0 hN (rv_bytes hle (by decide)) (by omega) (by omega) hd (fun q cA H1 hK1 hP1 hD1 hS1 => ?_)
      have hca : cA = cT 2 := by
        have r1 := (hK1.2 6 (cA, .boolean) rfl).2
        have r2 := (hK.2 2 (cT 2, .boolean) rfl).2
        exact Option.some.inj ((show s.vm.findClass _ = some cA from r1).symm.trans (show s.vm.findClass _ = some (cT 2) from r2))
      subst hca
      exact rvPush k hw hl hs1 (Or.inl ⟨by decide, _, rfl, fun j _ => rvR_K rfl⟩) hP1 hD1 hS1
    case long =>
      obtain ⟨g1, g2⟩ := rv_and (show (rvW wi (.arrayClass (newarray.typeOf .long)) && Nat.beq a1 3) = true from hk)
      have ea1 := rv_beq g2
      subst ea1
      refine va_newa (D := D) (atype := .long) (ty := .long) (N' := x.1.toNat) (a0 := (x.1.toNat, .inr (.inl (fun _ => 0)))) hx hb (hts _ (rvW_ok g1)) rfl hK hP hD hS hA (fun cA => rfl) hn0 hN (rv_bytes hle (by decide)) (by omega) (by omega) hd (fun q cA H1 hK1 hP1 hD1 hS1 => ?_)
      have hca : cA = cT 3 := by
        have r1 := (hK1.2 6 (cA, .long) rfl).2
        have r2 := (hK.2 3 (cT 3, .long) rfl).2
        exact Option.some.inj ((show s.vm.findClass _ = some cA from r1).symm.trans (show s.vm.findClass _ = some (cT 3) from r2))
      subst hca
      exact rvPush k hw hl hs1 (Or.inr (Or.inl ⟨rfl, _, rfl, fun j _ => rvR_L0⟩)) hP1 hD1 hS1
    all_goals exact absurd (rv_and (show (_ && false) = true from hk)).2 (by decide)
  · cases h
set_option maxHeartbeats 4000000 in
set_option maxRecDepth 100000 in
theorem rs_anewarray (C : rvCx p s m args meth c cc own mL D cT ex A ini sc) {BC BS a1 a2 a3 wi pc kc ks idx : Nat} {al st : List rvV} {aw : rvH} {o : rvS} (hd : decode cc pc = .ok (.anewarray idx, 3)) (hk : rvAux own ini (.anewarray idx) a1 a2 wi = true) (hBC : BC ≤ R.cells) (hBS : BS ≤ R.slots)
    (h : rvStep rvTy rvNf rvTxt sc BC BS mL (.anewarray idx) a1 a2 a3 pc al st aw kc ks = some o) (k : rvG p l e R s m args below meth c Q D cT ex A mL o) : rvG p l e R s m args below meth c Q D cT ex A mL (pc, al, st, aw, kc, ks) := by
  obtain ⟨hx, hb, hml, hown, hts, hK, hA, hX, hini, hsc⟩ := C
  intro ws H locs ls stk hw hl hs hP hD hS
  dsimp only at hw hl hs ⊢
  simp only [rvStep] at h
  split at h
  · rename_i x st
    obtain ⟨hc, rfl⟩ := rv_bif h
    obtain ⟨c1, c2⟩ := rv_and hc
    obtain ⟨c2, c3⟩ := rv_and c2
    obtain ⟨c3, c4⟩ := rv_and c3
    obtain ⟨c4, c5⟩ := rv_and c4
    have c2 := of_decide_eq_true c2
    have c3 := of_decide_eq_true c3
    have c4 := rv_ble c4
    have c5 := rv_ble c5
    obtain ⟨y1, stk1, rfl, ⟨n1, rfl, p1, q1⟩, hs1⟩ := rvRs_cons hs
    obtain ⟨e1, -⟩ := rv_one c1 p1 q1
    have hn0 : ¬ n1 < 0 := by
      rw [Int32.lt_iff_toInt_lt]
      show ¬ n1.toInt < 0
      omega
    have hN : n1.toNatClampNeg = x.1.toNat := by
      show n1.toInt.toNat = _
      rw [e1]
    have hk : (bif Nat.beq a1 4 then rvW wi (.classLink own idx RX2) else Nat.beq a1 5 && rvW wi (.classLink own idx RX6)) = true := hk
    cases h4 : Nat.beq a1 4 with
    | true =>
      have ea1 := rv_beq h4
      subst ea1
      have hk : rvW wi (.classLink own idx RX2) = true := hk
      refine va_newq (D := D) (C := RX2) (N' := x.1.toNat) hx hb hown (hts _ (rvW_ok hk)) hX.2.1 hK hP hD hS hA hn0 hN (by omega) (by omega) (by omega) hd (fun q cA H1 hK1 hP1 hD1 hS1 => ?_)
      have hca : cA = cT 4 := by
        obtain ⟨-, -, -, -, -, r1⟩ := (hK1.2 6 (cA, .object RX2) rfl).2
        obtain ⟨-, -, -, -, -, r2⟩ := (hK.2 4 (cT 4, .object RX2) rfl).2
        exact Option.some.inj (r1.symm.trans r2)
      subst hca
      exact rvPush k hw hl hs1 (Or.inr (Or.inr ⟨Or.inl rfl, fun _ => none, rfl, fun j _ => rfl⟩)) hP1 hD1 hS1
    | false =>
      rw [h4] at hk
      obtain ⟨g1, hk⟩ := rv_and (show (Nat.beq a1 5 && rvW wi (.classLink own idx RX6)) = true from hk)
      have ea1 := rv_beq g1
      subst ea1
      refine va_newq (D := D) (C := RX6) (N' := x.1.toNat) hx hb hown (hts _ (rvW_ok hk)) hX.2.2.1 hK hP hD hS hA hn0 hN (by omega) (by omega) (by omega) hd (fun q cA H1 hK1 hP1 hD1 hS1 => ?_)
      have hca : cA = cT 5 := by
        obtain ⟨-, -, -, -, -, r1⟩ := (hK1.2 6 (cA, .object RX6) rfl).2
        obtain ⟨-, -, -, -, -, r2⟩ := (hK.2 5 (cT 5, .object RX6) rfl).2
        exact Option.some.inj (r1.symm.trans r2)
      subst hca
      exact rvPush k hw hl hs1 (Or.inr (Or.inr ⟨Or.inr rfl, fun _ => none, rfl, fun j _ => rfl⟩)) hP1 hD1 hS1
  · cases h
set_option maxHeartbeats 4000000 in
set_option maxRecDepth 100000 in
theorem rvStep_ok (C : rvCx p s m args meth c cc own mL D cT ex A ini sc) {BC BS a1 a2 a3 wi pc kc ks len : Nat} {i : Instr} {al st : List rvV} {aw : rvH} {o : rvS} (hd : decode cc pc = .ok (i, rvSz i len)) (hk : rvAux own ini i a1 a2 wi = true) (hBC : BC ≤ R.cells) (hBS : BS ≤ R.slots)
    (h : rvStep rvTy rvNf rvTxt sc BC BS mL i a1 a2 a3 pc al st aw kc ks = some o) (k : rvG p l e R s m args below meth c Q D cT ex A mL o) : rvG p l e R s m args below meth c Q D cT ex A mL (pc, al, st, aw, kc, ks) := by
  cases i
  case iconst => exact rs_iconst C hd hk hBC hBS h k
  case bipush => exact rs_bipush C hd hk hBC hBS h k
  case sipush => exact rs_sipush C hd hk hBC hBS h k
  case lconst => exact rs_lconst C hd hk hBC hBS h k
  case ldc2_w => exact rs_ldc2_w C hd hk hBC hBS h k
  case ldc => exact rs_ldc C hd hk hBC hBS h k
  case aconst_null => exact rs_aconst_null C hd hk hBC hBS h k
  case iload => exact rs_iload C hd hk hBC hBS h k
  case iload_n => exact rs_iload_n C hd hk hBC hBS h k
  case lload => exact rs_lload C hd hk hBC hBS h k
  case lload_n => exact rs_lload_n C hd hk hBC hBS h k
  case aload => exact rs_aload C hd hk hBC hBS h k
  case aload_n => exact rs_aload_n C hd hk hBC hBS h k
  case istore => exact rs_istore C hd hk hBC hBS h k
  case istore_n => exact rs_istore_n C hd hk hBC hBS h k
  case lstore => exact rs_lstore C hd hk hBC hBS h k
  case lstore_n => exact rs_lstore_n C hd hk hBC hBS h k
  case astore => exact rs_astore C hd hk hBC hBS h k
  case astore_n => exact rs_astore_n C hd hk hBC hBS h k
  case iinc => exact rs_iinc C hd hk hBC hBS h k
  case iadd => exact rs_iadd C hd hk hBC hBS h k
  case isub => exact rs_isub C hd hk hBC hBS h k
  case imul => exact rs_imul C hd hk hBC hBS h k
  case iand => exact rs_iand C hd hk hBC hBS h k
  case ior => exact rs_ior C hd hk hBC hBS h k
  case ixor => exact rs_ixor C hd hk hBC hBS h k
  case ishl => exact rs_ishl C hd hk hBC hBS h k
  case ishr => exact rs_ishr C hd hk hBC hBS h k
  case iushr => exact rs_iushr C hd hk hBC hBS h k
  case irem => exact rs_irem C hd hk hBC hBS h k
  case i2b => exact rs_i2b C hd hk hBC hBS h k
  case i2c => exact rs_i2c C hd hk hBC hBS h k
  case i2l => exact rs_i2l C hd hk hBC hBS h k
  case lor => exact rs_lor C hd hk hBC hBS h k
  case lshl => exact rs_lshl C hd hk hBC hBS h k
  case land => exact rs_land C hd hk hBC hBS h k
  case lcmp => exact rs_lcmp C hd hk hBC hBS h k
  case lshr => exact rs_lshr C hd hk hBC hBS h k
  case lushr => exact rs_lushr C hd hk hBC hBS h k
  case l2i => exact rs_l2i C hd hk hBC hBS h k
  case idiv => exact rs_idiv C hd hk hBC hBS h k
  case ineg => exact rs_ineg C hd hk hBC hBS h k
  case lookupswitch => exact rs_lookupswitch C hd hk hBC hBS h k
  case ldc_w => exact rs_ldc_w C hd hk hBC hBS h k
  case dup => exact rs_dup C hd hk hBC hBS h k
  case dup_x1 => exact rs_dup_x1 C hd hk hBC hBS h k
  case dup2 => exact rs_dup2 C hd hk hBC hBS h k
  case pop => exact rs_pop C hd hk hBC hBS h k
  case if_icmp => exact rs_if_icmp C hd hk hBC hBS h k
  case ifCond => exact rs_ifCond C hd hk hBC hBS h k
  case ifnonnull => exact rs_ifnonnull C hd hk hBC hBS h k
  case ifnull => exact rs_ifnull C hd hk hBC hBS h k
  case goto => exact rs_goto C hd hk hBC hBS h k
  case tableswitch => exact rs_tableswitch C hd hk hBC hBS h k
  case getfield => exact rs_getfield C hd hk hBC hBS h k
  case putfield => exact rs_putfield C hd hk hBC hBS h k
  case getstatic => exact rs_getstatic C hd hk hBC hBS h k
  case arraylength => exact rs_arraylength C hd hk hBC hBS h k
  case iaload => exact rs_iaload C hd hk hBC hBS h k
  case baload => exact rs_baload C hd hk hBC hBS h k
  case laload => exact rs_laload C hd hk hBC hBS h k
  case aaload => exact rs_aaload C hd hk hBC hBS h k
  case iastore => exact rs_iastore C hd hk hBC hBS h k
  case bastore => exact rs_bastore C hd hk hBC hBS h k
  case lastore => exact rs_lastore C hd hk hBC hBS h k
  case aastore => exact rs_aastore C hd hk hBC hBS h k
  case new => exact rs_new C hd hk hBC hBS h k
  case newarray => exact rs_newarray C hd hk hBC hBS h k
  case anewarray => exact rs_anewarray C hd hk hBC hBS h k
  all_goals cases h
end RVN
