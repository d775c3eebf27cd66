/-! Calls and bodies of methods with a post-condition of their answers. -/
def rvQP (D : va_G) (cT : Nat → ClassId) (ex : Nat → Nat → Nat) (ws : va_W) (sz : Nat) (Post : Option rvV × rvH → Prop) : Array Value → State → Outcome → State → Prop := fun a st oc t => ∃ r, Post r ∧ rvQ D cT ex ws sz r a st oc t
def rvMetP (l : Launch) (D : va_G) (cT : Nat → ClassId) (ex : Nat → Nat → Nat) (yn : Nat → MethodName) (cd : Nat → ByteArray) (info : Nat → rvM) (rets : Nat → Option FieldType) (j : Nat) (as : List rvV) (aw : rvH) (Post : Option rvV × rvH → Prop) : Prop :=
  ∀ (ws : va_W) (xs : List Value) (sz : Nat), rvWoo cT (rvAd ws) ex aw ws → rvRs (rvAd ws) ex as xs →
    Met l (yn j) (.code (yn j) (cd j) (info j).1 (rets j) :: rvWl) (rvRm (info j)) (rvPc D cT ex ws sz xs) (rvQP D cT ex ws sz Post) (info j).2.2.1 (info j).2.2.2.1 (va_A ws sz)
section RVCP
variable {p : Program} {l : Launch} {e : Env} {R : Room} {s : State} {m : MethodId} {args : Array Value} {below : List Frame} {meth : Method} {c : Code} {Q : State → Prop} {cc : ByteArray} {own : String} {mL : Nat} {D : va_G} {cT cB : Nat → ClassId} {ex : Nat → Nat → Nat} {A : Nat → Prop} {sc : List (Int × Int)} {ini : Bool}
variable {yn : Nat → MethodName} {cd : Nat → ByteArray} {info : Nat → rvM} {rets : Nat → Option FieldType} {kd : Nat → Nat × Nat} {NM : Nat} {call : Nat → List rvV → rvH → rvO}
theorem rv_goP {ws : va_W} {H : Heap} {locs : List Loc} {kc ks mc ms pc : Nat} {ls : Array Slot} {st0 rest : List Value} {a : Array Value} {Post : Option rvV × rvH → Prop} {aw : rvH} {al rst : List rvV} (hA : ∀ q, s.heap.size ≤ q → A q) (hcB : ∀ q, q < 6 → cB q = cT q)
    (hr : va_Run p l e R s m args below meth c H locs kc ks mc ms (F0 m pc ls st0) rest (rvQP D cB ex ws H.size Post a) (va_A ws H.size)) (hw : rvWo cT (rvAd ws) ex aw ws) (hl : rvLo (rvAd ws) ex mL al ls) (hs : rvRs (rvAd ws) ex rst rest) (hD : va_D A ws) (hS : va_S A s.heap H locs)
    (k : ∀ r, Post r → rvG p l e R s m args below meth c Q D cT ex A mL (pc + 3, al, r.1.toList ++ rst, r.2, kc + mc, ks + ms)) : W p l e R s m args below meth c H locs kc ks Q (F0 m pc ls st0) := by
  intro T hT X
  obtain ⟨v, st₀, t, T', L, h0, X', hL, e1, e2, ⟨r, hpost, v', w1, hv, ⟨t1, ht1⟩, hw1, ho, hP1, hD1, hz, hk⟩, st⟩ := hr T hT X
  cases hv
  rw [h0] at hz hk
  have hF := rv_free hD hS hA
  have hS1 : va_S A s.heap T'.heap (locs ++ L) := ⟨Nat.le_trans hS.1 (by rw [e1]; exact hz), fun q h1 h2 => by rw [e1, hk q (Nat.lt_of_lt_of_le h1 hS.1) (fun z => h2 (hF q z))]; exact hS.2.1 q h1 h2, fun q hq => by
      rcases List.mem_append.mp hq with h | h
      · exact hS.2.2 q h
      · exact hF _ (hL q h)⟩
  rw [← e1] at hP1
  have hw2 : rvWo cT (rvAd w1) ex r.2 w1 := ⟨rvWoo_c hcB hw1, fun k9 hk9 => by
    have h9 := hw.2 k9 hk9
    rw [ht1, List.getElem?_append_left (List.getElem?_eq_some_iff.mp h9).1]
    exact h9⟩
  obtain ⟨t2, a1, b1⟩ := k r hpost w1 T'.heap (locs ++ L) ls (v.toList ++ rest) hw2 (by rw [ht1]; exact rvLo_mono _ hl) (rvOp_rs ho (by rw [ht1]; exact rvRs_mono _ hs)) hP1 (hD1.weaken (fun _ q _ h => hF q.1 h)) hS1 T' rfl X'
  exact ⟨t2, st t2 a1, b1⟩
set_option maxHeartbeats 4000000 in
set_option maxRecDepth 100000 in
theorem rvInvP_ok (C : rvCx p s m args meth c cc own mL D cT ex A ini sc) (hcB : ∀ q, q < 6 → cB q = cT q) (hM : ∀ j, j < NM → rvMp yn cd info rets kd j) {Post : Option rvV × rvH → Prop} {tab : Nat → Nat → Option rvE} {j BC BS BF BL pc kc ks a1 : Nat} {al st as rest : List rvV} {aw : rvH} (hT : rvTk yn kd NM own cc ini (tab j))
    (hBF : (info j).2.1 ≤ R.frames) (hBC : (info j).2.2.1 ≤ R.cells) (hBS : (info j).2.2.2.1 ≤ R.slots) (hBL : (info j).2.2.2.2.1 ≤ R.locals) (hi0 : xInv tab info j pc st aw kc ks a1 as rest) (hmet : rvMetP l D cB ex yn cd info rets a1 as aw Post)
    (k : ∀ r, Post r → rvG p l e R s m args below meth c Q D cT ex A mL (pc + 3, al, r.1.toList ++ rest, r.2, kc + (info a1).2.2.1, ks + (info a1).2.2.2.1)) : rvG p l e R s m args below meth c Q D cT ex A mL (pc, al, st, aw, kc, ks) := by
  obtain ⟨hx, hb, hml, hown, hts, hK, hA, hX, hini, hsc⟩ := C
  intro ws H locs ls stk hw hl hs hP hD hS
  dsimp only at hw hl hs ⊢
  have hKB : va_K D vwCl (rvTys cB) s := by rw [← rvTys_c hcB]; exact hK
  have hwB : rvWoo cB (rvAd ws) ex aw ws := rvWoo_c (fun q hq => (hcB q hq).symm) hw.1
  have hls : ls.size = mL := by obtain ⟨-, l9, h9, -⟩ := hl; exact h9.1
  obtain ⟨i, len, a2, a3, wi, as0, rest0, htab, hpop, b1, b2, b3, b4, f2, hi⟩ := hi0
  obtain ⟨hd, -, hk⟩ := hT pc i len a1 a2 a3 wi htab
  rcases hinf : info a1 with ⟨mL', fr, ce, sl, lo, cls⟩
  rw [hinf] at b1 b2 b3 b4 hi k
  dsimp only at b1 b2 b3 b4 hi k
  have hmt : ∀ xs, rvRs (rvAd ws) ex as xs → Met l (yn a1) (.code (yn a1) (cd a1) mL' (rets a1) :: rvWl) (rvRm (info a1)) (rvPc D cB ex ws H.size xs) (rvQP D cB ex ws H.size Post) ce sl (va_A ws H.size) := by
    intro xs hxs
    have h9 := hmet ws xs H.size hwB hxs
    rw [hinf] at h9 ⊢
    exact h9
  have hrm : rvRm (info a1) = { frames := fr, cells := ce, slots := sl, locals := lo } := by rw [hinf]; rfl
  rw [hrm] at hmt
  obtain ⟨us, vs, rfl, hlen, hus, hvs⟩ := rvRs_pop a2 (ys := []) hpop hs trivial
  rw [List.append_nil] at hus
  have huslen : us.reverse.length = a2 := by rw [List.length_reverse]; exact hlen
  rcases hi with ⟨⟨idx, rfl⟩, h9, rfl, rfl⟩ | ⟨hvk, v, rfl, rfl, hrc⟩
  · have hk : (bif Nat.beq a3 8 then rvW wi (.methodLink own idx arraycopyName) else Nat.blt a1 NM && (Nat.beq (kd a1).1 1 && (Nat.beq (kd a1).2 a2 && (bif Nat.beq a3 0 then rvW wi (.methodLink own idx (yn a1)) else rvNw wi own idx (yn a1))))) = true := hk
    rw [h9] at hk
    obtain ⟨g1, g2⟩ := rv_and (show (Nat.blt a1 NM && (Nat.beq (kd a1).1 1 && (Nat.beq (kd a1).2 a2 && (bif Nat.beq a3 0 then rvW wi (.methodLink own idx (yn a1)) else rvNw wi own idx (yn a1))))) = true from hk)
    obtain ⟨g2, g3⟩ := rv_and g2
    obtain ⟨g3, g4⟩ := rv_and g3
    have g1 := rv_blt g1
    obtain ⟨m1, ⟨m2, m3, m4⟩, m5, m6, -, m7, -⟩ := hM a1 g1
    have m8 := m7 (rv_beq g2)
    rw [rv_beq g3] at m4
    rw [hinf] at m5
    dsimp only at m5
    have hM9 := hmt us.reverse hus
    cases h3 : Nat.beq a3 0 with
    | true =>
      rw [h3] at g4
      refine rv_goP hA hcB (va_runS (As := us.reverse) (rest := vs) ⟨hx, hb, hml, hown, hts⟩ hM9 (va_cwS a2 hts (rvGood_cons (rvW_ok g4) (rvGood_cons m8 (rvGood_cons m6 (rvGood_cons m5 rvGood_self)))) rfl rfl rfl ⟨m2, m3, m4⟩ ⟨by show fr + 1 ≤ _; omega, by show 8 + (mL' + 11) + lo ≤ _; omega⟩) ⟨rv_blind, rv_pre hKB hX hA hP hD hS⟩ rfl huslen hls (by rw [List.reverse_reverse]) ?_ hd ⟨by omega, by omega⟩) hw hl hvs hD hS k
      exact lv_room (by rw [rvRs_wd hvs]; exact f2)
    | false =>
      rw [h3] at g4
      obtain ⟨host, hhost⟩ := rvNw_ok g4
      refine rv_goP hA hcB (va_runSN (As := us.reverse) (rest := vs) ⟨hx, hb, hml, hown, hts⟩ hM9 ⟨va_cnB a2 hts (rvGood_cons m5 rvGood_self) rfl rfl rfl (hX.1 _ hhost) (hts _ m6) ⟨m2, m3, m4⟩ ⟨by show fr + 1 ≤ _; omega, by show 8 + (mL' + 11) + lo ≤ _; omega⟩, hts _ m8, trivial⟩ ⟨rv_blind, rv_pre hKB hX hA hP hD hS⟩ rfl huslen hls (by rw [List.reverse_reverse]) ?_ hd ⟨by omega, by omega⟩) hw hl hvs hD hS k
      exact lv_room (by rw [rvRs_wd hvs]; exact f2)
  · obtain ⟨x, stk1, rfl, hxv, hs1⟩ := rvRs_cons hvs
    have hM9 := hmt (x :: us.reverse) ⟨hxv, hus⟩
    have hxr : ∃ q : Nat, x = .ref q := by
      rcases hrc with ⟨k0, fl, rfl, -⟩ | ⟨k0, rfl, -, -⟩
      · obtain ⟨q, -, rfl⟩ := hxv
        exact ⟨q, rfl⟩
      · exact ⟨_, hxv⟩
    obtain ⟨q, rfl⟩ := hxr
    rcases hvk with ⟨idx, rfl⟩ | ⟨⟨idx, rfl⟩, h9⟩
    · obtain ⟨g1, g2⟩ := rv_and (show (Nat.blt a1 NM && (Nat.beq (kd a1).1 0 && (Nat.beq (kd a1).2 a2 && rvW wi (.methodLink own idx (yn a1))))) = true from hk)
      obtain ⟨g2, g3⟩ := rv_and g2
      obtain ⟨g3, g4⟩ := rv_and g3
      have g1 := rv_blt g1
      obtain ⟨m1, ⟨m2, m3, m4⟩, m5, m6, m7, -, -⟩ := hM a1 g1
      obtain ⟨m8, m9, m10⟩ := m7 (rv_beq g2)
      rw [rv_beq g3] at m4
      rw [hinf] at m5 m10
      dsimp only at m5 m10
      have cw : ∀ C, (yn a1).cls = C → CallW R s args own C idx (yn a1) (cd a1) mL' (rets a1) (.code (yn a1) (cd a1) mL' (rets a1) :: rvWl) { frames := fr, cells := ce, slots := sl, locals := lo } ce sl a2 := by
        intro C hC
        subst hC
        exact cwV a2 hts (rvGood_cons (rvW_ok g4) (rvGood_cons m8 (rvGood_cons m9 (rvGood_cons m6 (rvGood_cons m5 rvGood_self))))) rfl rfl rfl ⟨rfl, m2, m3, m4⟩ ⟨by show fr + 1 ≤ _; omega, by show 8 + (mL' + 11) + lo ≤ _; omega⟩
      rcases hrc with ⟨k0, fl, rfl, hc0⟩ | ⟨k0, rfl, f1, f0⟩
      · obtain ⟨q9, hq, hqq⟩ := hxv
        cases hqq
        obtain ⟨⟨a, e0⟩, hq1, fvs, he, hfvs⟩ := rvWo_get hw hc0
        have he : e0 = .inr (cls, fvs) := he
        subst he
        have hqa := rvAd_ref hq1 hq
        subst hqa
        rcases m10 with ⟨m11, m12⟩ | ⟨m11, m12⟩
        · have hcl := (rvCl cls m11).2.1
          refine rv_goP hA hcB (va_runV (As := us.reverse) (rest := stk1) ⟨hx, hb, hml, hown, hts⟩ hM9 (cw (rvCn cls) m12.symm) ⟨rv_blind, va_recv hK hP hcl hq1, rv_pre hKB hX hA hP hD hS⟩ rfl huslen hls (by rw [List.reverse_reverse]) ?_ hd ⟨by omega, by omega⟩) hw hl hs1 hD hS k
          exact lv_room (by rw [rvRs_wd hs1]; exact f2)
        · rw [m11] at hq1
          obtain ⟨rr, hrr, -⟩ := hP k0 _ hq1
          exact absurd hrr (by rw [rvCl_none (by omega)]; exact fun z => by cases z)
      · have hxv : Value.ref q = .ref (ex 3 k0) := hxv
        cases hxv
        have hstr : (yn a1).cls = "java/lang/String" := by
          rcases m10 with ⟨m11, m12⟩ | ⟨m11, m12⟩
          · omega
          · exact m12
        obtain ⟨-, -, -, -, hSt, -⟩ := id hX
        refine rv_goP hA hcB (va_runV (As := us.reverse) (rest := stk1) ⟨hx, hb, hml, hown, hts⟩ hM9 (cw _ hstr) ⟨rv_blind, vk_recv (i := 0) (hSt k0 f1) (by decide) hS, rv_pre hKB hX hA hP hD hS⟩ rfl huslen hls (by rw [List.reverse_reverse]) ?_ hd ⟨by omega, by omega⟩) hw hl hs1 hD hS k
        exact lv_room (by rw [rvRs_wd hs1]; exact f2)
    · have hk : (bif Nat.beq a3 9 then rvW wi (.methodLink own idx objectInit) else Nat.blt a1 NM && (Nat.beq (kd a1).1 2 && (Nat.beq (kd a1).2 a2 && (bif Nat.beq a3 0 then rvW wi (.methodLink own idx (yn a1)) else rvNw wi own idx (yn a1))))) = true := hk
      rw [h9] at hk
      obtain ⟨g1, g2⟩ := rv_and (show (Nat.blt a1 NM && (Nat.beq (kd a1).1 2 && (Nat.beq (kd a1).2 a2 && (bif Nat.beq a3 0 then rvW wi (.methodLink own idx (yn a1)) else rvNw wi own idx (yn a1))))) = true from hk)
      obtain ⟨g2, g3⟩ := rv_and g2
      obtain ⟨g3, g4⟩ := rv_and g3
      have g1 := rv_blt g1
      obtain ⟨m1, ⟨m2, m3, m4⟩, m5, m6, -, -, m7⟩ := hM a1 g1
      obtain ⟨m8, m9, m10⟩ := m7 (rv_beq g2)
      rw [rv_beq g3] at m4
      rw [hinf] at m5
      dsimp only at m5
      rw [m10] at m5 hM9
      cases h3 : Nat.beq a3 0 with
      | true =>
        rw [h3] at g4
        refine rv_goP hA hcB (va_runI (As := us.reverse) (rest := stk1) ⟨hx, hb, hml, hown, hts⟩ hM9 (cwI a2 hts (rvGood_cons m5 rvGood_self) rfl rfl rfl (hts _ m6) (hts _ (rvW_ok g4)) (hts _ m8) m9 ⟨m2, m3, m4⟩ ⟨by show fr + 1 ≤ _; omega, by show 8 + (mL' + 11) + lo ≤ _; omega⟩) ⟨rv_blind, rv_pre hKB hX hA hP hD hS⟩ rfl huslen hls (by rw [List.reverse_reverse]) ?_ hd ⟨by omega, by omega⟩) hw hl hs1 hD hS k
        exact lv_room (by rw [rvRs_wd hs1]; exact f2)
      | false =>
        rw [h3] at g4
        obtain ⟨host, hhost⟩ := rvNw_ok g4
        refine rv_goP hA hcB (va_runIN (As := us.reverse) (rest := stk1) ⟨hx, hb, hml, hown, hts⟩ hM9 ⟨va_cnB a2 hts (rvGood_cons m5 rvGood_self) rfl rfl rfl (hX.1 _ hhost) (hts _ m6) ⟨m2, m3, m4⟩ ⟨by show fr + 1 ≤ _; omega, by show 8 + (mL' + 11) + lo ≤ _; omega⟩, m9, hts _ m8⟩ ⟨rv_blind, rv_pre hKB hX hA hP hD hS⟩ rfl huslen hls (by rw [List.reverse_reverse]) ?_ hd ⟨by omega, by omega⟩) hw hl hs1 hD hS k
        exact lv_room (by rw [rvRs_wd hs1]; exact f2)
end RVCP
