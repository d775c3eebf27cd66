/-! The checker's run is sound. -/
def xRelR (r : List Int) (rg : Nat → xG) (fm : xF → List Int → List Nat → List Nat → rvH → Prop) (S : xS) (o : rvS) : Prop :=
  ∃ (T pl : List Nat), o.1 = S.1 ∧ xRs r T pl S.2.1 o.2.1 ∧ xRs r T pl S.2.2.1 o.2.2.1 ∧ xSt r T pl S.2.2.2.1 o.2.2.2.1 ∧ xHp rg T pl o.2.2.2.1 ∧ (∀ f ∈ S.2.2.2.2.1, fm f r T pl o.2.2.2.1) ∧ xQs S.2.2.2.2.2.1 r ∧ o.2.2.2.2.1 = S.2.2.2.2.2.2.1 ∧ o.2.2.2.2.2 = S.2.2.2.2.2.2.2
/-- what is known at cuts -/
def xCutH (na : Nat) (cuts : Nat → Option xCu) (rk0 : Option (List xL)) (P : xP) (G : rvS → Prop) : Prop :=
  ∀ (ci : Nat) (Tm : xS) (src : List (Nat × List Nat × Int)) (rk : List xL) (r' : List Int) (o : rvS), cuts ci = some (Tm, src, rk) → r'.take na = P.1.take na → xRelR r' xRgn (xFM (r', P.2)) Tm o → (∀ a, rk0 = some a → xLexP (a.map (xVal P.1)) (rk.map (xVal r'))) → G o
/-- what a contract says -/
def xCon (Met : Nat → List rvV → rvH → (xRes2 → Prop) → Prop) (q : xCt) : Prop :=
  ∀ (r : List Int) (T pl : List Nat) (as : List rvV) (aw : rvH), xRs r T pl q.2.1.2.1 as → xSt r T pl q.2.1.2.2.2.1 aw → xHp xRgn T pl aw → (∀ f ∈ q.2.1.2.2.2.2.1, f.1 ≠ 0 → ∀ P' : xP, xFM P' f r T pl aw) → xQs q.2.1.2.2.2.2.2.1 r → Met q.1 as aw (xPost q.2.2.2.1 q.2.2.2.2 r T pl aw)
def xSnd1 (P : xP) (Post : xRes2 → Prop) (G : rvS → Prop) (g : xS → List Nat → Option (List xS × List Nat)) : Prop :=
  ∀ (S : xS) (tape : List Nat) (Rs : List xS) (t' : List Nat), g S tape = some (Rs, t') → (∀ R ∈ Rs, ∀ o, xRel xRgn (xFM P) R o → Post (o.2.2.1.head?, o.2.2.2.1)) → ∀ o, xRel xRgn (xFM P) S o → G o
theorem xAll2_ok {P : xP} {Post : xRes2 → Prop} {G : rvS → Prop} {g : xS → List Nat → Option (List xS × List Nat)} (hg : xSnd1 P Post G g) : ∀ (Ss : List xS) {tape : List Nat} {Rs : List xS} {t' : List Nat}, xAll2 g Ss tape = some (Rs, t') → (∀ R ∈ Rs, ∀ o, xRel xRgn (xFM P) R o → Post (o.2.2.1.head?, o.2.2.2.1)) → ∀ o, (∃ S ∈ Ss, xRel xRgn (xFM P) S o) → G o
  | [], _, _, _, _, _, o, ⟨S, m, _⟩ => by cases m
  | [S0], tape, Rs, t', h, hR, o, ⟨S, m, hS⟩ => by
      have e := List.mem_singleton.mp m
      subst e
      exact hg S tape Rs t' h hR o hS
  | S0 :: S1 :: Ss, tape, Rs, t', h, hR, o, ⟨S, m, hS⟩ => by
      unfold xAll2 at h
      split at h
      · rename_i a t1 h1
        split at h
        · rename_i b t2 h2
          cases h
          rcases List.mem_cons.mp m with e | m
          · subst e
            exact hg S tape a t1 h1 (fun R hm => hR R (List.mem_append.mpr (Or.inl hm))) o hS
          · exact xAll2_ok hg (S1 :: Ss) h2 (fun R hm => hR R (List.mem_append.mpr (Or.inr hm))) o ⟨S, m, hS⟩
        · cases h
      · cases h
theorem xFM_cf {P : xP} {f : xF} {r : List Int} {T pl : List Nat} {aw : rvH} (l : List rvV) (h : xFM P f r T pl aw) : xFM (P.1, P.2.1, P.2.2.1, P.2.2.2.1, P.2.2.2.2 ++ [l]) f r T pl aw := by
  obtain ⟨kd, ns, vs⟩ := f
  match kd, h with
  | 0, h => exact h
  | 1, h =>
    match ns, h with
    | i :: ns, h =>
      obtain ⟨l2, k1, k2⟩ := h
      exact ⟨l2, x_get_app k1, k2⟩
    | [], h => exact absurd h id
  | 2, h => exact h
  | 3, h =>
    match ns, h with
    | [k], h => exact h
    | [], h => exact absurd h id
    | _ :: _ :: _, h => exact absurd h id
  | kd + 4, h => exact h
theorem xFM_fc {P : xP} {f : xF} {r : List Int} {T pl : List Nat} {aw : rvH} {l : List rvV} (hk : (!(Nat.beq f.1 1 && (match f.2.1 with
      | i :: _ => Nat.beq i P.2.2.2.2.length
      | [] => true))) = true) (h : xFM (P.1, P.2.1, P.2.2.1, P.2.2.2.1, P.2.2.2.2 ++ [l]) f r T pl aw) : xFM P f r T pl aw := by
  obtain ⟨kd, ns, vs⟩ := f
  match kd, h, hk with
  | 0, h, _ => exact h
  | 1, h, hk =>
    match ns, h, hk with
    | i :: ns, h, hk =>
      obtain ⟨l2, k1, k2⟩ := h
      have hk : (!Nat.beq i P.2.2.2.2.length) = true := hk
      have hlt := (List.getElem?_eq_some_iff.mp k1).1
      have hne : i ≠ P.2.2.2.2.length := fun e => by
        rw [e, Nat.beq_refl] at hk
        cases hk
      have hlt2 : i < P.2.2.2.2.length := by
        have hlt : i < (P.2.2.2.2 ++ [l]).length := hlt
        rw [List.length_append] at hlt
        have hlt : i < P.2.2.2.2.length + 1 := hlt
        omega
      refine ⟨l2, ?_, k2⟩
      have k1 : (P.2.2.2.2 ++ [l])[i]? = some l2 := k1
      rw [List.getElem?_append_left hlt2] at k1
      exact k1
    | [], h, _ => exact absurd h id
  | 2, h, _ => exact h
  | 3, h, _ =>
    match ns, h with
    | [k], h => exact h
    | [], h => exact absurd h id
    | _ :: _ :: _, h => exact absurd h id
  | kd + 4, h, _ => exact h
section XSND
variable {mth : Nat → Option Nat} {d NM X na : Nat} {tab : Nat → Nat → Option rvE} {info : Nat → rvM} {rets : Nat → Option FieldType} {con : Nat → xCt} {opt : Nat → List xOp} {hp : Nat → Nat → Bool} {hn : Nat → Nat → Nat × Nat} {cutp : Nat → Bool} {cuts : Nat → Option xCu} {ms0 : List Nat} {rk0 : Option (List xL)} {Gd : Nat → (xRes2 → Prop) → rvS → Prop} {Met : Nat → List rvV → rvH → (xRes2 → Prop) → Prop}
def xSound (NM na : Nat) (cuts : Nat → Option xCu) (rk0 : Option (List xL)) (Gd : Nat → (xRes2 → Prop) → rvS → Prop) (f : Nat → Nat → Bool → xS → List Nat → Option (List xS × List Nat)) : Prop :=
  ∀ (dp j : Nat) (sk : Bool) (P : xP) (Post : xRes2 → Prop), j < NM → P.2.2.2.2.length = dp → (dp = 0 → xCutH na cuts rk0 P (Gd j Post)) → (∀ a, rk0 = some a → ∀ l ∈ a, xWf P.1.length l.1) → na ≤ P.1.length → xSnd1 P Post (Gd j Post) (f dp j sk)
set_option maxHeartbeats 4000000 in
theorem xCall_ok (hc : xClo tab info rets NM mth Gd Met) (hcon : ∀ x, x < X → xCon Met (con x)) {ih : Nat → Nat → Bool → xS → List Nat → Option (List xS × List Nat)} (hih : xSound NM na cuts rk0 Gd ih) {dp j j2 : Nat} {P : xP} {Post : xRes2 → Prop} (hj : j < NM) (hP9 : P.2.2.2.2.length = dp) (hcut : dp = 0 → xCutH na cuts rk0 P (Gd j Post)) (hrk : ∀ a, rk0 = some a → ∀ l ∈ a, xWf P.1.length l.1) (hna : na ≤ P.1.length)
    {args rest : List xV} {S : xS} {tape t' : List Nat} {Rs : List xS} (hs : xCall mth d NM X info con ih dp j j2 args rest S tape = some (Rs, t')) (hR : ∀ R ∈ Rs, ∀ o, xRel xRgn (xFM P) R o → Post (o.2.2.1.head?, o.2.2.2.1))
    {r : List Int} {T pl : List Nat} {o : rvS} {cas crest : List rvV} (h1 : o.1 = S.1) (h2 : xRs r T pl S.2.1 o.2.1) (ha : xRs r T pl args cas) (hr : xRs r T pl rest crest) (h4 : xSt r T pl S.2.2.2.1 o.2.2.2.1) (h5 : xHp xRgn T pl o.2.2.2.1) (h6 : ∀ f ∈ S.2.2.2.2.1, xFM P f r T pl o.2.2.2.1) (h7 : xQs S.2.2.2.2.2.1 r) (h8 : o.2.2.2.2.1 = S.2.2.2.2.2.2.1) (h9 : o.2.2.2.2.2 = S.2.2.2.2.2.2.2)
    (hinv : (info j2).2.1 + 1 ≤ (info j).2.1 → 8 + ((info j2).1 + 11) + (info j2).2.2.2.2.1 ≤ (info j).2.2.2.2.1 → o.2.2.2.2.1 + (info j2).2.2.1 ≤ (info j).2.2.1 → o.2.2.2.2.2 + (info j2).2.2.2.1 ≤ (info j).2.2.2.1 → rvWd crest ≤ 8 → xInv tab info j o.1 o.2.2.1 o.2.2.2.1 o.2.2.2.2.1 o.2.2.2.2.2 j2 cas crest) : Gd j Post o := by
  obtain ⟨-, -, -, -, hcall, -, -, -, hmet⟩ := hc
  obtain ⟨opc, cl, cs, aw, okc, oks⟩ := o
  dsimp only at h1 h2 h4 h5 h6 h8 h9 hinv
  subst h1; subst h8; subst h9
  unfold xCall at hs
  cases hb : (Nat.blt j2 NM && (Nat.ble ((info j2).2.1 + 1) (info j).2.1 && (Nat.ble (8 + ((info j2).1 + 11) + (info j2).2.2.2.2.1) (info j).2.2.2.2.1 && (Nat.ble (S.2.2.2.2.2.2.1 + (info j2).2.2.1) (info j).2.2.1 && (Nat.ble (S.2.2.2.2.2.2.2 + (info j2).2.2.2.1) (info j).2.2.2.1 && Nat.ble (xWd rest) 8))))) with
  | false => rw [hb] at hs; cases hs
  | true =>
    rw [hb] at hs
    simp only [cond_true] at hs
    obtain ⟨b0, e1⟩ := rv_and hb
    obtain ⟨b1, e2⟩ := rv_and e1
    obtain ⟨b2, e3⟩ := rv_and e2
    obtain ⟨b3, e4⟩ := rv_and e3
    obtain ⟨b4, b5⟩ := rv_and e4
    have hj2 := rv_blt b0
    have hi := hinv (rv_ble b1) (rv_ble b2) (rv_ble b3) (rv_ble b4) (Nat.le_trans (xWd_ok hr) (rv_ble b5))
    split at hs
    · rename_i t
      cases hb2 : ((mth j2).isNone && (args.all xNo9 && Nat.ble (xEntV args).length (info j2).1)) with
      | false => rw [hb2] at hs; cases hs
      | true =>
        rw [hb2] at hs
        simp only [cond_true] at hs
        obtain ⟨nm, nz⟩ := rv_and hb2
        obtain ⟨n9, nl⟩ := rv_and nz
        have nm : mth j2 = none := Option.isNone_iff_eq_none.mp nm
        have nl := rv_ble nl
        have hent := xEntV_ok n9 ha
        have hlen : (xEntV args).length = rvLen (rvEnt cas) := by rw [rvLen_len]; exact xRs_len hent
        split at hs
        · rename_i Rs2 t1 hrun
          split at hs
          · rename_i Ss hcat
            refine hcall j Post (fun res => ∃ R ∈ Rs2, ∃ o', xRel xRgn (xFM (P.1, P.2.1, P.2.2.1, P.2.2.2.1, P.2.2.2.2 ++ [cl ++ crest])) R o' ∧ o'.2.2.1.head? = res.1 ∧ o'.2.2.2.1 = res.2) S.1 cl cs aw _ _ j2 cas crest hj hi ?_ ?_
            · refine hmet j2 _ cas aw hj2 nm (by rw [← hlen]; exact nl) ?_
              refine hih (dp + 1) j2 false (P.1, P.2.1, P.2.2.1, P.2.2.2.1, P.2.2.2.2 ++ [cl ++ crest]) _ hj2 (by show (P.2.2.2.2 ++ [cl ++ crest]).length = dp + 1; rw [List.length_append, hP9]; rfl) (fun e => by omega) hrk hna _ t Rs2 t1 hrun (fun R hm o' ho' => ⟨R, hm, o', ho', rfl, rfl⟩) _ ?_
              refine ⟨r, T, pl, rfl, ?_, trivial, h4, h5, fun f hf9 => ?_, h7, rfl, rfl⟩
              · show xRs r T pl (xEntV args ++ List.replicate ((info j2).1 - (xEntV args).length) (.inr (9, 0))) (rvEnt cas ++ List.replicate ((info j2).1 - rvLen (rvEnt cas)) rvU)
                rw [← hlen]
                exact xRs_app hent (xRs_pad _)
              · rcases List.mem_cons.mp hf9 with e | hf9
                · subst e
                  refine ⟨cl ++ crest, ?_, ?_⟩
                  · show (P.2.2.2.2 ++ [cl ++ crest])[dp]? = _
                    rw [← hP9, List.getElem?_append_right (Nat.le_refl _)]
                    simp
                  · show xRs r T pl (xDec (xEncN (S.2.1 ++ rest)) (xEncV (S.2.1 ++ rest))) (cl ++ crest)
                    rw [xDec_enc]
                    exact xRs_app h2 hr
                · exact xFM_cf (cl ++ crest) (h6 f hf9)
            · intro res hres
              obtain ⟨R, hm, o', ho', q1, q2⟩ := hres
              refine xAll2_ok (hih dp j false P Post hj hP9 hcut hrk hna) Ss hs hR _ ?_
              obtain ⟨a, ea, hin⟩ := xCat_ok (a := []) hcat _ (List.mem_map.mpr ⟨R, hm, rfl⟩)
              unfold xBackS at ea
              split at ea
              · rename_i vs hvs
                obtain ⟨hcond, ea⟩ := rv_bif ea
                obtain ⟨c1, c2⟩ := rv_and hcond
                have c1 := of_decide_eq_true c1
                have c2 := rv_ble c2
                subst ea
                refine ⟨_, hin _ (List.mem_singleton.mpr rfl), ?_⟩
                obtain ⟨r', T', pl', k1, k2, k3, k4, k5, k6, k7, k8, k9⟩ := ho'
                have fr := k6 _ (xHas_ok hvs)
                obtain ⟨l, l1, l2⟩ := fr
                have l1 : (P.2.2.2.2 ++ [cl ++ crest])[dp]? = some l := l1
                rw [← hP9, List.getElem?_append_right (Nat.le_refl _)] at l1
                simp at l1
                have l2 : xRs r' T' pl' (xDec (xEncN (S.2.1 ++ rest)) vs) l := l2
                rw [c1, xDec_enc, ← l1] at l2
                obtain ⟨m1, m2⟩ := xRs_cut (xRs_len h2) l2
                have hst : o'.2.2.1 = res.1.toList := by
                  have hl9 := xRs_len k3
                  cases hs9 : o'.2.2.1 with
                  | nil =>
                    rw [hs9] at q1
                    rw [← q1]
                    rfl
                  | cons c ds =>
                    rw [hs9] at q1 hl9
                    cases ds with
                    | nil =>
                      rw [← q1]
                      rfl
                    | cons c2 ds =>
                      simp at hl9
                      omega
                refine ⟨r', T', pl', rfl, m1, ?_, by show xSt r' T' pl' R.2.2.2.1 res.2; rw [← q2]; exact k4, by show xHp xRgn T' pl' res.2; rw [← q2]; exact k5, fun f hf9 => ?_, k7, rfl, rfl⟩
                · show xRs r' T' pl' (R.2.2.1 ++ rest) (res.1.toList ++ crest)
                  rw [← hst]
                  exact xRs_app k3 m2
                · obtain ⟨g1, g2⟩ := List.mem_filter.mp hf9
                  rw [← hP9] at g2
                  show xFM P f r' T' pl' res.2
                  rw [← q2]
                  exact xFM_fc g2 (k6 f g1)
              · cases ea
          · cases hs
        · cases hs
    · rename_i x t
      rcases hcx : con x with ⟨j3, pre, src, outs, ms⟩
      rw [hcx] at hs
      dsimp only at hs
      cases hb2 : (Nat.blt x X && Nat.beq j3 j2) with
      | false => rw [hb2] at hs; cases hs
      | true =>
        rw [hb2] at hs
        simp only [cond_true] at hs
        obtain ⟨x1, x2⟩ := rv_and hb2
        have x2 := rv_beq x2
        subst x2
        split at hs
        · rename_i s hsrc
          cases hb3 : (s.all (xWfB S.2.2.2.2.2.1.1.length) && (xFitVs s S.2.2.2.2.2.1 S.2.2.2.1 pre.2.2.2.1.length pre.2.1 args && xFitK d s S pre)) with
          | false => rw [hb3] at hs; cases hs
          | true =>
            rw [hb3] at hs
            simp only [cond_true] at hs
            obtain ⟨w1, w2⟩ := rv_and hb3
            obtain ⟨w2, w3⟩ := rv_and w2
            have hw : ∀ l ∈ s, xWf r.length l.1 := fun l hl => by
              have := xWfB_ok (List.all_eq_true.mp w1 l hl)
              rw [h7.1.1] at this
              exact this
            split at hs
            · rename_i Ss hcat
              obtain ⟨f1, f2, f3, f4⟩ := xFitK_ok h4 h5 h6 h7 w3
              have hC := hcon x (rv_blt x1)
              rw [hcx] at hC
              have hM := hC (s.map (xVal r)) T (pl.take pre.2.2.2.1.length) cas aw (xFitVs_ok h7 h4 w2 ha) f2 f3 f4 f1
              refine hcall j Post _ S.1 cl cs aw _ _ j3 cas crest hj hi hM ?_
              intro res hres
              obtain ⟨O, hO, tt, tT, g1, g2, g3, g4, g5, g6⟩ := hres
              refine xAll2_ok (hih dp j false P Post hj hP9 hcut hrk hna) Ss hs hR _ ?_
              obtain ⟨a, ea, hin⟩ := xCat_ok (a := []) hcat _ (List.mem_map.mpr ⟨O, hO, rfl⟩)
              obtain ⟨S', m', hS'⟩ := xAft_ok (cl := cl) hw h2 hr h4 h6 h7 ea g1 g2 g3 g4 g5 g6
              exact ⟨S', hin S' m', hS'⟩
            · cases hs
        · cases hs
    · cases hs
end XSND
