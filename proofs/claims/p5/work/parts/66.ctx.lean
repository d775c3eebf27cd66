/-! A contract is proved by runs from its start and from its cuts; each cut is passed with a smaller rank. -/
def xPrd : List Nat → Int
  | [] => 1
  | w :: ws => (w : Int) * xPrd ws
def xMr : List Nat → List Int → Int
  | _ :: ws, v :: vs => v * xPrd ws + xMr ws vs
  | _, _ => 0
def xBd : List Nat → List Int → Prop
  | w :: ws, v :: vs => 0 ≤ v ∧ v + 1 ≤ (w : Int) ∧ xBd ws vs
  | [], [] => True
  | _, _ => False
theorem xPrd_nn : ∀ ws : List Nat, 0 ≤ xPrd ws
  | [] => by show (0 : Int) ≤ 1; omega
  | w :: ws => Int.mul_nonneg (Int.natCast_nonneg w) (xPrd_nn ws)
theorem xMr_bd : ∀ {ws : List Nat} {vs : List Int}, xBd ws vs → 0 ≤ xMr ws vs ∧ xMr ws vs + 1 ≤ xPrd ws
  | [], [], _ => ⟨Int.le_refl _, Int.le_refl _⟩
  | [], _ :: _, h => absurd h id
  | _ :: _, [], h => absurd h id
  | w :: ws, v :: vs, h => by
      obtain ⟨h1, h2, h3⟩ := h
      obtain ⟨k1, k2⟩ := xMr_bd h3
      have p := xPrd_nn ws
      have q1 : 0 ≤ v * xPrd ws := Int.mul_nonneg h1 p
      have q2 : (v + 1) * xPrd ws ≤ (w : Int) * xPrd ws := Int.mul_le_mul_of_nonneg_right h2 p
      rw [Int.add_mul, Int.one_mul] at q2
      rw [xMr, xPrd]
      omega
theorem xMr_lex : ∀ {ws : List Nat} {as bs : List Int}, xBd ws as → xBd ws bs → xLexP as bs → xMr ws bs + 1 ≤ xMr ws as
  | [], [], _, _, _, h => absurd h id
  | [], _ :: _, _, h, _, _ => absurd h id
  | _ :: _, [], _, h, _, _ => absurd h id
  | _ :: _, _ :: _, [], _, h, _ => absurd h id
  | w :: ws, a :: as, b :: bs, ha, hb, h => by
      obtain ⟨a1, a2, a3⟩ := ha
      obtain ⟨b1, b2, b3⟩ := hb
      have p := xPrd_nn ws
      obtain ⟨k1, k2⟩ := xMr_bd a3
      obtain ⟨k3, k4⟩ := xMr_bd b3
      rw [xLexP] at h
      rw [xMr, xMr]
      rcases h with h | ⟨h, h2⟩
      · have q : (b + 1) * xPrd ws ≤ a * xPrd ws := Int.mul_le_mul_of_nonneg_right (by omega) p
        rw [Int.add_mul, Int.one_mul] at q
        omega
      · have ih := xMr_lex a3 b3 h2
        have q : b * xPrd ws ≤ a * xPrd ws := Int.mul_le_mul_of_nonneg_right h p
        omega
noncomputable def xBdB (d : Nat) (Q : xQ) : List Nat → List xL → Bool
  | w :: ws, l :: ls => (xEnt Q.1 Q.2 d l && xEnt Q.1 Q.2 d (xSub (xK ((w : Int) - 1)) l)) && xBdB d Q ws ls
  | [], [] => true
  | _, _ => false
theorem xBdB_ok {d : Nat} {Q : xQ} {r : List Int} (h : xQs Q r) : ∀ {ws : List Nat} {ls : List xL}, xBdB d Q ws ls = true → xBd ws (ls.map (xVal r))
  | [], [], _ => trivial
  | [], _ :: _, hb => by cases hb
  | _ :: _, [], hb => by cases hb
  | w :: ws, l :: ls, hb => by
      rw [xBdB] at hb
      obtain ⟨b1, b2⟩ := rv_and hb
      obtain ⟨b3, b4⟩ := rv_and b1
      have k3 := xEnt_ok h.1 h.2.1 d b3
      have k4 := xEnt_ok h.1 h.2.1 d b4
      rw [xSub_ok, xK_ok] at k4
      exact ⟨k3, by omega, xBdB_ok h b2⟩
abbrev xOs : Type := xS × List (Nat × List Nat × Int)
noncomputable def xOutC (d na n : Nat) (ms : List Nat) (R : xS) (q : xOs) : Bool := match xSrcs R [] q.2 with
  | some s => xIdB na 0 s && (xFitVs s R.2.2.2.2.2.1 R.2.2.2.1 q.1.2.2.2.1.length q.1.2.2.1 R.2.2.1 && (xFitK d s R q.1 && (Nat.beq q.1.2.2.2.1.length n && (Nat.ble q.1.2.2.1.length 1 && (match xHas R.2.2.2.2.1 0 ms with
    | some _ => true
    | none => false)))))
  | none => false
theorem xOutC_ok {d na n : Nat} {ms : List Nat} {R : xS} {q : xOs} {os : List xOs} {rc r0 : List Int} {T0 pl0 : List Nat} {aw0 : rvH} {o : rvS} (hq : q ∈ os) (hrc : rc.take na = r0) (hna : na ≤ rc.length) (hpl : pl0.length = n) (h : xOutC d na n ms R q = true) (hR : xRel xRgn (xFM (rc, T0, pl0, aw0, [])) R o) : xPost (os.map (fun q => q.1)) ms r0 T0 pl0 aw0 (o.2.2.1.head?, o.2.2.2.1) := by
  obtain ⟨r, T, pl, h1, h2, h3, h4, h5, h6, h7, h8, h9⟩ := hR
  unfold xOutC at h
  split at h
  · rename_i s hsrc
    obtain ⟨a0, e1⟩ := rv_and h
    obtain ⟨a1, e2⟩ := rv_and e1
    obtain ⟨a2, e3⟩ := rv_and e2
    obtain ⟨a3, e4⟩ := rv_and e3
    obtain ⟨a4, a5⟩ := rv_and e4
    have a3 := rv_beq a3
    have a4 := rv_ble a4
    have h0 : xFM (rc, T0, pl0, aw0, []) (0, ms, []) r T pl o.2.2.2.1 := by
      split at a5
      · rename_i v hv
        exact h6 (0, ms, v) (xHas_ok hv)
      · cases a5
    obtain ⟨⟨t, et⟩, ⟨z1, z2⟩, ⟨u, eu⟩, z4⟩ := h0
    have et : r = rc ++ t := et
    have eu : pl = pl0 ++ u := eu
    have z1 : T0.length ≤ T.length := z1
    have z2 : ∀ i, i < T0.length → T[i]? = T0[i]? := z2
    have z4 : xFrm ms T0 aw0 o.2.2.2.1 := z4
    have k1 := xFitVs_ok h7 h4 a1 h3
    obtain ⟨f1, f2, f3, f4⟩ := xFitK_ok h4 h5 h6 h7 a2
    have htk : pl.take q.1.2.2.2.1.length = pl0 := by
      rw [a3, eu, ← hpl]
      simp
    rw [htk] at k1 f2 f3 f4
    have hr : s.map (xVal r) = r0 ++ (s.map (xVal r)).drop na := by
      have e := xIdB_ok na 0 s r a0 (by rw [et, List.length_append]; omega)
      rw [List.drop_zero, et, List.take_append_of_le_length hna, hrc, ← et] at e
      rw [← e]
      exact (List.take_append_drop na _).symm
    have hT : T = T0 ++ T.drop T0.length := by
      have e : T.take T0.length = T0 := by
        apply List.ext_getElem?
        intro i
        rw [List.getElem?_take]
        by_cases hi : i < T0.length
        · simp [hi]
          have := z2 i hi
          rw [List.getElem?_eq_getElem hi] at this
          exact this
        · simp [hi]
      have e2 := (List.take_append_drop T0.length T).symm
      rw [e] at e2
      exact e2
    have hres : (o.2.2.1.head?).toList = o.2.2.1 := by
      have hl := xRs_len k1
      cases hs : o.2.2.1 with
      | nil => rfl
      | cons c ds =>
        cases ds with
        | nil => rfl
        | cons c2 ds =>
          rw [hs] at hl
          simp at hl
          omega
    refine ⟨q.1, List.mem_map.mpr ⟨q, hq, rfl⟩, (s.map (xVal r)).drop na, T.drop T0.length, ?_, ?_, ?_, ?_, ?_, z4⟩
    · show xRs _ _ pl0 q.1.2.2.1 (o.2.2.1.head?).toList
      rw [hres, ← hr, ← hT]
      exact k1
    · rw [← hr, ← hT]; exact f2
    · rw [← hT]; exact f3
    · rw [← hr, ← hT]; exact f4
    · rw [← hr]; exact f1
  · cases h
section XCTX
variable {mth : Nat → Option Nat} {d NM X : Nat} {tab : Nat → Nat → Option rvE} {info : Nat → rvM} {rets : Nat → Option FieldType} {con : Nat → xCt} {opt : Nat → List xOp} {hp : Nat → Nat → Bool} {hn : Nat → Nat → Nat × Nat} {cutp : Nat → Bool} {L : List xCu} {Gd : Nat → (xRes2 → Prop) → rvS → Prop} {Met : Nat → List rvV → rvH → (xRes2 → Prop) → Prop}
noncomputable def xEnds (d na n : Nat) (ms : List Nat) (os : List xOs) (o : Option (List xS × List Nat)) : Bool := match o with
  | some (Rs, _) => Rs.all (fun R => os.any (xOutC d na n ms R))
  | none => false
theorem xEnds_ok {na n : Nat} {ms : List Nat} {os : List xOs} {o : Option (List xS × List Nat)} (h : xEnds d na n ms os o = true) : ∃ Rs t, o = some (Rs, t) ∧ ∀ R ∈ Rs, ∃ q ∈ os, xOutC d na n ms R q = true := by
  unfold xEnds at h
  split at h
  · rename_i Rs t
    exact ⟨Rs, t, rfl, fun R hR => List.any_eq_true.mp (List.all_eq_true.mp h R hR)⟩
  · cases h
/-- the state at the start of a contract's method -/
def xBeg (mL : Nat) (pre : xS) (ms : List Nat) : xS := (0, xEntV pre.2.1 ++ List.replicate (mL - (xEntV pre.2.1).length) (.inr (9, 0)), [], pre.2.2.2.1, (0, ms, []) :: pre.2.2.2.2.1, pre.2.2.2.2.2.1, 0, 0)
set_option maxHeartbeats 4000000 in
theorem xCtx_ok (hc : xClo tab info rets NM mth Gd Met) (hcon : ∀ x, x < X → xCon Met (con x)) {j na n fuel : Nat} {pre : xS} {src : List (Nat × List Nat × Int)} {os : List xOs} {ms ws t0 : List Nat} {tp : Nat → List Nat} (hj : j < NM) (hmj : mth j = none) (hn0 : pre.2.2.2.1.length = n) (hna : pre.2.2.2.2.2.1.1.length = na) (hen : (xEntV pre.2.1).length ≤ (info j).1) (h9 : pre.2.1.all xNo9 = true) (hf0 : pre.2.2.2.2.1.all (fun f => !Nat.beq f.1 0) = true)
    (hst : xEnds d na n ms os (xRun mth d NM X na tab info rets con opt hp hn cutp (fun i => L[i]?) ms none fuel 0 j false (xBeg (info j).1 pre ms) t0) = true)
    (hcu : ∀ (ci : Nat) (Tm : xS) (sr : List (Nat × List Nat × Int)) (rk : List xL), L[ci]? = some (Tm, sr, rk) → xEnds d na n ms os (xRun mth d NM X na tab info rets con opt hp hn cutp (fun i => L[i]?) ms (some rk) fuel 0 j true Tm (tp ci)) = true ∧ xBdB d Tm.2.2.2.2.2.1 ws rk = true ∧ rk.all (xWfB Tm.2.2.2.2.2.1.1.length) = true ∧ na ≤ Tm.2.2.2.2.2.1.1.length) :
    xCon Met (j, pre, src, os.map (fun q => q.1), ms) := by
  intro r T pl as aw p1 p2 p3 p4 p5
  dsimp only at p1 p2 p4 p5
  have hrl : r.length = na := by rw [← p5.1.1]; exact hna
  have hpl : pl.length = n := by rw [← p2.1]; exact hn0
  show Met j as aw (xPost (os.map (fun q => q.1)) ms r T pl aw)
  have key : ∀ (m : Nat) (ci : Nat) (Tm : xS) (sr : List (Nat × List Nat × Int)) (rk : List xL) (rc : List Int) (o : rvS), (xMr ws (rk.map (xVal rc))).toNat < m → L[ci]? = some (Tm, sr, rk) → rc.take na = r → xRelR rc xRgn (xFM (rc, T, pl, aw, [])) Tm o → Gd j (xPost (os.map (fun q => q.1)) ms r T pl aw) o := by
    intro m
    induction m with
    | zero => intro ci Tm sr rk rc o hm; omega
    | succ m ih =>
      intro ci Tm sr rk rc o hm hL htk hrel
      obtain ⟨c1, c2, c3, c4⟩ := hcu ci Tm sr rk hL
      obtain ⟨Rs, tt, hrun, hR⟩ := xEnds_ok c1
      have hQ : xQs Tm.2.2.2.2.2.1 rc := by
        obtain ⟨T1, pl1, k⟩ := hrel
        exact k.2.2.2.2.2.2.1
      have hlen : Tm.2.2.2.2.2.1.1.length = rc.length := hQ.1.1
      have hS := xRun_ok (mth := mth) (d := d) (na := na) (opt := opt) (hp := hp) (hn := hn) (cutp := cutp) (cuts := fun i => L[i]?) (ms0 := ms) (rk0 := some rk) hc hcon fuel 0 j true (rc, T, pl, aw, []) (xPost (os.map (fun q => q.1)) ms r T pl aw) hj rfl
      refine hS (fun _ => ?_) (fun a ha l hl => ?_) (by show na ≤ rc.length; omega) Tm (tp ci) Rs tt hrun (fun R hm9 o' ho' => ?_) o ?_
      · intro ci2 Tm2 sr2 rk2 r2 o2 hL2 htk2 hrel2 hlex
        obtain ⟨-, d2, -, -⟩ := hcu ci2 Tm2 sr2 rk2 hL2
        have hQ2 : xQs Tm2.2.2.2.2.2.1 r2 := by
          obtain ⟨T1, pl1, k⟩ := hrel2
          exact k.2.2.2.2.2.2.1
        have b1 := xBdB_ok hQ c2
        have b2 := xBdB_ok hQ2 d2
        have hlt := xMr_lex b1 b2 (hlex rk rfl)
        have nn := (xMr_bd b2).1
        exact ih ci2 Tm2 sr2 rk2 r2 o2 (by omega) hL2 (by rw [htk2]; exact htk) hrel2
      · cases ha
        show xWf rc.length l.1
        rw [← hlen]
        exact xWfB_ok (List.all_eq_true.mp c3 l hl)
      · obtain ⟨q, hq, hq2⟩ := hR R hm9
        exact xOutC_ok hq htk (by omega) hpl hq2 ho'
      · obtain ⟨T1, pl1, k⟩ := hrel
        exact ⟨rc, T1, pl1, k⟩
  obtain ⟨Rs, tt, hrun, hR⟩ := xEnds_ok hst
  have hent := xEntV_ok h9 p1
  have hlen : (xEntV pre.2.1).length = rvLen (rvEnt as) := by rw [rvLen_len]; exact xRs_len hent
  refine hc.2.2.2.2.2.2.2.2 j _ as aw hj hmj (by rw [← hlen]; exact hen) ?_
  have hS := xRun_ok (mth := mth) (d := d) (na := na) (opt := opt) (hp := hp) (hn := hn) (cutp := cutp) (cuts := fun i => L[i]?) (ms0 := ms) (rk0 := none) hc hcon fuel 0 j false (r, T, pl, aw, []) (xPost (os.map (fun q => q.1)) ms r T pl aw) hj rfl
  refine hS (fun _ => ?_) (fun a ha => by cases ha) (by show na ≤ r.length; omega) _ t0 Rs tt hrun (fun R hm9 o' ho' => ?_) _ ?_
  · intro ci2 Tm2 sr2 rk2 r2 o2 hL2 htk2 hrel2 hlex
    exact key _ ci2 Tm2 sr2 rk2 r2 o2 (Nat.lt_succ_self _) hL2 (by rw [htk2]; show r.take na = r; rw [← hrl]; exact List.take_length) hrel2
  · obtain ⟨q, hq, hq2⟩ := hR R hm9
    exact xOutC_ok hq (by rw [← hrl]; exact List.take_length) (by omega) hpl hq2 ho'
  · refine ⟨r, T, pl, rfl, ?_, trivial, p2, p3, fun f hf9 => ?_, p5, rfl, rfl⟩
    · show xRs r T pl (xEntV pre.2.1 ++ List.replicate ((info j).1 - (xEntV pre.2.1).length) (.inr (9, 0))) (rvEnt as ++ List.replicate ((info j).1 - rvLen (rvEnt as)) rvU)
      rw [← hlen]
      exact xRs_app hent (xRs_pad _)
    · rcases List.mem_cons.mp hf9 with e | hf9
      · subst e
        exact ⟨⟨[], (List.append_nil r).symm⟩, ⟨Nat.le_refl _, fun i _ => rfl⟩, ⟨[], (List.append_nil pl).symm⟩, fun i g c hi hcc => ⟨c, hcc, fun j _ => rfl⟩⟩
      · refine p4 f hf9 (fun e => ?_) _
        have := List.all_eq_true.mp hf0 f hf9
        rw [e] at this
        cases this
end XCTX
