section XCTD
variable {mth : Nat → Option Nat} {d NM X : Nat} {tab : Nat → Nat → Option rvE} {info : Nat → rvM} {rets : Nat → Option FieldType} {con : Nat → xCt} {opt : Nat → List xOp} {hp : Nat → Nat → Bool} {hn : Nat → Nat → Nat × Nat} {cutp : Nat → Bool} {L : List xCu} {Gd : Nat → (xRes2 → Prop) → rvS → Prop} {Met : Nat → List rvV → rvH → (xRes2 → Prop) → Prop}
set_option maxHeartbeats 4000000 in
theorem xCtx_okF (hc : xClo tab info rets NM mth Gd Met) (hcon : ∀ x, x < X → xCon Met (con x)) {j na n fuel : Nat} {pre : xS} {src : List (Nat × List Nat × Int)} {os : List xOs} {ms ws t0 : List Nat} (hj : j < NM) (hmj : mth j = none) (hn0 : pre.2.2.2.1.length = n) (hna : pre.2.2.2.2.2.1.1.length = na) (hen : (xEntV pre.2.1).length ≤ (info j).1) (h9 : pre.2.1.all xNo9 = true) (hf0 : pre.2.2.2.2.1.all (fun f => !Nat.beq f.1 0) = true)
    (hst : xEnds d na n ms os (xRun mth d NM X na tab info rets con opt hp hn cutp (fun i => L[i]?) ms none fuel 0 j false (xBeg (info j).1 pre ms) t0) = true)
    (hcu : ∀ (ci : Nat) (Tm : xS) (sr : List (Nat × List Nat × Int)) (rk : List xL), L[ci]? = some (Tm, sr, rk) → xKsem Gd na n j ms os (fun i => L[i]?) (some rk) Tm ∧ xBdB d Tm.2.2.2.2.2.1 ws rk = true ∧ rk.all (xWfB Tm.2.2.2.2.2.1.1.length) = true ∧ na ≤ Tm.2.2.2.2.2.1.1.length) :
    xCon Met (j, pre, src, os.map (fun q => q.1), ms) := by
  intro r T pl as aw p1 p2 p3 p4 p5
  dsimp only at p1 p2 p4 p5
  have hrl : r.length = na := by rw [← p5.1.1]; exact hna
  have hpl : pl.length = n := by rw [← p2.1]; exact hn0
  show Met j as aw (xPost (os.map (fun q => q.1)) ms r T pl aw)
  have key : ∀ (m : Nat) (ci : Nat) (Tm : xS) (sr : List (Nat × List Nat × Int)) (rk : List xL) (rc : List Int) (o : rvS), (xMr ws (rk.map (xVal rc))).toNat < m → L[ci]? = some (Tm, sr, rk) → rc.take na = r → xRelR rc xRgn (xFM (rc, T, pl, aw, [])) Tm o → Gd j (xPost (os.map (fun q => q.1)) ms r T pl aw) o := by
    intro m
    induction m with
    | zero => intro ci Tm sr rk rc o hm; omega
    | succ m ih =>
      intro ci Tm sr rk rc o hm hL htk hrel
      obtain ⟨c1, c2, c3, c4⟩ := hcu ci Tm sr rk hL
      have hQ : xQs Tm.2.2.2.2.2.1 rc := by
        obtain ⟨T1, pl1, k⟩ := hrel
        exact k.2.2.2.2.2.2.1
      have hlen : Tm.2.2.2.2.2.1.1.length = rc.length := hQ.1.1
      refine c1 (rc, T, pl, aw, []) (xPost (os.map (fun q => q.1)) ms r T pl aw) rfl ?_ (fun a ha l hl => ?_) (by show na ≤ rc.length; omega) (fun R de q hq hq2 o' ho' => ?_) o ?_
      · intro ci2 Tm2 sr2 rk2 r2 o2 hL2 htk2 hrel2 hlex
        obtain ⟨-, d2, -, -⟩ := hcu ci2 Tm2 sr2 rk2 hL2
        have hQ2 : xQs Tm2.2.2.2.2.2.1 r2 := by
          obtain ⟨T1, pl1, k⟩ := hrel2
          exact k.2.2.2.2.2.2.1
        have b1 := xBdB_ok hQ c2
        have b2 := xBdB_ok hQ2 d2
        have hlt := xMr_lex b1 b2 (hlex rk rfl)
        have nn := (xMr_bd b2).1
        exact ih ci2 Tm2 sr2 rk2 r2 o2 (by omega) hL2 (by rw [htk2]; exact htk) hrel2
      · cases ha
        show xWf rc.length l.1
        rw [← hlen]
        exact xWfB_ok (List.all_eq_true.mp c3 l hl)
      · exact xOutC_ok hq htk (by omega) hpl hq2 ho'
      · obtain ⟨T1, pl1, k⟩ := hrel
        exact ⟨rc, T1, pl1, k⟩
  obtain ⟨Rs, tt, hrun, hR⟩ := xEnds_ok hst
  have hent := xEntV_ok h9 p1
  have hlen : (xEntV pre.2.1).length = rvLen (rvEnt as) := by rw [rvLen_len]; exact xRs_len hent
  refine hc.2.2.2.2.2.2.2.2 j _ as aw hj hmj (by rw [← hlen]; exact hen) ?_
  have hS := xRun_ok (mth := mth) (d := d) (na := na) (opt := opt) (hp := hp) (hn := hn) (cutp := cutp) (cuts := fun i => L[i]?) (ms0 := ms) (rk0 := none) hc hcon fuel 0 j false (r, T, pl, aw, []) (xPost (os.map (fun q => q.1)) ms r T pl aw) hj rfl
  refine hS (fun _ => ?_) (fun a ha => by cases ha) (by show na ≤ r.length; omega) _ t0 Rs tt hrun (fun R hm9 o' ho' => ?_) _ ?_
  · intro ci2 Tm2 sr2 rk2 r2 o2 hL2 htk2 hrel2 hlex
    exact key _ ci2 Tm2 sr2 rk2 r2 o2 (Nat.lt_succ_self _) hL2 (by rw [htk2]; show r.take na = r; rw [← hrl]; exact List.take_length) hrel2
  · obtain ⟨q, hq, hq2⟩ := hR R hm9
    exact xOutC_ok hq (by rw [← hrl]; exact List.take_length) (by omega) hpl hq2 ho'
  · refine ⟨r, T, pl, rfl, ?_, trivial, p2, p3, fun f hf9 => ?_, p5, rfl, rfl⟩
    · show xRs r T pl (xEntV pre.2.1 ++ List.replicate ((info j).1 - (xEntV pre.2.1).length) (.inr (9, 0))) (rvEnt as ++ List.replicate ((info j).1 - rvLen (rvEnt as)) rvU)
      rw [← hlen]
      exact xRs_app hent (xRs_pad _)
    · rcases List.mem_cons.mp hf9 with e | hf9
      · subst e
        exact ⟨⟨[], (List.append_nil r).symm⟩, ⟨Nat.le_refl _, fun i _ => rfl⟩, ⟨[], (List.append_nil pl).symm⟩, fun i g c hi hcc => ⟨c, hcc, fun j _ => rfl⟩⟩
      · refine p4 f hf9 (fun e => ?_) _
        have := List.all_eq_true.mp hf0 f hf9
        rw [e] at this
        cases this
end XCTD
