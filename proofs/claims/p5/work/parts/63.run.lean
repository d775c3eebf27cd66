/-! The checker's run of a method's body; a list of numbers tells it what to do where there is a choice. -/
/-- a contract: the method, its start, where the start's variables are found, its outcomes, what it may write -/
abbrev xCt : Type := Nat × xS × List (Nat × List Nat × Int) × List xS × List Nat
/-- a cut: its template, where its variables are found, its rank -/
abbrev xCu : Type := xS × List (Nat × List Nat × Int) × List xL
def xLess (o : Option xV) (c : Int) : Option xL := match o with
  | some (.inl v) => some (xSub (xSm v) (xK c))
  | _ => none
def xSrc1 (S : xS) (args : List xV) (q : Nat × List Nat × Int) : Option xL := match q with
  | (0, [i], c) => xLess S.2.1[i]? c
  | (1, [i], c) => xLess S.2.2.1[i]? c
  | (2, [k, j], c) => (match S.2.2.2.1[k]? with
    | some s => xLess (xFind s.2 (j : Int)) c
    | none => none)
  | (4, [k, k2, j2, off], c) => (match S.2.2.2.1[k2]? with
    | some s => (match xFind s.2 (j2 : Int) with
      | some (.inl v) => (match xKn S k (xUp v ((off : Int) - 100)) with
        | some w => xLess (some (.inl w)) c
        | none => none)
      | _ => none)
    | none => none)
  | (6, [x], _) => some ([(x, 1)], 0)
  | (7, [i], c) => xLess args[i]? c
  | _ => none
def xSrcs (S : xS) (args : List xV) : List (Nat × List Nat × Int) → Option (List xL)
  | [] => some []
  | q :: t => (match xSrc1 S args q, xSrcs S args t with
    | some l, some u => some (l :: u)
    | _, _ => none)
def xAll2 (f : xS → List Nat → Option (List xS × List Nat)) : List xS → List Nat → Option (List xS × List Nat)
  | [], t => some ([], t)
  | [S], t => f S t
  | S :: S2 :: Ss, t => (match f S t with
    | some (a, t1) => (match xAll2 f (S2 :: Ss) t1 with
      | some (b, t2) => some (a ++ b, t2)
      | none => none)
    | none => none)
noncomputable def xLex (d : Nat) (Q : xQ) : List xL → List xL → Bool
  | a :: as, b :: bs => xEnt Q.1 Q.2 d (xSub (xSub a b) (xK 1)) || (xEnt Q.1 Q.2 d (xSub a b) && xLex d Q as bs)
  | _, _ => false
def xLexP : List Int → List Int → Prop
  | a :: as, b :: bs => b < a ∨ (b ≤ a ∧ xLexP as bs)
  | _, _ => False
theorem xLex_ok {d : Nat} {Q : xQ} {r : List Int} (h : xQs Q r) : ∀ {as bs : List xL}, xLex d Q as bs = true → xLexP (as.map (xVal r)) (bs.map (xVal r))
  | [], _, hb => by cases hb
  | _ :: _, [], hb => by cases hb
  | a :: as, b :: bs, hb => by
      rw [xLex] at hb
      rw [List.map_cons, List.map_cons, xLexP]
      rcases rv_or' hb with e | e
      · have := xEnt_ok h.1 h.2.1 d e
        rw [xSub_ok, xSub_ok, xK_ok] at this
        exact Or.inl (by omega)
      · obtain ⟨e1, e2⟩ := rv_and e
        have := xEnt_ok h.1 h.2.1 d e1
        rw [xSub_ok] at this
        exact Or.inr ⟨by omega, xLex_ok h e2⟩
def xWfB (n : Nat) (l : xL) : Bool := l.1.all (fun q => Nat.blt q.1 n)
theorem xWfB_ok {n : Nat} {l : xL} (h : xWfB n l = true) : xWf n l.1 := fun q hq => rv_blt (List.all_eq_true.mp h q hq)
/-- the first sums are the first variables -/
def xIdB : Nat → Nat → List xL → Bool
  | 0, _, _ => true
  | n + 1, i, ([(x, k)], c) :: t => (Nat.beq x i && (decide (k = 1) && decide (c = 0))) && xIdB n (i + 1) t
  | _ + 1, _, _ => false
theorem xIdB_ok : ∀ (n i : Nat) (s : List xL) (r : List Int), xIdB n i s = true → i + n ≤ r.length → (s.map (xVal r)).take n = (r.drop i).take n
  | 0, i, s, r, _, _ => by simp
  | n + 1, i, ([(x, k)], c) :: t, r, h, hl => by
      rw [xIdB] at h
      obtain ⟨h1, h2⟩ := rv_and h
      obtain ⟨b1, e2⟩ := rv_and h1
      obtain ⟨b2, b3⟩ := rv_and e2
      have b1 := rv_beq b1
      have b2 := of_decide_eq_true b2
      have b3 := of_decide_eq_true b3
      subst b1; subst b2; subst b3
      have ih := xIdB_ok n (x + 1) t r h2 (by omega)
      have hx : x < r.length := by omega
      rw [List.map_cons, List.take_succ_cons, ih, List.drop_eq_getElem_cons hx, List.take_succ_cons]
      congr 1
      show 1 * r.getD x 0 + 0 + 0 = r[x]
      rw [List.getD_eq_getElem?_getD, List.getElem?_eq_getElem hx]
      show 1 * r[x] + 0 + 0 = r[x]
      omega
  | _ + 1, _, [], _, h, _ => by cases h
  | _ + 1, _, ([], _) :: _, _, h, _ => by cases h
  | _ + 1, _, (_ :: _ :: _, _) :: _, _, h, _ => by cases h
def xGtM (Q : xQ) (x : Nat × Int × Int) : Bool := match xItv Q x with
  | some a => decide (-2147483647 ≤ a.1)
  | none => false
/-- Math.max, Math.min, Math.abs -/
def xMth (k : Nat) (inf : rvM) (S : xS) : Option (List xS) := match S with
  | (pc, al, st, _, _, Q, kc, ks) => bif Nat.ble 1 inf.2.1 && (Nat.ble kc inf.2.2.1 && Nat.ble ks inf.2.2.2.1) then (match k, st with
    | 0, .inl y :: .inl x :: rest => bif Nat.ble (2 * rest.length + 13) inf.2.2.2.2.1 then some (xJ S (pc + 3) al (.inl y :: rest) (xOl (xKnow (xSub (xSub (xSm y) (xSm x)) (xK 1)) Q)) ++ xJ S (pc + 3) al (.inl x :: rest) (xOl (xKnow (xSub (xSm x) (xSm y)) Q))) else none
    | 1, .inl y :: .inl x :: rest => bif Nat.ble (2 * rest.length + 13) inf.2.2.2.2.1 then some (xJ S (pc + 3) al (.inl y :: rest) (xOl (xKnow (xSub (xSub (xSm x) (xSm y)) (xK 1)) Q)) ++ xJ S (pc + 3) al (.inl x :: rest) (xOl (xKnow (xSub (xSm y) (xSm x)) Q))) else none
    | 2, .inl x :: rest => bif Nat.ble (2 * rest.length + 13) inf.2.2.2.2.1 then (bif xGtM Q x then some (xJ S (pc + 3) al (.inl x :: rest) (xOl (xKnow (xSm x) Q)) ++ xJ S (pc + 3) al (.inl (x.1, -x.2.1, -x.2.2) :: rest) (xOl (xKnow (xSub (xK (-1)) (xSm x)) Q))) else some [xNx S (pc + 3) al ((xNew xT32 Q).2 :: rest) (xNew xT32 Q).1]) else none
    | _, _ => none) else none
section XRUN
variable (mth : Nat → Option Nat) (d NM X na : Nat) (tab : Nat → Nat → Option rvE) (info : Nat → rvM) (rets : Nat → Option FieldType) (con : Nat → xCt) (opt : Nat → List xOp) (hp : Nat → Nat → Bool) (hn : Nat → Nat → Nat × Nat) (cutp : Nat → Bool) (cuts : Nat → Option xCu) (ms0 : List Nat) (rk0 : Option (List xL))
/-- the state stands at a cut -/
noncomputable def xCutC (S : xS) (ci : Nat) : Bool := match cuts ci with
  | some (Tm, src, rk) => (match xSrcs S [] src with
    | some s => xIdB na 0 s && (Nat.beq Tm.1 S.1 && (xFitVs s S.2.2.2.2.2.1 S.2.2.2.1 Tm.2.2.2.1.length Tm.2.1 S.2.1 && (xFitVs s S.2.2.2.2.2.1 S.2.2.2.1 Tm.2.2.2.1.length Tm.2.2.1 S.2.2.1 && (xFitK d s S Tm && (Nat.beq Tm.2.2.2.1.length S.2.2.2.1.length && (Nat.beq Tm.2.2.2.2.2.2.1 S.2.2.2.2.2.2.1 && (Nat.beq Tm.2.2.2.2.2.2.2 S.2.2.2.2.2.2.2 && ((match xHas S.2.2.2.2.1 0 ms0 with
        | some _ => true
        | none => false) && (Tm.2.2.2.2.1.all (fun f => !Nat.beq f.1 0 || decide (f.2.1 = ms0)) && (match rk0 with
          | none => true
          | some a => (match xSbs s rk with
            | some b => xLex d S.2.2.2.2.2.1 a b
            | none => false)))))))))))
    | none => false)
  | none => false
noncomputable def xRetB (j : Nat) (i : Instr) (S : xS) : Bool := match i, S.2.2.1, rets j with
  | .ireturn, [.inl a], some ty => (match ty with
    | .int => true
    | .boolean => xIn d S.2.2.2.2.2.1 a 0 1
    | .char => xIn d S.2.2.2.2.2.1 a 0 65535
    | .byte => xIn d S.2.2.2.2.2.1 a (-128) 127
    | _ => false)
  | .lreturn, [.inr (1, _)], some .long => true
  | .return_, [], none => true
  | _, _, _ => false
/-- back from a callee that was run in line -/
def xBackS (dp ce sl : Nat) (S : xS) (rest : List xV) (R : xS) : Option (List xS) := match xHas R.2.2.2.2.1 1 (dp :: xEncN (S.2.1 ++ rest)) with
  | some vs => bif decide (vs = xEncV (S.2.1 ++ rest)) && Nat.ble R.2.2.1.length 1 then some [(S.1 + 3, S.2.1, R.2.2.1 ++ rest, R.2.2.2.1, R.2.2.2.2.1.filter (fun f => !(Nat.beq f.1 1 && (match f.2.1 with
      | i :: _ => Nat.beq i dp
      | [] => true))), R.2.2.2.2.2.1, S.2.2.2.2.2.2.1 + ce, S.2.2.2.2.2.2.2 + sl)] else none
  | none => none
noncomputable def xCall (ih : Nat → Nat → Bool → xS → List Nat → Option (List xS × List Nat)) (dp j j2 : Nat) (args rest : List xV) (S : xS) (tape : List Nat) : Option (List xS × List Nat) :=
  bif Nat.blt j2 NM && (Nat.ble ((info j2).2.1 + 1) (info j).2.1 && (Nat.ble (8 + ((info j2).1 + 11) + (info j2).2.2.2.2.1) (info j).2.2.2.2.1 && (Nat.ble (S.2.2.2.2.2.2.1 + (info j2).2.2.1) (info j).2.2.1 && (Nat.ble (S.2.2.2.2.2.2.2 + (info j2).2.2.2.1) (info j).2.2.2.1 && Nat.ble (xWd rest) 8)))) then
    (match tape with
    | 0 :: t => bif (mth j2).isNone && (args.all xNo9 && Nat.ble (xEntV args).length (info j2).1) then (match ih (dp + 1) j2 false (0, xEntV args ++ List.replicate ((info j2).1 - (xEntV args).length) (.inr (9, 0)), [], S.2.2.2.1, (1, dp :: xEncN (S.2.1 ++ rest), xEncV (S.2.1 ++ rest)) :: S.2.2.2.2.1, S.2.2.2.2.2.1, 0, 0) t with
      | some (Rs, t1) => (match xCat (Rs.map (xBackS dp (info j2).2.2.1 (info j2).2.2.2.1 S rest)) with
        | some Ss => xAll2 (ih dp j false) Ss t1
        | none => none)
      | none => none) else none
    | (x + 1) :: t => (match con x with
      | (j3, pre, src, outs, ms) => bif Nat.blt x X && Nat.beq j3 j2 then (match xSrcs S args src with
        | some s => bif s.all (xWfB S.2.2.2.2.2.1.1.length) && (xFitVs s S.2.2.2.2.2.1 S.2.2.2.1 pre.2.2.2.1.length pre.2.1 args && xFitK d s S pre) then (match xCat (outs.map (xAft d s ms (info j2).2.2.1 (info j2).2.2.2.1 S rest)) with
          | some Ss => xAll2 (ih dp j false) Ss t
          | none => none) else none
        | none => none) else none)
    | [] => none) else none
noncomputable def xIns1 (ih : Nat → Nat → Bool → xS → List Nat → Option (List xS × List Nat)) (dp j : Nat) (S : xS) (tape : List Nat) : Option (List xS × List Nat) := match tab j S.1 with
  | some (i, _, a1, a2, a3, _) => (match i with
    | .ireturn => bif xRetB d rets j i S && (Nat.ble S.2.2.2.2.2.2.1 (info j).2.2.1 && Nat.ble S.2.2.2.2.2.2.2 (info j).2.2.2.1) then some ([S], tape) else none
    | .lreturn => bif xRetB d rets j i S && (Nat.ble S.2.2.2.2.2.2.1 (info j).2.2.1 && Nat.ble S.2.2.2.2.2.2.2 (info j).2.2.2.1) then some ([S], tape) else none
    | .return_ => bif xRetB d rets j i S && (Nat.ble S.2.2.2.2.2.2.1 (info j).2.2.1 && Nat.ble S.2.2.2.2.2.2.2 (info j).2.2.2.1) then some ([S], tape) else none
    | .invokestatic _ => bif Nat.beq a3 8 then (match xCpy xRgn d (info j).2.1 (info j).2.2.2.2.1 S with
        | some Ss => xAll2 (ih dp j false) Ss tape
        | none => none) else (match mth a1 with
        | some k => bif Nat.beq a3 0 then (match xMth k (info j) S with
          | some Ss => xAll2 (ih dp j false) Ss tape
          | none => none) else none
        | none => (match xPopA a2 S.2.2.1 [] with
          | some (as, rest) => xCall mth d NM X info con ih dp j a1 as rest S tape
          | none => none))
    | .invokespecial _ => bif Nat.beq a3 9 then (match xObj (info j).2.1 (info j).2.2.2.2.1 S with
        | some Ss => xAll2 (ih dp j false) Ss tape
        | none => none) else (match xPopA a2 S.2.2.1 [] with
        | some (as, v :: rest) => bif xRcv S.2.2.2.1 (info a1).2.2.2.2.2 v then xCall mth d NM X info con ih dp j a1 (v :: as) rest S tape else none
        | _ => none)
    | .invokevirtual _ => (match xPopA a2 S.2.2.1 [] with
        | some (as, v :: rest) => bif xRcv S.2.2.2.1 (info a1).2.2.2.2.2 v then xCall mth d NM X info con ih dp j a1 (v :: as) rest S tape else none
        | _ => none)
    | i => (match xStep d (info j).2.2.1 (info j).2.2.2.1 (info j).1 (hn j S.1) i a1 a2 S with
        | some Ss => xAll2 (ih dp j false) Ss tape
        | none => none))
  | none => none
/-- at a cut, or an instruction -/
noncomputable def xMid (ih : Nat → Nat → Bool → xS → List Nat → Option (List xS × List Nat)) (dp j : Nat) (sk : Bool) (S : xS) (tape : List Nat) : Option (List xS × List Nat) :=
  bif Nat.beq dp 0 && (!sk && cutp S.1) then (match tape with
    | 0 :: t => xIns1 mth d NM X tab info rets con hn ih dp j S t
    | (ci + 1) :: t => bif xCutC d na cuts ms0 rk0 S ci then some ([], t) else none
    | [] => none)
  else xIns1 mth d NM X tab info rets con hn ih dp j S tape
noncomputable def xF1 (ih : Nat → Nat → Bool → xS → List Nat → Option (List xS × List Nat)) (dp j : Nat) (sk : Bool) (S : xS) (tape : List Nat) : Option (List xS × List Nat) :=
  bif hp j S.1 then (match tape with
    | k :: t => (match xGhs d (opt k) [S] with
      | some Ss => xAll2 (xMid mth d NM X na tab info rets con hn cutp cuts ms0 rk0 ih dp j sk) Ss t
      | none => none)
    | [] => none)
  else xMid mth d NM X na tab info rets con hn cutp cuts ms0 rk0 ih dp j sk S tape
noncomputable def xRun (n : Nat) : Nat → Nat → Bool → xS → List Nat → Option (List xS × List Nat) :=
  Nat.rec (motive := fun _ => Nat → Nat → Bool → xS → List Nat → Option (List xS × List Nat)) (fun _ _ _ _ _ => none) (fun _ ih => xF1 mth d NM X na tab info rets con opt hp hn cutp cuts ms0 rk0 ih) n
end XRUN
