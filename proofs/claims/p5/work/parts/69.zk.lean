/-! A run in small steps: the callers wait in a list, so that a run can be cut anywhere; a place of it is told by its path. -/
/-- a caller that waits: its method, its state, the rest of its stack, cells and slots of the callee -/
abbrev xKf : Type := Nat × xS × List xV × Nat × Nat
/-- callers, method, mode (0 all, 1 no cut, 2 no ghost step, 3 neither), state -/
abbrev xKc : Type := List xKf × Nat × Nat × xS
def xKto (fr : List xKf) (j : Nat) (o : Option (List xS)) : Option (List xKc) := match o with
  | some Ss => some (Ss.map (fun S => (fr, j, 0, S)))
  | none => none
section XKD
variable (mth : Nat → Option Nat) (d NM X : Nat) (tab : Nat → Nat → Option rvE) (info : Nat → rvM) (rets : Nat → Option FieldType) (con : Nat → xCt) (opt : Nat → List xOp) (hp : Nat → Nat → Bool) (hn : Nat → Nat → Nat × Nat) (cutp : Nat → Bool) (j0 : Nat) (ck : Nat → xS → Bool) (oc : xS → Bool)
noncomputable def xKcall (fr : List xKf) (j j2 : Nat) (args rest : List xV) (S : xS) (y : Nat) : Option (List xKc) :=
  bif Nat.blt j2 NM && (Nat.ble ((info j2).2.1 + 1) (info j).2.1 && (Nat.ble (8 + ((info j2).1 + 11) + (info j2).2.2.2.2.1) (info j).2.2.2.2.1 && (Nat.ble (S.2.2.2.2.2.2.1 + (info j2).2.2.1) (info j).2.2.1 && (Nat.ble (S.2.2.2.2.2.2.2 + (info j2).2.2.2.1) (info j).2.2.2.1 && Nat.ble (xWd rest) 8)))) then
    (match y with
    | 0 => bif (mth j2).isNone && (args.all xNo9 && Nat.ble (xEntV args).length (info j2).1) then some [((j, S, rest, (info j2).2.2.1, (info j2).2.2.2.1) :: fr, j2, 0, (0, xEntV args ++ List.replicate ((info j2).1 - (xEntV args).length) (.inr (9, 0)), [], S.2.2.2.1, (1, fr.length :: xEncN (S.2.1 ++ rest), xEncV (S.2.1 ++ rest)) :: S.2.2.2.2.1, S.2.2.2.2.2.1, 0, 0))] else none
    | x + 1 => (match con x with
      | (j3, pre, src, outs, ms) => bif Nat.blt x X && Nat.beq j3 j2 then (match xSrcs S args src with
        | some s => bif s.all (xWfB S.2.2.2.2.2.1.1.length) && (xFitVs s S.2.2.2.2.2.1 S.2.2.2.1 pre.2.2.2.1.length pre.2.1 args && xFitK d s S pre) then xKto fr j (xCat (outs.map (xAft d s ms (info j2).2.2.1 (info j2).2.2.2.1 S rest))) else none
        | none => none) else none)) else none
noncomputable def xKret (fr : List xKf) (S : xS) : Option (List xKc) := match fr with
  | [] => bif oc S then some [] else none
  | (j1, S1, rest, ce, sl) :: fr1 => xKto fr1 j1 (xBackS fr1.length ce sl S1 rest S)
noncomputable def xKins (fr : List xKf) (j : Nat) (S : xS) (y : Nat) : Option (List xKc) := match tab j S.1 with
  | some (i, _, a1, a2, a3, _) => (match i with
    | .ireturn => bif xRetB d rets j i S && (Nat.ble S.2.2.2.2.2.2.1 (info j).2.2.1 && Nat.ble S.2.2.2.2.2.2.2 (info j).2.2.2.1) then xKret oc fr S else none
    | .lreturn => bif xRetB d rets j i S && (Nat.ble S.2.2.2.2.2.2.1 (info j).2.2.1 && Nat.ble S.2.2.2.2.2.2.2 (info j).2.2.2.1) then xKret oc fr S else none
    | .return_ => bif xRetB d rets j i S && (Nat.ble S.2.2.2.2.2.2.1 (info j).2.2.1 && Nat.ble S.2.2.2.2.2.2.2 (info j).2.2.2.1) then xKret oc fr S else none
    | .invokestatic _ => bif Nat.beq a3 8 then xKto fr j (xCpy xRgn d (info j).2.1 (info j).2.2.2.2.1 S) else (match mth a1 with
        | some k => bif Nat.beq a3 0 then xKto fr j (xMth k (info j) S) else none
        | none => (match xPopA a2 S.2.2.1 [] with
          | some (as, rest) => xKcall mth d NM X info con fr j a1 as rest S y
          | none => none))
    | .invokespecial _ => bif Nat.beq a3 9 then xKto fr j (xObj (info j).2.1 (info j).2.2.2.2.1 S) else (match xPopA a2 S.2.2.1 [] with
        | some (as, v :: rest) => bif xRcv S.2.2.2.1 (info a1).2.2.2.2.2 v then xKcall mth d NM X info con fr j a1 (v :: as) rest S y else none
        | _ => none)
    | .invokevirtual _ => (match xPopA a2 S.2.2.1 [] with
        | some (as, v :: rest) => bif xRcv S.2.2.2.1 (info a1).2.2.2.2.2 v then xKcall mth d NM X info con fr j a1 (v :: as) rest S y else none
        | _ => none)
    | i => xKto fr j (xStep d (info j).2.2.1 (info j).2.2.2.1 (info j).1 (hn j S.1) i a1 a2 S))
  | none => none
def xKtop (fr : List xKf) : Bool := match fr with
  | [] => true
  | _ :: _ => false
/-- one small step; y tells it what to do where there is a choice -/
noncomputable def xKone (c : xKc) (y : Nat) : Option (List xKc) := match c with
  | (fr, j, md, S) =>
    bif Nat.ble md 1 && hp j S.1 then (match xGhs d (opt y) [S] with
      | some Ss => some (Ss.map (fun S' => (fr, j, (bif Nat.beq md 0 then 2 else 3), S')))
      | none => none)
    else (bif xKtop fr && ((Nat.beq md 0 || Nat.beq md 2) && cutp S.1) then (match y with
      | 0 => some [(fr, j, 3, S)]
      | ci + 1 => bif Nat.beq j j0 && ck ci S then some [] else none)
    else xKins mth d NM X tab info rets con hn oc fr j S y)
end XKD
/-- the place to which a path leads; the path's last step stands first -/
def xKfol (one : xKc → Nat → Option (List xKc)) (root : xKc) : List (Nat × Nat) → Option xKc
  | [] => some root
  | (x, i) :: p => (match xKfol one root p with
    | some c => (match one c x with
      | some cs => cs[i]?
      | none => none)
    | none => none)
def xKeq : List (Nat × Nat) → List (Nat × Nat) → Bool
  | [], [] => true
  | (a, b) :: s, (c, e) :: t => Nat.beq a c && (Nat.beq b e && xKeq s t)
  | _, _ => false
theorem xKeq_ok : ∀ {s t : List (Nat × Nat)}, xKeq s t = true → s = t
  | [], [], _ => rfl
  | [], _ :: _, h => by cases h
  | (_, _) :: _, [], h => by cases h
  | (a, b) :: s, (c, e) :: t, h => by
      unfold xKeq at h
      obtain ⟨h1, h2⟩ := rv_and h
      obtain ⟨h2, h3⟩ := rv_and h2
      have h1 := rv_beq h1
      have h2 := rv_beq h2
      have h3 := xKeq_ok h3
      subst h1; subst h2; subst h3
      rfl
def xKall (f : xKc → List (Nat × Nat) → List Nat → Option (List Nat)) (x : Nat) (p : List (Nat × Nat)) : Nat → List xKc → List Nat → Option (List Nat)
  | _, [], t => some t
  | i, [c], t => f c ((x, i) :: p) t
  | i, c :: c2 :: cs, t => (match f c ((x, i) :: p) t with
    | some t1 => xKall f x p (i + 1) (c2 :: cs) t1
    | none => none)
/-- the run; from 4000 on a number says that the place is another declaration's -/
noncomputable def xKrun (one : xKc → Nat → Option (List xKc)) (pt : Nat → Option (List (Nat × Nat))) (n : Nat) : xKc → List (Nat × Nat) → List Nat → Option (List Nat) :=
  Nat.rec (motive := fun _ => xKc → List (Nat × Nat) → List Nat → Option (List Nat)) (fun _ _ _ => none) (fun _ ih c p t => match t with
    | x :: t1 => bif Nat.ble 4000 x then (match pt (x - 4000) with
        | some q => bif xKeq q p then some t1 else none
        | none => none)
      else (match one c x with
        | some cs => xKall ih x p 0 cs t1
        | none => none)
    | [] => none) n
theorem xKall_ok {f : xKc → List (Nat × Nat) → List Nat → Option (List Nat)} {one : xKc → Nat → Option (List xKc)} {root : xKc} {Good : xKc → Prop} (hf : ∀ c p t t', f c p t = some t' → xKfol one root p = some c → Good c) {x : Nat} {p : List (Nat × Nat)} : ∀ (i : Nat) (cs : List xKc) (t t' : List Nat), xKall f x p i cs t = some t' → (∀ k c, cs[k]? = some c → xKfol one root ((x, i + k) :: p) = some c) → ∀ c ∈ cs, Good c
  | _, [], _, _, _, _, c, hc => by cases hc
  | i, [c0], t, t', h, hp, c, hc => by
      have e := List.mem_singleton.mp hc
      subst e
      exact hf c ((x, i) :: p) t t' h (hp 0 c rfl)
  | i, c0 :: c2 :: cs, t, t', h, hp, c, hc => by
      unfold xKall at h
      split at h
      · rename_i t1 h1
        rcases List.mem_cons.mp hc with e | hc
        · subst e
          exact hf c ((x, i) :: p) t t1 h1 (hp 0 c rfl)
        · refine xKall_ok hf (i + 1) (c2 :: cs) t1 t' h (fun k c' hk => ?_) c hc
          have := hp (k + 1) c' hk
          rw [show i + (k + 1) = i + 1 + k by omega] at this
          exact this
      · cases h
theorem xKrun_ok {one : xKc → Nat → Option (List xKc)} {root : xKc} {Good : xKc → Prop} {pt : Nat → Option (List (Nat × Nat))} (h1 : ∀ c x cs, one c x = some cs → (∀ c' ∈ cs, Good c') → Good c) (hpt : ∀ m q c, pt m = some q → xKfol one root q = some c → Good c) : ∀ (n : Nat) (c : xKc) (p : List (Nat × Nat)) (t t' : List Nat), xKrun one pt n c p t = some t' → xKfol one root p = some c → Good c
  | 0, _, _, _, _, h, _ => by cases h
  | n + 1, c, p, [], t', h, hp => by
      have h : (none : Option (List Nat)) = some t' := h
      cases h
  | n + 1, c, p, x :: t, t', h, hp => by
      have h : (bif Nat.ble 4000 x then (match pt (x - 4000) with
        | some q => bif xKeq q p then some t else none
        | none => none)
      else (match one c x with
        | some cs => xKall (xKrun one pt n) x p 0 cs t
        | none => none)) = some t' := h
      cases hb : Nat.ble 4000 x with
      | true =>
        rw [hb, cond_true] at h
        split at h
        · rename_i q hq
          obtain ⟨e, -⟩ := rv_bif h
          have e := xKeq_ok e
          subst e
          exact hpt _ _ c hq hp
        · cases h
      | false =>
        rw [hb, cond_false] at h
        split at h
        · rename_i cs hcs
          refine h1 c x cs hcs (xKall_ok (xKrun_ok h1 hpt n) 0 cs t t' h (fun k c' hk => ?_))
          rw [Nat.zero_add]
          unfold xKfol
          rw [hp]
          dsimp only
          rw [hcs]
          exact hk
        · cases h
/-- a piece of a run: from the place where a path leads -/
noncomputable def xKpc (one : xKc → Nat → Option (List xKc)) (root : xKc) (n : Nat) (q : List (Nat × Nat)) (t : List Nat) : Bool := match xKfol one root q with
  | some c => (xKrun one (fun _ => none) n c q t).isSome
  | none => true
theorem xKpc_ok {one : xKc → Nat → Option (List xKc)} {root : xKc} {Good : xKc → Prop} (h1 : ∀ c x cs, one c x = some cs → (∀ c' ∈ cs, Good c') → Good c) {n : Nat} {q : List (Nat × Nat)} {t : List Nat} (h : xKpc one root n q t = true) : ∀ c, xKfol one root q = some c → Good c := by
  intro c hc
  unfold xKpc at h
  rw [hc] at h
  dsimp only at h
  obtain ⟨t', e⟩ := Option.isSome_iff_exists.mp h
  exact xKrun_ok h1 (fun m q c hm => by cases hm) n c q t t' e hc
section XKS
variable {mth : Nat → Option Nat} {d NM X na : Nat} {tab : Nat → Nat → Option rvE} {info : Nat → rvM} {rets : Nat → Option FieldType} {con : Nat → xCt} {opt : Nat → List xOp} {hp : Nat → Nat → Bool} {hn : Nat → Nat → Nat × Nat} {cutp : Nat → Bool} {j0 : Nat} {ck : Nat → xS → Bool} {oc : xS → Bool} {cuts : Nat → Option xCu} {ms0 : List Nat} {rk0 : Option (List xL)} {Gd : Nat → (xRes2 → Prop) → rvS → Prop} {Met : Nat → List rvV → rvH → (xRes2 → Prop) → Prop}
/-- what the callers that wait ask of the callee's answer -/
def xKp (Gd : Nat → (xRes2 → Prop) → rvS → Prop) (Post : xRes2 → Prop) : List xKf → List (List rvV) → (xRes2 → Prop)
  | [], _ => Post
  | (j1, S1, _, ce, sl) :: fr, l :: ls => fun res => Gd j1 (xKp Gd Post fr ls) (S1.1 + 3, l.take S1.2.1.length, res.1.toList ++ l.drop S1.2.1.length, res.2, S1.2.2.2.2.2.2.1 + ce, S1.2.2.2.2.2.2.2 + sl)
  | _ :: _, [] => fun _ => False
def xKP (P : xP) (ls : List (List rvV)) : xP := (P.1, P.2.1, P.2.2.1, P.2.2.2.1, ls.reverse)
def xKgo (NM : Nat) (Gd : Nat → (xRes2 → Prop) → rvS → Prop) (P : xP) (Post : xRes2 → Prop) (c : xKc) : Prop :=
  c.2.1 < NM → (∀ f ∈ c.1, f.1 < NM) → ∀ (ls : List (List rvV)) (o : rvS), ls.length = c.1.length → xRel xRgn (xFM (xKP P ls)) c.2.2.2 o → Gd c.2.1 (xKp Gd Post c.1 ls) o
theorem xKto_ok {P : xP} {Post : xRes2 → Prop} {fr : List xKf} {j : Nat} {o : Option (List xS)} {cs : List xKc} (h : xKto fr j o = some cs) (hg : ∀ c ∈ cs, xKgo NM Gd P Post c) : ∃ Ss, o = some Ss ∧ ∀ S ∈ Ss, xKgo NM Gd P Post (fr, j, 0, S) := by
  unfold xKto at h
  split at h
  · rename_i Ss
    cases h
    exact ⟨Ss, rfl, fun S hS => hg _ (List.mem_map.mpr ⟨S, hS, rfl⟩)⟩
  · cases h
theorem xKback_ok {P : xP} {dp ce sl : Nat} {S1 R : xS} {rest : List xV} {Ss : List xS} {l : List rvV} {ls : List (List rvV)} {o : rvS} (hdp : ls.length = dp) (hb : xBackS dp ce sl S1 rest R = some Ss) (h : xRel xRgn (xFM (xKP P (l :: ls))) R o) : ∃ B ∈ Ss, xRel xRgn (xFM (xKP P ls)) B (S1.1 + 3, l.take S1.2.1.length, (o.2.2.1.head?).toList ++ l.drop S1.2.1.length, o.2.2.2.1, S1.2.2.2.2.2.2.1 + ce, S1.2.2.2.2.2.2.2 + sl) := by
  have eP : xKP P (l :: ls) = ((xKP P ls).1, (xKP P ls).2.1, (xKP P ls).2.2.1, (xKP P ls).2.2.2.1, (xKP P ls).2.2.2.2 ++ [l]) := by
    unfold xKP
    rw [List.reverse_cons]
  have hP9 : (xKP P ls).2.2.2.2.length = dp := by
    show ls.reverse.length = dp
    rw [List.length_reverse, hdp]
  rw [eP] at h
  generalize xKP P ls = P1 at h hP9 ⊢
  unfold xBackS at hb
  split at hb
  · rename_i vs hvs
    obtain ⟨hcond, ea⟩ := rv_bif hb
    obtain ⟨c1, c2⟩ := rv_and hcond
    have c1 := of_decide_eq_true c1
    have c2 := rv_ble c2
    subst ea
    refine ⟨_, List.mem_singleton.mpr rfl, ?_⟩
    obtain ⟨r', T', pl', k1, k2, k3, k4, k5, k6, k7, k8, k9⟩ := h
    have fr := k6 _ (xHas_ok hvs)
    obtain ⟨l0, l1, l2⟩ := fr
    have l1 : (P1.2.2.2.2 ++ [l])[dp]? = some l0 := l1
    rw [← hP9, List.getElem?_append_right (Nat.le_refl _)] at l1
    simp at l1
    have l2 : xRs r' T' pl' (xDec (xEncN (S1.2.1 ++ rest)) vs) l0 := l2
    rw [c1, xDec_enc, ← l1] at l2
    have hll := xRs_len l2
    rw [List.length_append] at hll
    rw [← List.take_append_drop S1.2.1.length l] at l2
    obtain ⟨m1, m2⟩ := xRs_cut (by rw [List.length_take]; omega) l2
    have hst : (o.2.2.1.head?).toList = o.2.2.1 := by
      have hl9 := xRs_len k3
      cases hs9 : o.2.2.1 with
      | nil => rfl
      | cons c ds =>
        rw [hs9] at hl9
        cases ds with
        | nil => rfl
        | cons c2 ds =>
          simp at hl9
          omega
    refine ⟨r', T', pl', rfl, m1, ?_, k4, k5, fun f hf9 => ?_, k7, rfl, rfl⟩
    · show xRs r' T' pl' (R.2.2.1 ++ rest) ((o.2.2.1.head?).toList ++ l.drop S1.2.1.length)
      rw [hst]
      exact xRs_app k3 m2
    · obtain ⟨g1, g2⟩ := List.mem_filter.mp hf9
      rw [← hP9] at g2
      exact xFM_fc g2 (k6 f g1)
  · cases hb
theorem xKret_ok {P : xP} {Post : xRes2 → Prop} (hoc : ∀ R, oc R = true → ∀ o, xRel xRgn (xFM (xKP P [])) R o → Post (o.2.2.1.head?, o.2.2.2.1)) {fr : List xKf} {S : xS} {cs : List xKc} (h : xKret oc fr S = some cs) (hg : ∀ c ∈ cs, xKgo NM Gd P Post c) (hfr : ∀ f ∈ fr, f.1 < NM) {ls : List (List rvV)} {o : rvS} (hl : ls.length = fr.length) (hS : xRel xRgn (xFM (xKP P ls)) S o) : xKp Gd Post fr ls (o.2.2.1.head?, o.2.2.2.1) := by
  match fr, ls with
  | [], [] =>
    have h : (bif oc S then some [] else none) = some cs := h
    obtain ⟨h1, -⟩ := rv_bif h
    exact hoc S h1 o hS
  | [], _ :: _ => cases hl
  | _ :: _, [] => cases hl
  | (j1, S1, rest, ce, sl) :: fr1, l :: ls =>
    have hl : ls.length = fr1.length := by simpa using hl
    have h : xKto fr1 j1 (xBackS fr1.length ce sl S1 rest S) = some cs := h
    obtain ⟨Ss, e, hSs⟩ := xKto_ok h hg
    obtain ⟨B, hB, hrel⟩ := xKback_ok hl e hS
    exact hSs B hB (hfr _ (List.mem_cons.mpr (Or.inl rfl))) (fun f hf => hfr f (List.mem_cons.mpr (Or.inr hf))) ls _ hl hrel
set_option maxHeartbeats 4000000 in
theorem xKcall_ok (hc : xClo tab info rets NM mth Gd Met) (hcon : ∀ x, x < X → xCon Met (con x)) {P : xP} {Post : xRes2 → Prop} {fr : List xKf} {j j2 y : Nat} {args rest : List xV} {S : xS} {cs : List xKc} (hj : j < NM) (hfr : ∀ f ∈ fr, f.1 < NM) (hs : xKcall mth d NM X info con fr j j2 args rest S y = some cs) (hg : ∀ c ∈ cs, xKgo NM Gd P Post c) {ls : List (List rvV)} (hl : ls.length = fr.length)
    {r : List Int} {T pl : List Nat} {o : rvS} {cas crest : List rvV} (h1 : o.1 = S.1) (h2 : xRs r T pl S.2.1 o.2.1) (ha : xRs r T pl args cas) (hr : xRs r T pl rest crest) (h4 : xSt r T pl S.2.2.2.1 o.2.2.2.1) (h5 : xHp xRgn T pl o.2.2.2.1) (h6 : ∀ f ∈ S.2.2.2.2.1, xFM (xKP P ls) f r T pl o.2.2.2.1) (h7 : xQs S.2.2.2.2.2.1 r) (h8 : o.2.2.2.2.1 = S.2.2.2.2.2.2.1) (h9 : o.2.2.2.2.2 = S.2.2.2.2.2.2.2)
    (hinv : (info j2).2.1 + 1 ≤ (info j).2.1 → 8 + ((info j2).1 + 11) + (info j2).2.2.2.2.1 ≤ (info j).2.2.2.2.1 → o.2.2.2.2.1 + (info j2).2.2.1 ≤ (info j).2.2.1 → o.2.2.2.2.2 + (info j2).2.2.2.1 ≤ (info j).2.2.2.1 → rvWd crest ≤ 8 → xInv tab info j o.1 o.2.2.1 o.2.2.2.1 o.2.2.2.2.1 o.2.2.2.2.2 j2 cas crest) : Gd j (xKp Gd Post fr ls) o := by
  obtain ⟨-, -, -, -, hcall, -, -, -, hmet⟩ := hc
  obtain ⟨opc, cl, cs0, aw, okc, oks⟩ := o
  dsimp only at h1 h2 h4 h5 h6 h8 h9 hinv
  subst h1; subst h8; subst h9
  unfold xKcall at hs
  cases hb : (Nat.blt j2 NM && (Nat.ble ((info j2).2.1 + 1) (info j).2.1 && (Nat.ble (8 + ((info j2).1 + 11) + (info j2).2.2.2.2.1) (info j).2.2.2.2.1 && (Nat.ble (S.2.2.2.2.2.2.1 + (info j2).2.2.1) (info j).2.2.1 && (Nat.ble (S.2.2.2.2.2.2.2 + (info j2).2.2.2.1) (info j).2.2.2.1 && Nat.ble (xWd rest) 8))))) with
  | false => rw [hb] at hs; cases hs
  | true =>
    rw [hb] at hs
    simp only [cond_true] at hs
    obtain ⟨b0, e1⟩ := rv_and hb
    obtain ⟨b1, e2⟩ := rv_and e1
    obtain ⟨b2, e3⟩ := rv_and e2
    obtain ⟨b3, e4⟩ := rv_and e3
    obtain ⟨b4, b5⟩ := rv_and e4
    have hj2 := rv_blt b0
    have hi := hinv (rv_ble b1) (rv_ble b2) (rv_ble b3) (rv_ble b4) (Nat.le_trans (xWd_ok hr) (rv_ble b5))
    have hcl := xRs_len h2
    split at hs
    · obtain ⟨hb2, hs⟩ := rv_bif hs
      obtain ⟨nm, nz⟩ := rv_and hb2
      obtain ⟨n9, nl⟩ := rv_and nz
      have nm : mth j2 = none := Option.isNone_iff_eq_none.mp nm
      have nl := rv_ble nl
      have hent := xEntV_ok n9 ha
      have hlen : (xEntV args).length = rvLen (rvEnt cas) := by rw [rvLen_len]; exact xRs_len hent
      subst hs
      have hgo := hg _ (List.mem_singleton.mpr rfl)
      refine hcall j (xKp Gd Post fr ls) (xKp Gd Post ((j, S, rest, (info j2).2.2.1, (info j2).2.2.2.1) :: fr) ((cl ++ crest) :: ls)) S.1 cl cs0 aw _ _ j2 cas crest hj hi ?_ ?_
      · refine hmet j2 _ cas aw hj2 nm (by rw [← hlen]; exact nl) ?_
        refine hgo hj2 (fun f hf => ?_) ((cl ++ crest) :: ls) _ (by show ls.length + 1 = fr.length + 1; rw [hl]) ?_
        · rcases List.mem_cons.mp hf with e | hf
          · subst e; exact hj
          · exact hfr f hf
        refine ⟨r, T, pl, rfl, ?_, trivial, h4, h5, fun f hf9 => ?_, h7, rfl, rfl⟩
        · show xRs r T pl (xEntV args ++ List.replicate ((info j2).1 - (xEntV args).length) (.inr (9, 0))) (rvEnt cas ++ List.replicate ((info j2).1 - rvLen (rvEnt cas)) rvU)
          rw [← hlen]
          exact xRs_app hent (xRs_pad _)
        · have eP : xKP P ((cl ++ crest) :: ls) = ((xKP P ls).1, (xKP P ls).2.1, (xKP P ls).2.2.1, (xKP P ls).2.2.2.1, (xKP P ls).2.2.2.2 ++ [cl ++ crest]) := by
            unfold xKP
            rw [List.reverse_cons]
          rw [eP]
          rcases List.mem_cons.mp hf9 with e | hf9
          · subst e
            refine ⟨cl ++ crest, ?_, ?_⟩
            · show (ls.reverse ++ [cl ++ crest])[fr.length]? = _
              rw [List.getElem?_append_right (by rw [List.length_reverse, hl]; exact Nat.le_refl _)]
              rw [List.length_reverse, hl]
              simp
            · show xRs r T pl (xDec (xEncN (S.2.1 ++ rest)) (xEncV (S.2.1 ++ rest))) (cl ++ crest)
              rw [xDec_enc]
              exact xRs_app h2 hr
          · exact xFM_cf (cl ++ crest) (h6 f hf9)
      · intro res hres
        have hres : Gd j (xKp Gd Post fr ls) (S.1 + 3, (cl ++ crest).take S.2.1.length, res.1.toList ++ (cl ++ crest).drop S.2.1.length, res.2, S.2.2.2.2.2.2.1 + (info j2).2.2.1, S.2.2.2.2.2.2.2 + (info j2).2.2.2.1) := hres
        rw [hcl, List.take_left', List.drop_left'] at hres
        · exact hres
        · rfl
        · rfl
    · rename_i x
      rcases hcx : con x with ⟨j3, pre, src, outs, ms⟩
      rw [hcx] at hs
      dsimp only at hs
      cases hb2 : (Nat.blt x X && Nat.beq j3 j2) with
      | false => rw [hb2] at hs; cases hs
      | true =>
        rw [hb2] at hs
        simp only [cond_true] at hs
        obtain ⟨x1, x2⟩ := rv_and hb2
        have x2 := rv_beq x2
        subst x2
        split at hs
        · rename_i s hsrc
          cases hb3 : (s.all (xWfB S.2.2.2.2.2.1.1.length) && (xFitVs s S.2.2.2.2.2.1 S.2.2.2.1 pre.2.2.2.1.length pre.2.1 args && xFitK d s S pre)) with
          | false => rw [hb3] at hs; cases hs
          | true =>
            rw [hb3] at hs
            simp only [cond_true] at hs
            obtain ⟨w1, w2⟩ := rv_and hb3
            obtain ⟨w2, w3⟩ := rv_and w2
            have hw : ∀ l ∈ s, xWf r.length l.1 := fun l hl => by
              have := xWfB_ok (List.all_eq_true.mp w1 l hl)
              rw [h7.1.1] at this
              exact this
            obtain ⟨Ss, hcat, hSs⟩ := xKto_ok hs hg
            obtain ⟨f1, f2, f3, f4⟩ := xFitK_ok h4 h5 h6 h7 w3
            have hC := hcon x (rv_blt x1)
            rw [hcx] at hC
            have hM := hC (s.map (xVal r)) T (pl.take pre.2.2.2.1.length) cas aw (xFitVs_ok h7 h4 w2 ha) f2 f3 f4 f1
            refine hcall j (xKp Gd Post fr ls) _ S.1 cl cs0 aw _ _ j3 cas crest hj hi hM ?_
            intro res hres
            obtain ⟨O, hO, tt, tT, g1, g2, g3, g4, g5, g6⟩ := hres
            obtain ⟨a, ea, hin⟩ := xCat_ok (a := []) hcat _ (List.mem_map.mpr ⟨O, hO, rfl⟩)
            obtain ⟨S', m', hS'⟩ := xAft_ok (cl := cl) hw h2 hr h4 h6 h7 ea g1 g2 g3 g4 g5 g6
            exact hSs S' (hin S' m') hj hfr ls _ hl hS'
        · cases hs
set_option maxHeartbeats 4000000 in
theorem xKins_ok (hc : xClo tab info rets NM mth Gd Met) (hcon : ∀ x, x < X → xCon Met (con x)) {P : xP} {Post : xRes2 → Prop} (hoc : ∀ R, oc R = true → ∀ o, xRel xRgn (xFM (xKP P [])) R o → Post (o.2.2.1.head?, o.2.2.2.1)) {fr : List xKf} {j md y : Nat} {S : xS} {cs : List xKc} (hs : xKins mth d NM X tab info rets con hn oc fr j S y = some cs) (hg : ∀ c ∈ cs, xKgo NM Gd P Post c) : xKgo NM Gd P Post (fr, j, md, S) := by
  intro hj hfr ls o hl hS
  dsimp only at hj hfr hl hS ⊢
  unfold xKins at hs
  split at hs
  · rename_i i len a1 a2 a3 wi htab
    have hS0 := hS
    obtain ⟨r, T, pl, h1, h2, h3, h4, h5, h6, h7, h8, h9⟩ := hS
    have htab2 : tab j o.1 = some (i, len, a1, a2, a3, wi) := by rw [h1]; exact htab
    have hall : ∀ (Ss : List xS), (∀ S' ∈ Ss, xKgo NM Gd P Post (fr, j, 0, S')) → ∀ o', (∃ S' ∈ Ss, xRel xRgn (xFM (xKP P ls)) S' o') → Gd j (xKp Gd Post fr ls) o' := by
      intro Ss hSs o' ⟨S', m, hS'⟩
      exact hSs S' m hj hfr ls o' hl hS'
    have retc : ∀ i', i = i' → xRetB d rets j i' S = true → S.2.2.2.2.2.2.1 ≤ (info j).2.2.1 → S.2.2.2.2.2.2.2 ≤ (info j).2.2.2.1 → xKret oc fr S = some cs → Gd j (xKp Gd Post fr ls) o := by
      intro i' e hb q1 q2 e2
      subst e
      obtain ⟨-, -, -, -, -, hret, -, -, -⟩ := hc
      have k := xRetB_ok h3 h7 hb
      have hpost := xKret_ok hoc e2 hg hfr hl hS0
      obtain ⟨opc, cl, cs0, aw, okc, oks⟩ := o
      exact hret j (xKp Gd Post fr ls) opc cl cs0 aw okc oks i len a1 a2 a3 wi hj htab2 k (Nat.le_trans (Nat.le_of_eq h8) q1) (Nat.le_trans (Nat.le_of_eq h9) q2) hpost
    have bo : ∀ {c : Bool} {a : Option (List xKc)}, (bif c then a else none) = some cs → c = true ∧ a = some cs := by
      intro c a h
      cases c with
      | true => exact ⟨rfl, h⟩
      | false => cases h
    split at hs
    · obtain ⟨hb, e⟩ := bo hs
      obtain ⟨b1, b2⟩ := rv_and hb
      obtain ⟨b2, b3⟩ := rv_and b2
      exact retc _ rfl b1 (rv_ble b2) (rv_ble b3) e
    · obtain ⟨hb, e⟩ := bo hs
      obtain ⟨b1, b2⟩ := rv_and hb
      obtain ⟨b2, b3⟩ := rv_and b2
      exact retc _ rfl b1 (rv_ble b2) (rv_ble b3) e
    · obtain ⟨hb, e⟩ := bo hs
      obtain ⟨b1, b2⟩ := rv_and hb
      obtain ⟨b2, b3⟩ := rv_and b2
      exact retc _ rfl b1 (rv_ble b2) (rv_ble b3) e
    · rename_i idx
      cases h8a : Nat.beq a3 8 with
      | true =>
        rw [h8a] at hs
        simp only [cond_true] at hs
        obtain ⟨Ss, hcp, hSs⟩ := xKto_ok hs hg
        obtain ⟨o', S', e, m, hS'⟩ := xp_copy hcp hS0
        exact hc.2.2.1 j _ o o' idx len a1 a2 a3 wi hj htab2 h8a e (hall Ss hSs o' ⟨S', m, hS'⟩)
      | false =>
        rw [h8a] at hs
        simp only [cond_false] at hs
        split at hs
        · rename_i k hk
          obtain ⟨h0a, hs⟩ := bo hs
          obtain ⟨Ss, hmt, hSs⟩ := xKto_ok hs hg
          exact xMth_ok hc hj htab2 h0a hk hmt hS0 (hall Ss hSs)
        · split at hs
          · rename_i as rest hpop
            obtain ⟨cas, crest, k1, k2, k3⟩ := xPopA_ok a2 (acc := []) (cacc := []) hpop h3 trivial
            refine xKcall_ok hc hcon hj hfr hs hg hl h1 h2 k2 k3 h4 h5 h6 h7 h8 h9 (fun q1 q2 q3 q4 q5 => ?_)
            exact ⟨_, len, a2, a3, wi, cas, crest, htab2, k1, q1, q2, q3, q4, q5, Or.inl ⟨⟨idx, rfl⟩, h8a, rfl, rfl⟩⟩
          · cases hs
    · rename_i idx
      cases h9a : Nat.beq a3 9 with
      | true =>
        rw [h9a] at hs
        simp only [cond_true] at hs
        obtain ⟨Ss, hob, hSs⟩ := xKto_ok hs hg
        obtain ⟨S', k, rest, e1, e2, m, hS'⟩ := xp_obj hob hS0
        obtain ⟨opc, cl, cs0, aw, okc, oks⟩ := o
        have e1 : cs0 = .inr (2, k) :: rest := e1
        subst e1
        exact hc.2.2.2.1 j _ opc cl k rest aw okc oks idx len a1 a2 a3 wi hj htab2 h9a e2 (hall Ss hSs _ ⟨S', m, hS'⟩)
      | false =>
        rw [h9a] at hs
        simp only [cond_false] at hs
        split at hs
        · rename_i as v rest hpop
          obtain ⟨hb, hs⟩ := bo hs
          obtain ⟨cas, crest, k1, k2, k3⟩ := xPopA_ok a2 (acc := []) (cacc := []) hpop h3 trivial
          obtain ⟨c, ds, rfl, hv, k4⟩ := xRs_cons k3
          refine xKcall_ok hc hcon hj hfr hs hg hl h1 h2 (xRs_c hv k2) k4 h4 h5 h6 h7 h8 h9 (fun q1 q2 q3 q4 q5 => ?_)
          exact ⟨_, len, a2, a3, wi, cas, c :: ds, htab2, k1, q1, q2, q3, q4, q5, Or.inr ⟨Or.inr ⟨⟨idx, rfl⟩, h9a⟩, c, rfl, rfl, xRcv_ok h4 h5 hv hb⟩⟩
        · cases hs
    · rename_i idx
      split at hs
      · rename_i as v rest hpop
        obtain ⟨hb, hs⟩ := bo hs
        obtain ⟨cas, crest, k1, k2, k3⟩ := xPopA_ok a2 (acc := []) (cacc := []) hpop h3 trivial
        obtain ⟨c, ds, rfl, hv, k4⟩ := xRs_cons k3
        refine xKcall_ok hc hcon hj hfr hs hg hl h1 h2 (xRs_c hv k2) k4 h4 h5 h6 h7 h8 h9 (fun q1 q2 q3 q4 q5 => ?_)
        exact ⟨_, len, a2, a3, wi, cas, c :: ds, htab2, k1, q1, q2, q3, q4, q5, Or.inr ⟨Or.inl ⟨idx, rfl⟩, c, rfl, rfl, xRcv_ok h4 h5 hv hb⟩⟩
      · cases hs
    · obtain ⟨Ss, hst, hSs⟩ := xKto_ok hs hg
      have ok := xStep_ok (sc := []) (a3 := a3) hst hS0
      rcases ok with ⟨o', S', e, m, hS'⟩ | ⟨pc, al, st, a, aw, kc, ks, e, hn9⟩
      · exact hc.1 j _ o o' _ len a1 a2 a3 wi hj htab2 e (hall Ss hSs o' ⟨S', m, hS'⟩)
      · refine hc.1 j _ o _ _ len a1 a2 a3 wi hj htab2 e (hc.2.1 j _ pc al st a aw kc ks (fun n n1 n2 n3 => ?_))
        obtain ⟨S', m, hS'⟩ := hn9 n n1 n2 n3
        exact hall Ss hSs _ ⟨S', m, hS'⟩
  · cases hs
set_option maxHeartbeats 4000000 in
theorem xKone_ok (hc : xClo tab info rets NM mth Gd Met) (hcon : ∀ x, x < X → xCon Met (con x)) {P : xP} {Post : xRes2 → Prop} (hck : ∀ x S, ck x S = true → ∃ d2 ci, xCutC d2 na cuts ms0 rk0 S ci = true) (hoc : ∀ R, oc R = true → ∀ o, xRel xRgn (xFM (xKP P [])) R o → Post (o.2.2.1.head?, o.2.2.2.1)) (hcut : xCutH na cuts rk0 (xKP P []) (Gd j0 Post)) (hrk : ∀ a, rk0 = some a → ∀ l ∈ a, xWf P.1.length l.1) (hna : na ≤ P.1.length) (c : xKc) (y : Nat) (cs : List xKc) (hs : xKone mth d NM X tab info rets con opt hp hn cutp j0 ck oc c y = some cs) (hg : ∀ c' ∈ cs, xKgo NM Gd P Post c') : xKgo NM Gd P Post c := by
  obtain ⟨fr, j, md, S⟩ := c
  unfold xKone at hs
  dsimp only at hs
  cases hb : (Nat.ble md 1 && hp j S.1) with
  | true =>
    rw [hb, cond_true] at hs
    split at hs
    · rename_i Ss hgh
      cases hs
      intro hj hfr ls o hl hS
      obtain ⟨S', m, hS'⟩ := xGhs_ok (opt y) hgh ⟨S, List.mem_singleton.mpr rfl, hS⟩
      exact hg _ (List.mem_map.mpr ⟨S', m, rfl⟩) hj hfr ls o hl hS'
    · cases hs
  | false =>
    rw [hb, cond_false] at hs
    cases hb2 : (xKtop fr && ((Nat.beq md 0 || Nat.beq md 2) && cutp S.1)) with
    | true =>
      rw [hb2, cond_true] at hs
      split at hs
      · cases hs
        exact fun hj hfr ls o hl hS => hg _ (List.mem_singleton.mpr rfl) hj hfr ls o hl hS
      · rename_i ci
        obtain ⟨hk0, -⟩ := rv_bif hs
        obtain ⟨kj, hk⟩ := rv_and hk0
        clear hk0 hs
        have kj := rv_beq kj
        subst kj
        obtain ⟨b1, -⟩ := rv_and hb2
        intro hj hfr ls o hl hS
        dsimp only at hj hfr hl hS ⊢
        match fr, b1, ls, hl, hS with
        | [], _, [], _, hS =>
          obtain ⟨d2, ci2, hk⟩ := hck _ _ hk
          exact xCutC_ok hcut hrk hna hk hS
    | false =>
      rw [hb2, cond_false] at hs
      exact xKins_ok hc hcon hoc hs hg
/-- from every machine's state that a state tells of, the method is good -/
def xKsem (Gd : Nat → (xRes2 → Prop) → rvS → Prop) (na n j : Nat) (ms : List Nat) (os : List xOs) (cuts : Nat → Option xCu) (rk0 : Option (List xL)) (Tm : xS) : Prop :=
  ∀ (P : xP) (Post : xRes2 → Prop), P.2.2.2.2 = [] → xCutH na cuts rk0 P (Gd j Post) → (∀ a, rk0 = some a → ∀ l ∈ a, xWf P.1.length l.1) → na ≤ P.1.length → (∀ (R : xS) (de : Nat) (q : xOs), q ∈ os → xOutC de na n ms R q = true → ∀ o, xRel xRgn (xFM P) R o → Post (o.2.2.1.head?, o.2.2.2.1)) → ∀ o, xRel xRgn (xFM P) Tm o → Gd j Post o
theorem xKs_run {n : Nat} {os : List xOs} (hc : xClo tab info rets NM mth Gd Met) (hcon : ∀ x, x < X → xCon Met (con x)) {de fuel j : Nat} (hj : j < NM) {Tm : xS} {t : List Nat} (h : xEnds de na n ms0 os (xRun mth d NM X na tab info rets con opt hp hn cutp cuts ms0 rk0 fuel 0 j true Tm t) = true) : xKsem Gd na n j ms0 os cuts rk0 Tm := by
  intro P Post hP hcut hrk hna hout o hS
  obtain ⟨Rs, tt, hrun, hR⟩ := xEnds_ok h
  refine xRun_ok hc hcon fuel 0 j true P Post hj (by rw [hP]; rfl) (fun _ => hcut) hrk hna Tm t Rs tt hrun (fun R hm o' ho' => ?_) o hS
  obtain ⟨q, hq, hq2⟩ := hR R hm
  exact hout R de q hq hq2 o' ho'
theorem xKs_k {n : Nat} {os : List xOs} (hc : xClo tab info rets NM mth Gd Met) (hcon : ∀ x, x < X → xCon Met (con x)) (hck : ∀ x S, ck x S = true → ∃ d2 ci, xCutC d2 na cuts ms0 rk0 S ci = true) (hoc : ∀ R, oc R = true → ∃ de q, q ∈ os ∧ xOutC de na n ms0 R q = true) (hj : j0 < NM) {fuel : Nat} {Tm : xS} {t : List Nat} {pt : Nat → Option (List (Nat × Nat))}
    (h : (xKrun (xKone mth d NM X tab info rets con opt hp hn cutp j0 ck oc) pt fuel ([], j0, 1, Tm) [] t).isSome = true)
    (hpt : ∀ m q, pt m = some q → ∃ f2 t2, xKpc (xKone mth d NM X tab info rets con opt hp hn cutp j0 ck oc) ([], j0, 1, Tm) f2 q t2 = true) : xKsem Gd na n j0 ms0 os cuts rk0 Tm := by
  intro P Post hP hcut hrk hna hout o hS
  have eP : P = xKP P [] := by
    obtain ⟨p1, p2, p3, p4, p5⟩ := P
    have hP : p5 = [] := hP
    subst hP
    rfl
  have h1 := xKone_ok (d := d) (opt := opt) (hp := hp) (hn := hn) (cutp := cutp) (j0 := j0) (P := P) (Post := Post) hc hcon hck (fun R hR o' ho' => by
    obtain ⟨de, q, hq, hq2⟩ := hoc R hR
    rw [← eP] at ho'
    exact hout R de q hq hq2 o' ho') (by rw [← eP]; exact hcut) hrk hna
  obtain ⟨t', e⟩ := Option.isSome_iff_exists.mp h
  have := xKrun_ok (Good := xKgo NM Gd P Post) h1 (fun m q c hm hf => by
    obtain ⟨f2, t2, e2⟩ := hpt m q hm
    exact xKpc_ok (Good := xKgo NM Gd P Post) h1 e2 c hf) fuel _ [] t t' e rfl
  refine this hj (fun f hf => by cases hf) [] o rfl ?_
  rw [← eP]
  exact hS
end XKS
