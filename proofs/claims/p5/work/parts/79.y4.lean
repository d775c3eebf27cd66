/-! The rules as a program writes them: the next place is given. -/
theorem rv_bifr {α : Type} {c : Bool} {a r : α} (h : (bif c then some a else none) = some r) : r = a := (rv_bif h).2.symm
section JG
variable {g : Nat → Nat} {tab : Nat → Nat → Option rvE} {info : Nat → rvM} {rets : Nat → Option FieldType} {NM : Nat} {mth : Nat → Option Nat}
variable {j pc len a1 a2 a3 wi : Nat} {i : Instr} {al st : List rvV} {H : hH} {Post : xRes2 → Prop}
def ldK (i : Instr) : Option (Nat × Nat) := match i with
  | .iload k => some (k, 2)
  | .iload_n k => some (k.val, 1)
  | .lload k => some (k, 2)
  | .lload_n k => some (k.val, 1)
  | .aload k => some (k, 2)
  | .aload_n k => some (k.val, 1)
  | _ => none
theorem j_ok {k d : Nat} (h : ldK i = some (k, d)) : ¬ evCr i := by
  intro q
  rcases q with ⟨x, rfl⟩ | ⟨x, rfl⟩ | ⟨x, rfl⟩ | rfl | rfl | rfl <;> cases h
theorem J_ld (pc' : Nat) {k d : Nat} {v : rvV} (hw : jRows tab NM) (hj : j < NM) (ht : tab j pc = some (i, len, a1, a2, a3, wi)) (hl : ldK i = some (k, d)) (hv : al[k]? = some v) (hp : pc + d = pc') (h : J g tab info rets NM mth j Post pc' al (v :: st) H) : J g tab info rets NM mth j Post pc al st H := by
  subst hp
  refine J_pure hw hj ht (j_ok hl) (fun BC BS aw kc ks o' he => ?_) h
  unfold ldK at hl
  split at hl
  all_goals first
    | (cases hl; done)
    | (injection hl with hl
       injection hl with e1 e2
       subst e1; subst e2
       simp only [rvStep] at he
       rw [hv] at he
       first
         | exact rv_bifr he
         | (rcases v with a | ⟨t, z⟩
            · first
                | exact (Option.some.inj he).symm
                | (have h9 : (none : Option rvS) = some o' := he
                   cases h9)
            · first
                | (have h9 : (none : Option rvS) = some o' := he
                   cases h9)
                | (match t, he with
                   | 0, he =>
                     have h9 : (none : Option rvS) = some o' := he
                     cases h9
                   | 1, he => exact (Option.some.inj he).symm
                   | n + 2, he =>
                     have h9 : (none : Option rvS) = some o' := he
                     cases h9)))
theorem J_st (pc' : Nat) (al' : List rvV) {k : Nat} {v : rvV} (hw : jRows tab NM) (hj : j < NM) (ht : tab j pc = some (i, len, a1, a2, a3, wi)) (hi : (i = .istore k ∧ pc + 2 = pc') ∨ (i = .astore k ∧ pc + 2 = pc') ∨ (∃ q : Fin 4, i = .istore_n q ∧ q.val = k ∧ pc + 1 = pc') ∨ (∃ q : Fin 4, i = .astore_n q ∧ q.val = k ∧ pc + 1 = pc')) (hs : rvSet al k v = al') (h : J g tab info rets NM mth j Post pc' al' st H) : J g tab info rets NM mth j Post pc al (v :: st) H := by
  have hn : ¬ evCr i := by
    intro q
    rcases hi with ⟨rfl, -⟩ | ⟨rfl, -⟩ | ⟨q2, rfl, -⟩ | ⟨q2, rfl, -⟩ <;> (rcases q with ⟨x, q⟩ | ⟨x, q⟩ | ⟨x, q⟩ | q | q | q <;> cases q)
  refine J_pure hw hj ht hn (fun BC BS aw kc ks o' he => ?_) h
  rw [← hs]
  rcases hi with ⟨rfl, hp⟩ | ⟨rfl, hp⟩ | ⟨q2, rfl, hk, hp⟩ | ⟨q2, rfl, hk, hp⟩
  all_goals
    subst hp
    try subst hk
    simp only [rvStep] at he
  all_goals first
    | exact rv_bifr he
    | (rcases v with a | q9
       · exact rv_bifr he
       · have h9 : (none : Option rvS) = some o' := he
         cases h9)
theorem J_lst (pc' : Nat) (al' : List rvV) {k z : Nat} (hw : jRows tab NM) (hj : j < NM) (ht : tab j pc = some (i, len, a1, a2, a3, wi)) (hi : (i = .lstore k ∧ pc + 2 = pc') ∨ (∃ q : Fin 4, i = .lstore_n q ∧ q.val = k ∧ pc + 1 = pc')) (hs : (rvSet al k (.inr (1, z))).set (k + 1) rvU = al') (h : J g tab info rets NM mth j Post pc' al' st H) : J g tab info rets NM mth j Post pc al (.inr (1, z) :: st) H := by
  have hn : ¬ evCr i := by
    intro q
    rcases hi with ⟨rfl, -⟩ | ⟨q2, rfl, -⟩ <;> (rcases q with ⟨x, q⟩ | ⟨x, q⟩ | ⟨x, q⟩ | q | q | q <;> cases q)
  refine J_pure hw hj ht hn (fun BC BS aw kc ks o' he => ?_) h
  rw [← hs]
  rcases hi with ⟨rfl, hp⟩ | ⟨q2, rfl, hk, hp⟩
  · subst hp
    simp only [rvStep] at he
    obtain ⟨-, e9⟩ := rv_bif he
    exact e9.symm
  · subst hp
    subst hk
    simp only [rvStep] at he
    obtain ⟨-, e9⟩ := rv_bif he
    exact e9.symm
def cstV (i : Instr) : Option (Int × Nat) := match i with
  | .iconst n => some (n, 1)
  | .bipush n => some (n, 2)
  | .sipush n => some (n, 3)
  | _ => none
theorem J_cst (pc' : Nat) {z : Int} {d : Nat} (hw : jRows tab NM) (hj : j < NM) (ht : tab j pc = some (i, len, a1, a2, a3, wi)) (hl : cstV i = some (z, d)) (hp : pc + d = pc') (h : J g tab info rets NM mth j Post pc' al (pt z :: st) H) : J g tab info rets NM mth j Post pc al st H := by
  subst hp
  have hn : ¬ evCr i := by
    intro q
    rcases q with ⟨x, rfl⟩ | ⟨x, rfl⟩ | ⟨x, rfl⟩ | rfl | rfl | rfl <;> cases hl
  refine J_pure hw hj ht hn (fun BC BS aw kc ks o' he => ?_) h
  unfold cstV at hl
  split at hl
  all_goals first
    | (cases hl; done)
    | (injection hl with hl
       injection hl with e1 e2
       subst e1; subst e2
       exact rv_bifr he)
theorem J_lc (pc' : Nat) {n : Int64} (hw : jRows tab NM) (hj : j < NM) (ht : tab j pc = some (i, len, a1, a2, a3, wi)) (hi : (∃ q : Fin 2, i = .lconst q ∧ q.val + 1 = rvLe n ∧ pc + 1 = pc') ∨ (∃ q, i = .ldc2_w q ∧ a1 = rvLe n ∧ pc + 3 = pc')) (h : J g tab info rets NM mth j Post pc' al (lg n :: st) H) : J g tab info rets NM mth j Post pc al st H := by
  have hn : ¬ evCr i := by
    intro q
    rcases hi with ⟨q2, rfl, -⟩ | ⟨q2, rfl, -⟩ <;> (rcases q with ⟨x, q⟩ | ⟨x, q⟩ | ⟨x, q⟩ | q | q | q <;> cases q)
  refine J_pure hw hj ht hn (fun BC BS aw kc ks o' he => ?_) h
  rcases hi with ⟨q2, rfl, h2, hp⟩ | ⟨q2, rfl, h2, hp⟩
  · subst hp
    show o' = (pc + 1, al, .inr (1, rvLe n) :: st, aw, kc, ks)
    rw [← h2]
    exact (Option.some.inj he).symm
  · subst hp
    show o' = (pc + 3, al, .inr (1, rvLe n) :: st, aw, kc, ks)
    rw [← h2]
    exact (Option.some.inj he).symm
theorem J_dup (pc' : Nat) {v : rvV} (hw : jRows tab NM) (hj : j < NM) (ht : tab j pc = some (.dup, len, a1, a2, a3, wi)) (hp : pc + 1 = pc') (h : J g tab info rets NM mth j Post pc' al (v :: v :: st) H) : J g tab info rets NM mth j Post pc al (v :: st) H := by
  subst hp
  refine J_pure hw hj ht (evn rfl) (fun BC BS aw kc ks o' he => ?_) h
  obtain ⟨-, e9⟩ := rv_nbif he
  exact e9.symm
theorem J_dup2 (pc' : Nat) {v w : rvV} (hw : jRows tab NM) (hj : j < NM) (ht : tab j pc = some (.dup2, len, a1, a2, a3, wi)) (hp : pc + 1 = pc') (h : J g tab info rets NM mth j Post pc' al (v :: w :: v :: w :: st) H) : J g tab info rets NM mth j Post pc al (v :: w :: st) H := by
  subst hp
  refine J_pure hw hj ht (evn rfl) (fun BC BS aw kc ks o' he => ?_) h
  obtain ⟨-, e9⟩ := rv_nbif he
  exact e9.symm
theorem J_dupx (pc' : Nat) {v w : rvV} (hw : jRows tab NM) (hj : j < NM) (ht : tab j pc = some (.dup_x1, len, a1, a2, a3, wi)) (hp : pc + 1 = pc') (h : J g tab info rets NM mth j Post pc' al (v :: w :: v :: st) H) : J g tab info rets NM mth j Post pc al (v :: w :: st) H := by
  subst hp
  refine J_pure hw hj ht (evn rfl) (fun BC BS aw kc ks o' he => ?_) h
  obtain ⟨-, e9⟩ := rv_nbif he
  exact e9.symm
theorem J_pop (pc' : Nat) {v : rvV} (hw : jRows tab NM) (hj : j < NM) (ht : tab j pc = some (.pop, len, a1, a2, a3, wi)) (hp : pc + 1 = pc') (h : J g tab info rets NM mth j Post pc' al st H) : J g tab info rets NM mth j Post pc al (v :: st) H := by
  subst hp
  refine J_pure hw hj ht (evn rfl) (fun BC BS aw kc ks o' he => ?_) h
  obtain ⟨-, e9⟩ := rv_nbif he
  exact e9.symm
theorem J_goto (pc' : Nat) {off : Int} (hw : jRows tab NM) (hj : j < NM) (ht : tab j pc = some (.goto off, len, a1, a2, a3, wi)) (hp : rvJ pc off = some pc') (h : J g tab info rets NM mth j Post pc' al st H) : J g tab info rets NM mth j Post pc al st H := by
  refine J_pure hw hj ht (evn rfl) (fun BC BS aw kc ks o' he => ?_) h
  simp only [rvStep] at he
  rw [hp] at he
  exact (Option.some.inj he).symm
theorem J_gst (pc' z : Nat) {idx : Nat} (hw : jRows tab NM) (hj : j < NM) (ht : tab j pc = some (.getstatic idx, len, z + 2, a2, a3, wi)) (hp : pc + 3 = pc') (h : J g tab info rets NM mth j Post pc' al (.inr (10, z) :: st) H) : J g tab info rets NM mth j Post pc al st H := by
  subst hp
  refine J_pure hw hj ht (evn rfl) (fun BC BS aw kc ks o' he => ?_) h
  have he : some (pc + 3, al, (bif Nat.beq (z + 2) 0 then rvK 1 else bif Nat.beq (z + 2) 1 then .inr (6, 0) else .inr (10, z + 2 - 2)) :: st, aw, kc, ks) = some o' := he
  have e1 : Nat.beq (z + 2) 0 = false := rfl
  have e2 : Nat.beq (z + 2) 1 = false := rfl
  rw [e1, e2] at he
  exact (Option.some.inj he).symm
/-- Math.max, Math.min -/
theorem J_mm (pc' : Nat) {idx k : Nat} {x y : Int} (hj : j < NM) (ht : tab j pc = some (.invokestatic idx, len, a1, a2, a3, wi)) (h0 : Nat.beq a3 0 = true) (hm : mth a1 = some k) (hk : k < 2) (hp : pc + 3 = pc') (h : J g tab info rets NM mth j Post pc' al (pt (xMm k x y) :: st) H) : J g tab info rets NM mth j Post pc al (pt y :: pt x :: st) H := by
  subst hp
  intro aw kc ks hR ha hst P hE
  obtain ⟨r1, r2, r3, r4⟩ := Ev_mm hE ht ⟨idx, k, rfl, h0, hm, hk⟩
  have hx : xIn32 x := (exL_hd (exL_tl hst)).2
  have hy : xIn32 y := (exL_hd hst).2
  have h1 := (Ev_inv hE).2.2.2.2.2.1 idx len a1 a2 a3 wi k x y st ht h0 hm hk rfl
  exact (Ev_clo tab info rets NM mth).2.2.2.2.2.1 j _ pc al k x y st aw kc ks idx len a1 a2 a3 wi hj ht h0 hm hk hx hy r1 r2 r3 r4 (h aw kc ks hR ha (exL_c ⟨rfl, ex_Mm hx hy⟩ (exL_tl (exL_tl hst))) P h1)
/-- a switch over two numbers -/
theorem J_sw2 {dflt o1 o2 x1 x2 a : Int} {td t1 t2 : Nat} (hw : jRows tab NM) (hj : j < NM) (ht : tab j pc = some (.lookupswitch dflt #[(x1, o1), (x2, o2)], len, a1, a2, a3, wi)) (hx : x1 < x2) (h1 : rvJ pc o1 = some t1) (h2 : rvJ pc o2 = some t2) (hd : rvJ pc dflt = some td) (k1 : a = x1 → J g tab info rets NM mth j Post t1 al st H) (k2 : a = x2 → J g tab info rets NM mth j Post t2 al st H) (kd : ¬ a = x1 → ¬ a = x2 → J g tab info rets NM mth j Post td al st H) : J g tab info rets NM mth j Post pc al (pt a :: st) H := by
  refine J_step hw hj ht (evn rfl) (fun aw kc ks o' hR ha hs hx9 he => ?_)
  simp only [rvStep] at he
  obtain ⟨-, he⟩ := rv_bifo he
  have he : (match rvJ pc (Op.lookupswitch.offset [(x1, o1), (x2, o2)] dflt a) with
        | some t => some (t, al, st, aw, kc, ks)
        | none => none) = some o' := he
  rw [Op.lookupswitch.offset_cons, Op.lookupswitch.offset_cons, Op.lookupswitch.offset_nil] at he
  by_cases e1 : x1 = a
  · rw [if_pos e1, h1] at he
    have e9 := Option.some.inj he
    subst e9
    exact ⟨H, hR, k1 e1.symm⟩
  · rw [if_neg e1] at he
    by_cases e2 : x2 = a
    · rw [if_pos e2, h2] at he
      have e9 := Option.some.inj he
      subst e9
      exact ⟨H, hR, k2 e2.symm⟩
    · rw [if_neg e2, hd] at he
      have e9 := Option.some.inj he
      subst e9
      exact ⟨H, hR, kd (fun q => e1 q.symm) (fun q => e2 q.symm)⟩
/-- an element of a static row -/
def stx (z : Nat) (x : Int) : Int := ((rvTxt (10 + z))[x.toNat]?).getD 0
theorem J_ialdT {z : Nat} {x : Int} (hw : jRows tab NM) (hj : j < NM) (ht : tab j pc = some (.iaload, len, a1, a2, a3, wi)) (hn : ¬ evCr .iaload) (h : 0 ≤ x → J g tab info rets NM mth j Post (pc + 1) al (pt (stx z x) :: st) H) : J g tab info rets NM mth j Post pc al (pt x :: .inr (10, z) :: st) H := by
  refine J_ialdS hw hj ht hn (fun b h1 h2 => ?_)
  have e : stx z x = b := by
    unfold stx
    rw [h2]
    rfl
  rw [← e]
  exact h h1
theorem iop_add {a b : Int} (ha : xIn32 a) (hb : xIn32 b) (h : xIn32 (a + b)) : iop (· + ·) a b = a + b := xi_add ha hb h
theorem iAdd_1 {i : Nat} (h : i < 2147483647) : iop (· + ·) (i : Int) 1 = ((i + 1 : Nat) : Int) := by
  rw [iop_add ⟨by omega, by omega⟩ ⟨by decide, by decide⟩ ⟨by omega, by omega⟩]
  omega
theorem lgc0 (x y : Int64) : (lg_cmp x y).toInt = 0 ↔ x = y := by
  unfold lg_cmp
  constructor
  · intro h
    split at h
    · exact absurd h (by decide)
    · split at h
      · assumption
      · exact absurd h (by decide)
  · intro h
    subst h
    rw [if_neg (Int64.lt_irrefl), if_pos rfl]
    rfl
/-- calls, the answer told -/
theorem J_callS1 {as rest : List rvV} {v : rvV} {H' : hH} {idx j2 : Nat} (hw : jRows tab NM) (ht : tab j pc = some (.invokestatic idx, len, j2, a2, a3, wi)) (h8 : Nat.beq a3 8 = false) (hm : mth j2 = none) (hp : rvPop a2 st [] = some (as, rest)) (hs : SP g tab info rets NM mth j2 as H (some v) H') (h : J g tab info rets NM mth j Post (pc + 3) al (v :: rest) H') : J g tab info rets NM mth j Post pc al st H := J_callS hw ht h8 hm hp hs h
theorem J_callS0 {as rest : List rvV} {H' : hH} {idx j2 : Nat} (hw : jRows tab NM) (ht : tab j pc = some (.invokestatic idx, len, j2, a2, a3, wi)) (h8 : Nat.beq a3 8 = false) (hm : mth j2 = none) (hp : rvPop a2 st [] = some (as, rest)) (hs : SP g tab info rets NM mth j2 as H none H') (h : J g tab info rets NM mth j Post (pc + 3) al rest H') : J g tab info rets NM mth j Post pc al st H := J_callS hw ht h8 hm hp hs h
theorem J_callV1 {as0 rest : List rvV} {v : rvV} {H' : hH} {p j2 : Nat} (hw : jRows tab NM) (ht : tab j pc = some (i, len, j2, a2, a3, wi)) (hi0 : (∃ x, i = .invokevirtual x) ∨ ((∃ x, i = .invokespecial x) ∧ Nat.beq a3 9 = false)) (hm : mth j2 = none) (hp : rvPop a2 st [] = some (as0, rf p :: rest)) (hs : SP g tab info rets NM mth j2 (rf p :: as0) H (some v) H') (h : J g tab info rets NM mth j Post (pc + 3) al (v :: rest) H') : J g tab info rets NM mth j Post pc al st H := J_callV hw ht hi0 hm hp hs h
theorem J_callV0 {as0 rest : List rvV} {H' : hH} {p j2 : Nat} (hw : jRows tab NM) (ht : tab j pc = some (i, len, j2, a2, a3, wi)) (hi0 : (∃ x, i = .invokevirtual x) ∨ ((∃ x, i = .invokespecial x) ∧ Nat.beq a3 9 = false)) (hm : mth j2 = none) (hp : rvPop a2 st [] = some (as0, rf p :: rest)) (hs : SP g tab info rets NM mth j2 (rf p :: as0) H none H') (h : J g tab info rets NM mth j Post (pc + 3) al rest H') : J g tab info rets NM mth j Post pc al st H := J_callV hw ht hi0 hm hp hs h
/-- a new cell -/
theorem RH_app {aw : rvH} {c : rvC} (h : RH g aw H) (hx : exH (aw ++ [c])) (hg : g (H.2.2.2 + 1) = g H.2.2.2 + 1) (hc : ∀ (j : Nat) (w : rvV), xSlot c j = some w → w = pt 0 ∨ w = lg 0 ∨ ∃ z, w = .inr (0, z)) : RH g (aw ++ [c]) (upN H) := by
  obtain ⟨h1, h2, h3, h4, h5, h6, h7, h8⟩ := h
  have old : ∀ (p j : Nat) (w : rvV), (∃ d, (aw ++ [c])[g p]? = some d ∧ xSlot d j = some w) → (∃ d, aw[g p]? = some d ∧ xSlot d j = some w) ∨ (aw.length ≤ g p ∧ xSlot c j = some w) := by
    intro p j w hw
    obtain ⟨d, d1, d2⟩ := hw
    by_cases hl : g p < aw.length
    · rw [List.getElem?_append_left hl] at d1
      exact Or.inl ⟨d, d1, d2⟩
    · have hlt := (List.getElem?_eq_some_iff.mp d1).1
      rw [List.length_append] at hlt
      have e : g p = aw.length := by simp at hlt; omega
      rw [e, List.getElem?_append_right (Nat.le_refl _)] at d1
      simp at d1
      subst d1
      exact Or.inr ⟨by omega, d2⟩
  refine ⟨hx, fun p j z hz => ?_, fun p j n hz => ?_, fun p j k hk => ?_, ?_, fun p j hl => ?_, h7, h8⟩
  · rcases old p j _ hz with q | ⟨q1, q2⟩
    · exact h2 p j z q
    · have e0 := (h6 p j q1).1
      rcases hc j _ q2 with e | e | ⟨w, e⟩
      · injection e with e
        injection e with e _
        show H.1 p j = z
        rw [e0, e]
      · cases e
      · cases e
  · rcases old p j _ hz with q | ⟨q1, q2⟩
    · exact h3 p j n q
    · have e0 := (h6 p j q1).2
      rcases hc j _ q2 with e | e | ⟨w, e⟩
      · cases e
      · injection e with e
        injection e with _ e
        show H.2.1 p j = n
        rw [e0, rvLe_inj e]
      · cases e
  · have hk2 := h4 p j k hk
    unfold hK at hk2 ⊢
    split at hk2
    · rename_i e
      rw [if_pos e]
      obtain ⟨q, d, ov, d1⟩ := hk2
      exact ⟨q, d, ov, x_get_app d1⟩
    · rename_i e
      rw [if_neg e]
      obtain ⟨d, d1, d2⟩ := hk2
      exact ⟨d, x_get_app d1, d2⟩
  · show g (H.2.2.2 + 1) = _
    rw [hg, h5, List.length_append]
    rfl
  · rw [List.length_append] at hl
    exact h6 p j (by simp at hl; omega)
theorem upN_n {n : Nat} (h : H.2.2.2 = n) : (upN H).2.2.2 = n + 1 := by
  show H.2.2.2 + 1 = n + 1
  rw [h]
theorem J_new (pc' : Nat) {idx ci n : Nat} (hw : jRows tab NM) (hj : j < NM) (ht : tab j pc = some (.new idx, len, ci, a2, a3, wi)) (hn : H.2.2.2 = n) (hg : g (n + 1) = g n + 1) (hp : pc + 3 = pc') (h : J g tab info rets NM mth j Post pc' al (rf (g n) :: st) (upN H)) : J g tab info rets NM mth j Post pc al st H := by
  subst hp
  subst hn
  refine J_step hw hj ht (evn rfl) (fun aw kc ks o' hR ha hs hx he => ?_)
  obtain ⟨-, e9⟩ := rv_bif he
  subst e9
  have e := hR.2.2.2.2.1
  refine ⟨upN H, RH_app hR hx.2.2 hg (fun j w hw => ?_), by rw [← e]; exact h⟩
  have hw : ((List.range (rvNf ci)).map (fun k => rvDef (rvTy ci k)))[j]? = some w := hw
  rw [List.getElem?_map] at hw
  cases hr : (List.range (rvNf ci))[j]? with
  | none => rw [hr] at hw; cases hw
  | some k =>
    rw [hr] at hw
    have e1 : rvDef (rvTy ci k) = w := Option.some.inj hw
    subst e1
    cases rvTy ci k
    case int => exact Or.inl rfl
    case boolean => exact Or.inl rfl
    case long => exact Or.inr (Or.inl (show rvL0 = lg 0 from by decide))
    all_goals exact Or.inr (Or.inr ⟨_, rfl⟩)
theorem J_newa (pc' : Nat) {t : ArrayType} {x : Int} {n : Nat} (hw : jRows tab NM) (hj : j < NM) (ht : tab j pc = some (.newarray t, len, a1, a2, a3, wi)) (hn : H.2.2.2 = n) (hg : g (n + 1) = g n + 1) (hp : pc + 2 = pc') (h : J g tab info rets NM mth j Post pc' al (rf (g n) :: st) (upN H)) : J g tab info rets NM mth j Post pc al (pt x :: st) H := by
  subst hp
  subst hn
  refine J_step hw hj ht (evn rfl) (fun aw kc ks o' hR ha hs hx he => ?_)
  obtain ⟨-, e9⟩ := rv_bif he
  subst e9
  have e := hR.2.2.2.2.1
  refine ⟨upN H, RH_app hR hx.2.2 hg (fun j w hw => ?_), by rw [← e]; exact h⟩
  have hw : (bif Nat.blt j (x, x).1.toNat then some (rvLook (bif Nat.beq a1 3 then rvL0 else rvK 0) [] j) else none) = some w := hw
  obtain ⟨-, e1⟩ := rv_bif hw
  subst e1
  cases hb : Nat.beq a1 3 with
  | false => exact Or.inl (by rfl)
  | true => exact Or.inr (Or.inl (show rvL0 = lg 0 from by decide))
/-- Object's constructor -/
theorem J_obj (pc' : Nat) {idx p : Nat} (ht : tab j pc = some (.invokespecial idx, len, a1, a2, a3, wi)) (h9 : Nat.beq a3 9 = true) (hp : pc + 3 = pc') (h : J g tab info rets NM mth j Post pc' al st H) : J g tab info rets NM mth j Post pc al (rf p :: st) H := by
  subst hp
  intro aw kc ks hR ha hst P hE
  obtain ⟨b1, b2⟩ := Ev_obj hE ht h9
  exact (Ev_clo tab info rets NM mth).2.2.1 j _ pc al p st aw kc ks idx len a1 a2 a3 wi b2 ht h9 b1 (h aw kc ks hR ha (exL_tl hst) P ((Ev_inv hE).2.2.1 idx len a1 a2 a3 wi p st ht h9 rfl))
/-- a call of which nothing is known but that it keeps states exact -/
theorem J_callU {as0 rest : List rvV} {p j2 : Nat} (hw : jRows tab NM) (ht : tab j pc = some (i, len, j2, a2, a3, wi)) (hi0 : (∃ x, i = .invokevirtual x) ∨ ((∃ x, i = .invokespecial x) ∧ Nat.beq a3 9 = false)) (hm : mth j2 = none) (hp : rvPop a2 st [] = some (as0, rf p :: rest)) (h : ∀ (aw : rvH) (kc ks : Nat) (r : Option rvV), exH aw → exL r.toList → PC tab info rets NM mth j Post (pc + 3, al, r.toList ++ rest, aw, kc, ks)) : J g tab info rets NM mth j Post pc al st H := by
  intro aw kc ks hR ha hst P hP
  obtain ⟨as', rest', hi, -, hj⟩ := Ev_call hP ht (Or.inr hi0)
  have e : as' = rf p :: as0 ∧ rest' = rest := by
    obtain ⟨i1, l0, b2, b3, bw, as1, rest1, ht', hp', -, -, -, -, -, hc⟩ := hi
    obtain ⟨rfl, -, -, rfl, rfl, -⟩ := ev_row ht ht'
    have hp' : rvPop a2 st [] = some (as1, rest1) := hp'
    rw [hp] at hp'
    injection hp' with e
    injection e with e1 e2
    rcases hc with ⟨⟨x, hc⟩, -⟩ | ⟨-, v, q1, q2, -⟩
    · rcases hi0 with ⟨y, q⟩ | ⟨⟨y, q⟩, -⟩
      · rw [hc] at q; cases q
      · rw [hc] at q; cases q
    · rw [← e2] at q1
      injection q1 with q3 q4
      rw [q2, ← q3, ← e1]
      exact ⟨rfl, q4.symm⟩
  obtain ⟨rfl, rfl⟩ := e
  obtain ⟨x1, x2⟩ := ex_invA hi hst
  obtain ⟨Qc, q1, q2⟩ := (Ev_inv hP).2.2.2.1 j2 _ rest' hi hm
  refine (Ev_clo tab info rets NM mth).2.2.2.1 j _ _ pc al st aw kc ks j2 _ rest' hj hi (PCM_ex hw x1 hR.1 _ q1) (fun res hres => ?_)
  exact h res.2 _ _ res.1 hres.2.2 (ex_opt hres.2.1) P (q2 res hres.1)
end JG
/-- the first of k from i on that p holds of; -1: none -/
def fstI (p : Nat → Bool) : Nat → Nat → Int
  | 0, _ => -1
  | k + 1, i => if p i = true then (i : Int) else fstI p k (i + 1)
def anyI (p : Nat → Bool) : Nat → Nat → Int
  | 0, _ => 0
  | k + 1, i => if p i = true then 1 else anyI p k (i + 1)
def allI (p : Nat → Bool) : Nat → Nat → Int
  | 0, _ => 1
  | k + 1, i => if p i = true then allI p k (i + 1) else 0
