/-! Exact runs of which the heap is not known (by hand). -/
section JX
variable {tab : Nat → Nat → Option rvE} {info : Nat → rvM} {rets : Nat → Option FieldType} {NM : Nat} {mth : Nat → Option Nat}
variable {j pc len a1 a2 a3 wi : Nat} {i : Instr} {al st : List rvV} {Post : xRes2 → Prop}
def JX (tab : Nat → Nat → Option rvE) (info : Nat → rvM) (rets : Nat → Option FieldType) (NM : Nat) (mth : Nat → Option Nat) (j : Nat) (Post : xRes2 → Prop) (pc : Nat) (al st : List rvV) : Prop := ∀ (aw : rvH) (kc ks : Nat), exH aw → exL al → exL st → PC tab info rets NM mth j Post (pc, al, st, aw, kc, ks)
theorem JX_step (hw : jRows tab NM) (hj : j < NM) (ht : tab j pc = some (i, len, a1, a2, a3, wi)) (hn : ¬ evCr i)
    (k : ∀ (aw : rvH) (kc ks : Nat) (o' : rvS), exH aw → exL al → exL st → rvStep rvTy rvNf rvTxt [] (info j).2.2.1 (info j).2.2.2.1 (info j).1 i a1 a2 a3 pc al st aw kc ks = some o' → JX tab info rets NM mth j Post o'.1 o'.2.1 o'.2.2.1) : JX tab info rets NM mth j Post pc al st := by
  intro aw kc ks hR ha hs P hP
  obtain ⟨o', h1, h2⟩ := Ev_some hP ht hn
  have hx := rvStep_ex (hw j pc i len a1 a2 a3 wi hj ht) ha hs hR h1
  exact (Ev_clo tab info rets NM mth).1 j _ _ o' i len a1 a2 a3 wi hj ht h1 (k aw kc ks o' hR ha hs h1 o'.2.2.2.1 o'.2.2.2.2.1 o'.2.2.2.2.2 hx.2.2 hx.1 hx.2.1 P h2)
theorem JX_pure {pc' : Nat} {al' st' : List rvV} (hw : jRows tab NM) (hj : j < NM) (ht : tab j pc = some (i, len, a1, a2, a3, wi)) (hn : ¬ evCr i) (he : ∀ (BC BS : Nat) (aw : rvH) (kc ks : Nat) (o' : rvS), rvStep rvTy rvNf rvTxt [] BC BS (info j).1 i a1 a2 a3 pc al st aw kc ks = some o' → o' = (pc', al', st', aw, kc, ks)) (h : JX tab info rets NM mth j Post pc' al' st') : JX tab info rets NM mth j Post pc al st := by
  refine JX_step hw hj ht hn (fun aw kc ks o' hR ha hs h1 => ?_)
  have e := he _ _ aw kc ks o' h1
  subst e
  exact h
theorem JX_gf {p ci f idx : Nat} (hw : jRows tab NM) (hj : j < NM) (ht : tab j pc = some (.getfield idx, len, ci, f, a3, wi)) (hn : ¬ evCr (.getfield idx)) (h0 : ¬ ci = 100) (h : ∀ w : rvV, JX tab info rets NM mth j Post (pc + 3) al (w :: st)) : JX tab info rets NM mth j Post pc al (rf p :: st) := by
  refine JX_step hw hj ht hn (fun aw kc ks o' hR ha hs he => ?_)
  obtain ⟨fs, w, e1, e2, rfl⟩ := j_gf h0 he
  exact h w
theorem JX_pf {p ci f idx : Nat} {v : rvV} (hw : jRows tab NM) (hj : j < NM) (ht : tab j pc = some (.putfield idx, len, ci, f, a3, wi)) (hn : ¬ evCr (.putfield idx)) (h : JX tab info rets NM mth j Post (pc + 3) al st) : JX tab info rets NM mth j Post pc al (v :: rf p :: st) := by
  refine JX_step hw hj ht hn (fun aw kc ks o' hR ha hs he => ?_)
  obtain ⟨fs, aw', e1, e2, rfl, -⟩ := j_pf he
  exact h
theorem JX_null (hw : jRows tab NM) (hj : j < NM) (ht : tab j pc = some (.aconst_null, len, a1, a2, a3, wi)) (hn : ¬ evCr .aconst_null) (h : ∀ w : rvV, JX tab info rets NM mth j Post (pc + 1) al (w :: st)) : JX tab info rets NM mth j Post pc al st := by
  refine JX_step hw hj ht hn (fun aw kc ks o' hR ha hs he => ?_)
  simp only [rvStep] at he
  cases he
  exact h _
theorem JX_ret (ht : tab j pc = some (i, len, a1, a2, a3, wi)) (hi : i = .ireturn ∨ i = .lreturn ∨ i = .return_) (hP : ∀ aw, Post (st.head?, aw)) : JX tab info rets NM mth j Post pc al st := by
  intro aw kc ks hR ha hst P hE
  obtain ⟨b1, b2, b3, hj⟩ := Ev_room hE ht hi
  exact (Ev_clo tab info rets NM mth).2.2.2.2.1 j _ pc al st aw kc ks i len a1 a2 a3 wi hj ht b1 b2 b3 ⟨(Ev_inv hE).2.2.2.2.1 i len a1 a2 a3 wi ht b1, hP aw⟩
/-- a call without arguments of an unknown object -/
theorem JX_call0 {w : rvV} {rest : List rvV} {j2 idx : Nat} (hw : jRows tab NM) (ht : tab j pc = some (.invokevirtual idx, len, j2, 0, a3, wi)) (hm : mth j2 = none) (h : ∀ (r : Option rvV), JX tab info rets NM mth j Post (pc + 3) al (r.toList ++ rest)) : JX tab info rets NM mth j Post pc al (w :: rest) := by
  intro aw kc ks hR ha hst P hP
  obtain ⟨as', rest', hi, -, hj⟩ := Ev_call hP ht (Or.inr (Or.inl ⟨_, rfl⟩))
  have e : rest' = rest := by
    obtain ⟨i1, l0, b2, b3, bw, as1, rest1, ht', hp', -, -, -, -, -, hc⟩ := hi
    obtain ⟨rfl, -, -, rfl, rfl, -⟩ := ev_row ht ht'
    have hp' : rvPop 0 (w :: rest) [] = some (as1, rest1) := hp'
    have hp2 : rvPop 0 (w :: rest) [] = some ([], w :: rest) := rfl
    rw [hp2] at hp'
    injection hp' with e
    injection e with e1 e2
    rcases hc with ⟨⟨x, hc⟩, -⟩ | ⟨-, v, q1, q2, -⟩
    · cases hc
    · rw [← e2] at q1
      injection q1 with q3 q4
      exact q4.symm
  subst e
  obtain ⟨x1, x2⟩ := ex_invA hi hst
  obtain ⟨Qc, q1, q2⟩ := (Ev_inv hP).2.2.2.1 j2 _ rest' hi hm
  refine (Ev_clo tab info rets NM mth).2.2.2.1 j _ _ pc al _ aw kc ks j2 _ rest' hj hi (PCM_ex hw x1 hR _ q1) (fun res hres => ?_)
  exact h res.1 res.2 _ _ hres.2.2 ha (ex_app (ex_opt hres.2.1) (exL_tl hst)) P (q2 res hres.1)
theorem JX_ld (pc' : Nat) {k d : Nat} {v : rvV} (hw : jRows tab NM) (hj : j < NM) (ht : tab j pc = some (i, len, a1, a2, a3, wi)) (hl : ldK i = some (k, d)) (hv : al[k]? = some v) (hp : pc + d = pc') (h : JX tab info rets NM mth j Post pc' al (v :: st)) : JX tab info rets NM mth j Post pc al st := by
  subst hp
  refine JX_pure hw hj ht (j_ok hl) (fun BC BS aw kc ks o' he => ?_) h
  unfold ldK at hl
  split at hl
  all_goals first
    | (cases hl; done)
    | (injection hl with hl
       injection hl with e1 e2
       subst e1; subst e2
       simp only [rvStep] at he
       rw [hv] at he
       first
         | exact rv_bifr he
         | (rcases v with a | ⟨t, z⟩
            · first
                | exact (Option.some.inj he).symm
                | (have h9 : (none : Option rvS) = some o' := he
                   cases h9)
            · first
                | (have h9 : (none : Option rvS) = some o' := he
                   cases h9)
                | (match t, he with
                   | 0, he =>
                     have h9 : (none : Option rvS) = some o' := he
                     cases h9
                   | 1, he => exact (Option.some.inj he).symm
                   | n + 2, he =>
                     have h9 : (none : Option rvS) = some o' := he
                     cases h9)))
end JX
