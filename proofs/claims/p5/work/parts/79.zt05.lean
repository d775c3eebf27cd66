/-! Runs of a heap that is told (by hand). -/
section PR
variable {tab : Nat → Nat → Option rvE} {info : Nat → rvM} {rets : Nat → Option FieldType} {NM : Nat} {mth : Nat → Option Nat}
variable {j pc len a1 a2 a3 wi : Nat} {i : Instr} {al st : List rvV} {aw : rvH} {Post : xRes2 → Prop}
def Pr (tab : Nat → Nat → Option rvE) (info : Nat → rvM) (rets : Nat → Option FieldType) (NM : Nat) (mth : Nat → Option Nat) (j : Nat) (Post : xRes2 → Prop) (pc : Nat) (al st : List rvV) (aw : rvH) : Prop := ∀ kc ks : Nat, PC tab info rets NM mth j Post (pc, al, st, aw, kc, ks)
theorem Pr_step (hj : j < NM) (ht : tab j pc = some (i, len, a1, a2, a3, wi)) (hn : ¬ evCr i)
    (k : ∀ (kc ks : Nat) (o' : rvS), rvStep rvTy rvNf rvTxt [] (info j).2.2.1 (info j).2.2.2.1 (info j).1 i a1 a2 a3 pc al st aw kc ks = some o' → Pr tab info rets NM mth j Post o'.1 o'.2.1 o'.2.2.1 o'.2.2.2.1) : Pr tab info rets NM mth j Post pc al st aw := by
  intro kc ks P hP
  obtain ⟨o', h1, h2⟩ := Ev_some hP ht hn
  exact (Ev_clo tab info rets NM mth).1 j _ _ o' i len a1 a2 a3 wi hj ht h1 (k kc ks o' h1 o'.2.2.2.2.1 o'.2.2.2.2.2 P h2)
theorem Pr_pure {pc' : Nat} {al' st' : List rvV} (hj : j < NM) (ht : tab j pc = some (i, len, a1, a2, a3, wi)) (hn : ¬ evCr i) (he : ∀ (BC BS : Nat) (kc ks : Nat) (o' : rvS), rvStep rvTy rvNf rvTxt [] BC BS (info j).1 i a1 a2 a3 pc al st aw kc ks = some o' → o' = (pc', al', st', aw, kc, ks)) (h : Pr tab info rets NM mth j Post pc' al' st' aw) : Pr tab info rets NM mth j Post pc al st aw := by
  refine Pr_step hj ht hn (fun kc ks o' h1 => ?_)
  have e := he _ _ kc ks o' h1
  subst e
  exact h
theorem Pr_ld (pc' : Nat) {k d : Nat} {v : rvV} (hj : j < NM) (ht : tab j pc = some (i, len, a1, a2, a3, wi)) (hl : ldK i = some (k, d)) (hv : al[k]? = some v) (hp : pc + d = pc') (h : Pr tab info rets NM mth j Post pc' al (v :: st) aw) : Pr tab info rets NM mth j Post pc al st aw := by
  subst hp
  refine Pr_pure hj ht (j_ok hl) (fun BC BS kc ks o' he => ?_) h
  unfold ldK at hl
  split at hl
  all_goals first
    | (cases hl; done)
    | (injection hl with hl
       injection hl with e1 e2
       subst e1; subst e2
       simp only [rvStep] at he
       rw [hv] at he
       first
         | exact rv_bifr he
         | (rcases v with a | ⟨t, z⟩
            · first
                | exact (Option.some.inj he).symm
                | (have h9 : (none : Option rvS) = some o' := he
                   cases h9)
            · first
                | (have h9 : (none : Option rvS) = some o' := he
                   cases h9)
                | (match t, he with
                   | 0, he =>
                     have h9 : (none : Option rvS) = some o' := he
                     cases h9
                   | 1, he => exact (Option.some.inj he).symm
                   | n + 2, he =>
                     have h9 : (none : Option rvS) = some o' := he
                     cases h9)))
theorem Pr_cst (pc' : Nat) {z : Int} {d : Nat} (hj : j < NM) (ht : tab j pc = some (i, len, a1, a2, a3, wi)) (hl : cstV i = some (z, d)) (hp : pc + d = pc') (h : Pr tab info rets NM mth j Post pc' al (pt z :: st) aw) : Pr tab info rets NM mth j Post pc al st aw := by
  subst hp
  have hn : ¬ evCr i := by
    intro q
    rcases q with ⟨x, rfl⟩ | ⟨x, rfl⟩ | ⟨x, rfl⟩ | rfl | rfl | rfl <;> cases hl
  refine Pr_pure hj ht hn (fun BC BS kc ks o' he => ?_) h
  unfold cstV at hl
  split at hl
  all_goals first
    | (cases hl; done)
    | (injection hl with hl
       injection hl with e1 e2
       subst e1; subst e2
       simp only [rvStep] at he
       exact rv_bifr he)
theorem Pr_gf {p ci f idx : Nat} (hj : j < NM) (ht : tab j pc = some (.getfield idx, len, ci, f, a3, wi)) (h0 : ¬ ci = 100) (h : ∀ (fs : List rvV) (w : rvV), aw[p]? = some (.inl (ci, fs)) → fs[f]? = some w → Pr tab info rets NM mth j Post (pc + 3) al (w :: st) aw) : Pr tab info rets NM mth j Post pc al (rf p :: st) aw := by
  refine Pr_step hj ht (evn rfl) (fun kc ks o' he => ?_)
  obtain ⟨fs, w, e1, e2, rfl⟩ := j_gf h0 he
  exact h fs w e1 e2
theorem hV_fs {aw : rvH} {p ci f : Nat} {fs : List rvV} {w : rvV} (e1 : aw[p]? = some (.inl (ci, fs))) (e2 : fs[f]? = some w) (hp : prF ci f = true) : hV aw p f w := ⟨_, e1, hp, e2⟩
/-- a field that is known -/
theorem Pr_gfV {p ci f idx : Nat} {v : rvV} (hj : j < NM) (ht : tab j pc = some (.getfield idx, len, ci, f, a3, wi)) (h0 : ¬ ci = 100) (hp : prF ci f = true) (hv : hV aw p f v) (h : Pr tab info rets NM mth j Post (pc + 3) al (v :: st) aw) : Pr tab info rets NM mth j Post pc al (rf p :: st) aw := by
  refine Pr_gf hj ht h0 (fun fs w e1 e2 => ?_)
  rw [← hV_one hv (hV_fs e1 e2 hp)]
  exact h
/-- a slot is written -/
def Up (aw aw' : rvH) (p f : Nat) (v : rvV) : Prop := aw'.length = aw.length ∧ (∀ (k m : Nat) (w : rvV), ¬ (k = p ∧ m = f) → hV aw k m w → hV aw' k m w) ∧ hV aw' p f v
theorem Pr_pf {p ci f idx : Nat} {v : rvV} (hj : j < NM) (ht : tab j pc = some (.putfield idx, len, ci, f, a3, wi)) (hp : prF ci f = true) (h : ∀ aw', Up aw aw' p f v → Pr tab info rets NM mth j Post (pc + 3) al st aw') : Pr tab info rets NM mth j Post pc al (v :: rf p :: st) aw := by
  refine Pr_step hj ht (evn rfl) (fun kc ks o' he => ?_)
  have he : (match aw[p]? with
      | some (.inl (ci', fs)) => bif Nat.beq ci' ci && (rvFit (rvTy ci' f) v && Nat.blt f (rvLen fs)) then some (pc + 3, al, st, aw.set p (.inl (ci', fs.set f v)), kc, ks) else none
      | _ => none) = some o' := he
  split at he
  · rename_i ci' fs e
    obtain ⟨hb, rfl⟩ := rv_bif he
    obtain ⟨hb, hb2⟩ := rv_and hb
    have hci : ci' = ci := rv_beq hb
    subst hci
    have hl : f < fs.length := by
      have := rv_blt (rv_and hb2).2
      have e : ∀ l : List rvV, rvLen l = l.length := fun l => by
        induction l with
        | nil => rfl
        | cons x t ih => show rvLen t + 1 = _; rw [ih]; rfl
      rw [e] at this
      exact this
    exact h _ ⟨List.length_set, fun k m w hne hw => hV_put e hne hw, hV_new e hp hl⟩
  · cases he
/-- a field that matters nothing -/
theorem Pr_pfN {p ci f idx : Nat} {v : rvV} (hj : j < NM) (ht : tab j pc = some (.putfield idx, len, ci, f, a3, wi)) (hp : (!prF ci f) = true) (h : ∀ aw', Fr aw aw' → Pr tab info rets NM mth j Post (pc + 3) al st aw') : Pr tab info rets NM mth j Post pc al (v :: rf p :: st) aw := by
  refine Pr_step hj ht (evn rfl) (fun kc ks o' he => ?_)
  have hf := frStep (show hmOk (.putfield idx) ci f = true from hp) he
  obtain ⟨fs, aw', e1, e2, rfl, -⟩ := j_pf he
  exact h _ hf
theorem rvIdx_n {n m : Nat} (h : m < n) : rvIdx ((m : Int), (m : Int)) n = some m := by
  unfold rvIdx
  have h1 : rvOne ((m : Int), (m : Int)) = true := decide_eq_true rfl
  have h2 : decide ((0 : Int) ≤ (m : Int)) = true := decide_eq_true (by omega)
  have h3 : decide ((m : Int) < (n : Int)) = true := decide_eq_true (by omega)
  rw [h1, h2, h3]
  show some ((m : Int)).toNat = _
  rw [Int.toNat_natCast]
theorem Pr_aald {p : Nat} {x : Nat} {v : rvV} (hj : j < NM) (ht : tab j pc = some (.aaload, len, a1, a2, a3, wi)) (hv : hV aw p x v) (h : Pr tab info rets NM mth j Post (pc + 1) al (v :: st) aw) : Pr tab info rets NM mth j Post pc al (pt (x : Int) :: rf p :: st) aw := by
  refine Pr_step hj ht (evn rfl) (fun kc ks o' he => ?_)
  obtain ⟨c, e, hp, hs⟩ := hv
  have he : (match aw[p]? with
      | some (.inr (4, n, d, ov)) => match rvIdx ((x : Int), (x : Int)) n with
        | some j => some (pc + 1, al, rvLook d ov j :: st, aw, kc, ks)
        | none => none
      | some (.inr (5, n, d, ov)) => match rvIdx ((x : Int), (x : Int)) n with
        | some j => some (pc + 1, al, rvLook d ov j :: st, aw, kc, ks)
        | none => none
      | _ => none) = some o' := he
  rw [e] at he
  rcases c with ⟨ci, fs⟩ | ⟨q, n, d, ov⟩
  · cases he
  · have hq : q = 4 := rv_beq hp
    subst hq
    have hs : (bif Nat.blt x n then some (rvLook d ov x) else none) = some v := hs
    obtain ⟨hb, hs⟩ := rv_bif hs
    have hb := rv_blt hb
    have he : (match rvIdx ((x : Int), (x : Int)) n with
        | some j => some (pc + 1, al, rvLook d ov j :: st, aw, kc, ks)
        | none => none) = some o' := he
    rw [rvIdx_n hb] at he
    have he := Option.some.inj he
    subst he
    show Pr tab info rets NM mth j Post (pc + 1) al (rvLook d ov x :: st) aw
    rw [hs]
    exact h
theorem look_up {d v : rvV} {x y : Nat} : ∀ (ov : List (Nat × rvV)), rvLook d (rvUp ov x v) y = if y = x then v else rvLook d ov y
  | [] => by
    show (bif Nat.beq x y then v else d) = _
    by_cases e : y = x
    · subst e; rw [Nat.beq_refl]; rw [if_pos rfl]; rfl
    · have : Nat.beq x y = false := by
        cases hb : Nat.beq x y with
        | false => rfl
        | true => exact absurd (rv_beq hb).symm e
      rw [this, if_neg e]; rfl
  | (k, w) :: t => by
    show rvLook d (bif Nat.beq k x then (x, v) :: t else (k, w) :: rvUp t x v) y = _
    cases hb : Nat.beq k x with
    | true =>
      have hk := rv_beq hb
      subst hk
      show (bif Nat.beq k y then v else rvLook d t y) = if y = k then v else (bif Nat.beq k y then w else rvLook d t y)
      by_cases e : y = k
      · subst e; rw [Nat.beq_refl, if_pos rfl]; rfl
      · have : Nat.beq k y = false := by
          cases hb : Nat.beq k y with
          | false => rfl
          | true => exact absurd (rv_beq hb).symm e
        rw [this, if_neg e]; rfl
    | false =>
      show (bif Nat.beq k y then w else rvLook d (rvUp t x v) y) = if y = x then v else (bif Nat.beq k y then w else rvLook d t y)
      rw [look_up t]
      cases hb2 : Nat.beq k y with
      | true =>
        have hk := rv_beq hb2
        subst hk
        have : ¬ k = x := fun e => by subst e; rw [Nat.beq_refl] at hb; cases hb
        rw [if_neg this, if_neg this]
      | false => rfl
theorem Pr_aast {p x : Nat} {v u : rvV} (hj : j < NM) (ht : tab j pc = some (.aastore, len, a1, a2, a3, wi)) (hu : hV aw p x u) (h : ∀ aw', Up aw aw' p x v → Pr tab info rets NM mth j Post (pc + 1) al st aw') : Pr tab info rets NM mth j Post pc al (v :: pt (x : Int) :: rf p :: st) aw := by
  refine Pr_step hj ht (evn rfl) (fun kc ks o' he => ?_)
  obtain ⟨c, e, hp, hs⟩ := hu
  simp only [rvStep, pt, rf] at he
  rw [e] at he
  rcases c with ⟨ci, fs⟩ | ⟨q, n, d, ov⟩
  · cases he
  · have hq : q = 4 := rv_beq hp
    subst hq
    have hs : (bif Nat.blt x n then some (rvLook d ov x) else none) = some u := hs
    obtain ⟨hb, hs⟩ := rv_bif hs
    have hbn := rv_blt hb
    dsimp only at he
    rw [rvIdx_n hbn] at he
    have hlt := (List.getElem?_eq_some_iff.mp e).1
    have key : ∀ v0 : rvV, v0 = v → Up aw (aw.set p (.inr (4, n, d, rvUp ov x v0))) p x v := by
      intro v0 hv0
      subst hv0
      refine ⟨List.length_set, fun k m w hne hw => ?_, ?_⟩
      · by_cases hk : k = p
        · subst hk
          obtain ⟨c, e', hp', hs'⟩ := hw
          rw [e] at e'
          have e' := Option.some.inj e'
          subst e'
          refine ⟨_, List.getElem?_set_self hlt, hp', ?_⟩
          have hs' : (bif Nat.blt m n then some (rvLook d ov m) else none) = some w := hs'
          show (bif Nat.blt m n then some (rvLook d (rvUp ov x v0) m) else none) = some w
          rw [look_up, if_neg (fun q => hne ⟨rfl, q⟩)]
          exact hs'
        · exact hV_ne hk hw
      · refine ⟨_, List.getElem?_set_self hlt, rfl, ?_⟩
        show (bif Nat.blt x n then some (rvLook d (rvUp ov x v0) x) else none) = some v0
        rw [look_up, if_pos rfl, hb]
        rfl
    dsimp only at he
    split at he
    · rename_i z
      obtain ⟨-, rfl⟩ := rv_bif he
      exact h _ (key _ rfl)
    · rename_i z
      split at he
      · obtain ⟨-, rfl⟩ := rv_bif he
        exact h _ (key _ rfl)
      · cases he
    · cases he
theorem Pr_icmp {c : ClassFile.Cond} {off : Int} {t : Nat} {a b : Int} (hj : j < NM) (ht : tab j pc = some (.if_icmp c off, len, a1, a2, a3, wi)) (hT : rvJ pc off = some t) (h1 : cmpP c a b → Pr tab info rets NM mth j Post t al st aw) (h2 : cmpN c a b → Pr tab info rets NM mth j Post (pc + 3) al st aw) : Pr tab info rets NM mth j Post pc al (pt b :: pt a :: st) aw := by
  refine Pr_step hj ht (evn rfl) (fun kc ks o' he => ?_)
  have he : (match rvCmp c (a, a) (b, b), rvJ pc off with
      | some true, some t => some (t, al, st, aw, kc, ks)
      | some false, some _ => some (pc + 3, al, st, aw, kc, ks)
      | _, _ => none) = some o' := he
  rw [hT] at he
  obtain ⟨z, hz, hc⟩ := rvCmp_p2 c a b
  rw [hz] at he
  cases z with
  | true =>
    have e := Option.some.inj he
    subst e
    exact h1 (hc.mp rfl)
  | false =>
    have e := Option.some.inj he
    subst e
    exact h2 (cmp_N (fun q => by cases hc.mpr q))
theorem Pr_ifc {c : ClassFile.Cond} {off : Int} {t : Nat} {a : Int} (hj : j < NM) (ht : tab j pc = some (.ifCond c off, len, a1, a2, a3, wi)) (hT : rvJ pc off = some t) (h1 : cmpP c a 0 → Pr tab info rets NM mth j Post t al st aw) (h2 : cmpN c a 0 → Pr tab info rets NM mth j Post (pc + 3) al st aw) : Pr tab info rets NM mth j Post pc al (pt a :: st) aw := by
  refine Pr_step hj ht (evn rfl) (fun kc ks o' he => ?_)
  have he : (match rvCmp c (a, a) (0, 0), rvJ pc off with
      | some true, some t => some (t, al, st, aw, kc, ks)
      | some false, some _ => some (pc + 3, al, st, aw, kc, ks)
      | _, _ => none) = some o' := he
  rw [hT] at he
  obtain ⟨z, hz, hc⟩ := rvCmp_p2 c a 0
  rw [hz] at he
  cases z with
  | true =>
    have e := Option.some.inj he
    subst e
    exact h1 (hc.mp rfl)
  | false =>
    have e := Option.some.inj he
    subst e
    exact h2 (cmp_N (fun q => by cases hc.mpr q))
theorem Pr_bin {f : Int32 → Int32 → Int32} {a b : Int} (hj : j < NM) (ht : tab j pc = some (i, len, a1, a2, a3, wi)) (hf : opF i = some f) (h : Pr tab info rets NM mth j Post (pc + 1) al (pt (iop f a b) :: st) aw) : Pr tab info rets NM mth j Post pc al (pt b :: pt a :: st) aw := by
  have hn : ¬ evCr i := by
    intro q
    rcases q with ⟨x, rfl⟩ | ⟨x, rfl⟩ | ⟨x, rfl⟩ | rfl | rfl | rfl <;> cases hf
  refine Pr_pure hj ht hn (fun BC BS kc ks o' he => ?_) h
  rw [← rvBin_p2]
  unfold opF at hf
  split at hf
  all_goals first
    | (cases hf; done)
    | (cases hf; exact (Option.some.inj he).symm)
theorem Pr_st (pc' : Nat) (al' : List rvV) {k : Nat} {v : rvV} (hj : j < NM) (ht : tab j pc = some (i, len, a1, a2, a3, wi)) (hi : (i = .istore k ∧ pc + 2 = pc') ∨ (i = .astore k ∧ pc + 2 = pc') ∨ (∃ q : Fin 4, i = .istore_n q ∧ q.val = k ∧ pc + 1 = pc') ∨ (∃ q : Fin 4, i = .astore_n q ∧ q.val = k ∧ pc + 1 = pc')) (hs : rvSet al k v = al') (h : Pr tab info rets NM mth j Post pc' al' st aw) : Pr tab info rets NM mth j Post pc al (v :: st) aw := by
  subst hs
  have hn : ¬ evCr i := by
    intro q
    rcases hi with ⟨rfl, -⟩ | ⟨rfl, -⟩ | ⟨y, rfl, -⟩ | ⟨y, rfl, -⟩ <;> rcases q with ⟨x, q⟩ | ⟨x, q⟩ | ⟨x, q⟩ | q | q | q <;> cases q
  refine Pr_pure hj ht hn (fun BC BS kc ks o' he => ?_) h
  rcases hi with ⟨rfl, rfl⟩ | ⟨rfl, rfl⟩ | ⟨q, rfl, rfl, rfl⟩ | ⟨q, rfl, rfl, rfl⟩
  · simp only [rvStep] at he
    split at he
    · rename_i e
      have e := List.cons.inj e
      obtain ⟨rfl, rfl⟩ := e
      exact rv_bifr he
    · cases he
  · simp only [rvStep] at he
    exact rv_bifr he
  · simp only [rvStep] at he
    split at he
    · rename_i e
      have e := List.cons.inj e
      obtain ⟨rfl, rfl⟩ := e
      exact rv_bifr he
    · cases he
  · simp only [rvStep] at he
    exact rv_bifr he
theorem Pr_dup (hj : j < NM) {v : rvV} (ht : tab j pc = some (.dup, len, a1, a2, a3, wi)) (h : Pr tab info rets NM mth j Post (pc + 1) al (v :: v :: st) aw) : Pr tab info rets NM mth j Post pc al (v :: st) aw := by
  refine Pr_pure hj ht (evn rfl) (fun BC BS kc ks o' he => ?_) h
  simp only [rvStep] at he
  obtain ⟨-, e⟩ := rv_nbif he
  exact e.symm
theorem Pr_goto (pc' : Nat) {off : Int} (hj : j < NM) (ht : tab j pc = some (.goto off, len, a1, a2, a3, wi)) (hp : rvJ pc off = some pc') (h : Pr tab info rets NM mth j Post pc' al st aw) : Pr tab info rets NM mth j Post pc al st aw := by
  refine Pr_pure hj ht (evn rfl) (fun BC BS kc ks o' he => ?_) h
  simp only [rvStep] at he
  rw [hp] at he
  exact (Option.some.inj he).symm
theorem Pr_iinc {k : Nat} {n a : Int} {al' : List rvV} (hj : j < NM) (ht : tab j pc = some (.iinc k n, len, a1, a2, a3, wi)) (hv : al[k]? = some (pt a)) (hs : rvSet al k (pt (iop (· + ·) a n)) = al') (h : Pr tab info rets NM mth j Post (pc + 3) al' st aw) : Pr tab info rets NM mth j Post pc al st aw := by
  refine Pr_pure hj ht (evn rfl) (fun BC BS kc ks o' he => ?_) h
  simp only [rvStep, hv] at he
  obtain ⟨-, e⟩ := rv_bif he
  rw [← e, ← hs, rvBin_p2]
theorem Pr_ret (ht : tab j pc = some (i, len, a1, a2, a3, wi)) (hi : i = .ireturn ∨ i = .lreturn ∨ i = .return_) (hP : Post (st.head?, aw)) : Pr tab info rets NM mth j Post pc al st aw := by
  intro kc ks P hE
  obtain ⟨b1, b2, b3, hj⟩ := Ev_room hE ht hi
  exact (Ev_clo tab info rets NM mth).2.2.2.2.1 j _ pc al st aw kc ks i len a1 a2 a3 wi hj ht b1 b2 b3 ⟨(Ev_inv hE).2.2.2.2.1 i len a1 a2 a3 wi ht b1, hP⟩
theorem Pr_callV {as0 rest : List rvV} {v : rvV} {j2 : Nat} {Q : xRes2 → Prop} (ht : tab j pc = some (i, len, j2, a2, a3, wi)) (hi0 : (∃ x, i = .invokevirtual x) ∨ ((∃ x, i = .invokespecial x) ∧ Nat.beq a3 9 = false)) (hm : mth j2 = none) (hp : rvPop a2 st [] = some (as0, v :: rest)) (hs : PCM tab info rets NM mth j2 (v :: as0) aw Q) (h : ∀ res, Q res → Pr tab info rets NM mth j Post (pc + 3) al (res.1.toList ++ rest) res.2) : Pr tab info rets NM mth j Post pc al st aw := by
  intro kc ks P hP
  obtain ⟨as', rest', hi, -, hj⟩ := Ev_call hP ht (Or.inr hi0)
  have e : as' = v :: as0 ∧ rest' = rest := by
    obtain ⟨i1, l0, b2, b3, bw, as1, rest1, ht', hp', -, -, -, -, -, hc⟩ := hi
    obtain ⟨rfl, -, -, rfl, rfl, -⟩ := ev_row ht ht'
    have hp' : rvPop a2 st [] = some (as1, rest1) := hp'
    rw [hp] at hp'
    injection hp' with e
    injection e with e1 e2
    rcases hc with ⟨⟨x, hc⟩, -⟩ | ⟨-, v', q1, q2, -⟩
    · rcases hi0 with ⟨y, q⟩ | ⟨⟨y, q⟩, -⟩
      · rw [hc] at q; cases q
      · rw [hc] at q; cases q
    · rw [← e2] at q1
      injection q1 with q3 q4
      rw [q2, ← q3, ← e1]
      exact ⟨rfl, q4.symm⟩
  obtain ⟨rfl, rfl⟩ := e
  obtain ⟨Qc, q1, q2⟩ := (Ev_inv hP).2.2.2.1 j2 _ rest' hi hm
  exact (Ev_clo tab info rets NM mth).2.2.2.1 j _ _ pc al st aw kc ks j2 _ rest' hj hi (hs Qc q1) (fun res hres => h res hres.2 _ _ P (q2 res hres.1))
theorem Pr_callS {as rest : List rvV} {idx j2 : Nat} {Q : xRes2 → Prop} (ht : tab j pc = some (.invokestatic idx, len, j2, a2, a3, wi)) (h8 : Nat.beq a3 8 = false) (hm : mth j2 = none) (hp : rvPop a2 st [] = some (as, rest)) (hs : PCM tab info rets NM mth j2 as aw Q) (h : ∀ res, Q res → Pr tab info rets NM mth j Post (pc + 3) al (res.1.toList ++ rest) res.2) : Pr tab info rets NM mth j Post pc al st aw := by
  intro kc ks P hP
  obtain ⟨as', rest', hi, -, hj⟩ := Ev_call hP ht (Or.inl ⟨⟨_, rfl⟩, h8, hm⟩)
  have e : as' = as ∧ rest' = rest := by
    obtain ⟨i0, l0, b2, b3, bw, as0, rest0, ht', hp', -, -, -, -, -, hc⟩ := hi
    obtain ⟨rfl, -, -, rfl, rfl, -⟩ := ev_row ht ht'
    have hp' : rvPop a2 st [] = some (as0, rest0) := hp'
    rw [hp] at hp'
    injection hp' with e
    injection e with e1 e2
    rcases hc with ⟨-, -, q1, q2⟩ | ⟨hc, -⟩
    · exact ⟨q1.trans e1.symm, q2.symm.trans e2.symm⟩
    · rcases hc with ⟨x, q⟩ | ⟨⟨x, q⟩, -⟩ <;> cases q
  obtain ⟨rfl, rfl⟩ := e
  obtain ⟨Qc, q1, q2⟩ := (Ev_inv hP).2.2.2.1 j2 _ rest' hi hm
  exact (Ev_clo tab info rets NM mth).2.2.2.1 j _ _ pc al st aw kc ks j2 _ rest' hj hi (hs Qc q1) (fun res hres => h res hres.2 _ _ P (q2 res hres.1))
end PR
