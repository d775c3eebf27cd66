/-! copyFrom: which rows stay (by hand). -/
section EC
variable {tab : Nat → Nat → Option rvE} {info : Nat → rvM} {rets : Nat → Option FieldType} {NM : Nat} {mth : Nat → Option Nat}
theorem Ev_copy {j : Nat} {P : xRes2 → Prop} {o : rvS} {idx len a1 a2 a3 wi : Nat} (h : Ev tab info rets NM mth j P o) (ht : tab j o.1 = some (.invokestatic idx, len, a1, a2, a3, wi)) (hn : Nat.beq a3 8 = true) : (∃ o', rvCopy (info j).2.1 (info j).2.2.2.2.1 o.1 o.2.1 o.2.2.1 o.2.2.2.1 o.2.2.2.2.1 o.2.2.2.2.2 = some o' ∧ Ev tab info rets NM mth j P o') ∧ j < NM := by
  have hE := Ev_clo tab info rets NM mth
  have h2 := h (fun j P o => Ev tab info rets NM mth j P o ∧ ∀ (i : Instr) (len a1 a2 a3 wi : Nat), tab j o.1 = some (i, len, a1, a2, a3, wi) → (∃ x, i = .invokestatic x) → Nat.beq a3 8 = true → (∃ o', rvCopy (info j).2.1 (info j).2.2.2.2.1 o.1 o.2.1 o.2.2.1 o.2.2.2.1 o.2.2.2.2.1 o.2.2.2.2.2 = some o' ∧ Ev tab info rets NM mth j P o') ∧ j < NM) (EvM tab info rets NM mth)
    ⟨fun j P o o' i len a1 a2 a3 wi h1 h2 h3 h4 => ⟨hE.1 j P o o' i len a1 a2 a3 wi h1 h2 h3 h4.1, fun i' len' a1' a2' a3' wi' ht' hi' hn' => by
        obtain ⟨rfl, -, rfl, rfl, rfl, -⟩ := ev_row h2 ht'
        exact absurd h3 (fun q => ev_no (Or.inl hi') q)⟩,
     fun j P o o' idx len a1 a2 a3 wi h1 h2 h3 h4 h5 => ⟨hE.2.1 j P o o' idx len a1 a2 a3 wi h1 h2 h3 h4 h5.1, fun i' len' a1' a2' a3' wi' ht' hi' hn' => ⟨⟨o', h4, h5.1⟩, h1⟩⟩,
     fun j P pc al i rest aw kc ks idx len a1 a2 a3 wi h1 h2 h3 h4 h5 => ⟨hE.2.2.1 j P pc al i rest aw kc ks idx len a1 a2 a3 wi h1 h2 h3 h4 h5.1, fun i' len' a1' a2' a3' wi' ht' hi' hn' => by
        obtain ⟨rfl, -⟩ := ev_row h2 ht'
        obtain ⟨x, e⟩ := hi'
        cases e⟩,
     fun j P R pc al st aw kc ks j2 as rest h1 h2 h3 h4 => ⟨hE.2.2.2.1 j P R pc al st aw kc ks j2 as rest h1 h2 h3 (fun res hr => (h4 res hr).1), fun i' len' a1' a2' a3' wi' ht' hi' hn' => by
        obtain ⟨i, len, a2, a3, wi, ht, hc⟩ := xInv_cr h2
        obtain ⟨rfl, -, -, -, rfl, -⟩ := ev_row ht ht'
        obtain ⟨x, e⟩ := hi'
        rcases hc with ⟨-, q⟩ | ⟨y, q⟩ | ⟨⟨y, q⟩, -⟩
        · rw [hn'] at q; cases q
        · rw [e] at q; cases q
        · rw [e] at q; cases q⟩,
     fun j P pc al st aw kc ks i len a1 a2 a3 wi h1 h2 h3 h4 h5 h6 => ⟨hE.2.2.2.2.1 j P pc al st aw kc ks i len a1 a2 a3 wi h1 h2 h3 h4 h5 h6, fun i' len' a1' a2' a3' wi' ht' hi' hn' => by
        obtain ⟨rfl, -⟩ := ev_row h2 ht'
        obtain ⟨x, e⟩ := hi'
        rcases ev_ret h3 with q | q | q <;> (rw [q] at e; cases e)⟩,
     fun j P pc al k x y rest aw kc ks idx len a1 a2 a3 wi h1 h2 h3 h4 h5 h6 h7 h8 h9 ha hb hd => ⟨hE.2.2.2.2.2.1 j P pc al k x y rest aw kc ks idx len a1 a2 a3 wi h1 h2 h3 h4 h5 h6 h7 h8 h9 ha hb hd.1, fun i' len' a1' a2' a3' wi' ht' hi' hn' => by
        obtain ⟨-, -, -, -, rfl, -⟩ := ev_row h2 ht'
        exact absurd (ev_89 hn' h3) id⟩,
     fun j P pc al x rest aw kc ks idx len a1 a2 a3 wi h1 h2 h3 h4 h5 h6 h7 h8 h9 hd => ⟨hE.2.2.2.2.2.2.1 j P pc al x rest aw kc ks idx len a1 a2 a3 wi h1 h2 h3 h4 h5 h6 h7 h8 h9 (fun n n1 n2 => (hd n n1 n2).1), fun i' len' a1' a2' a3' wi' ht' hi' hn' => by
        obtain ⟨-, -, -, -, rfl, -⟩ := ev_row h2 ht'
        exact absurd (ev_89 hn' h3) id⟩,
     fun j P as aw h1 h2 h3 h4 => hE.2.2.2.2.2.2.2 j P as aw h1 h2 h3 h4.1⟩
  exact h2.2 _ len a1 a2 a3 wi ht ⟨_, rfl⟩ hn
variable {j pc len a1 a2 a3 wi : Nat} {i : Instr} {al st : List rvV} {aw : rvH} {Post : xRes2 → Prop}
theorem Pr_copy {idx : Nat} {v1 v2 w v4 v5 : rvV} {rest : List rvV} (ht : tab j pc = some (.invokestatic idx, len, a1, a2, a3, wi)) (h8 : Nat.beq a3 8 = true) (h : ∀ (x m : Nat) (d d' : rvV) (ov ov' : List (Nat × rvV)), w = rf x → aw[x]? = some (.inr (0, m, d, ov)) → Pr tab info rets NM mth j Post (pc + 3) al rest (aw.set x (.inr (0, m, d', ov')))) : Pr tab info rets NM mth j Post pc al (v1 :: v2 :: w :: v4 :: v5 :: rest) aw := by
  intro kc ks P hE
  obtain ⟨⟨o', hs, he⟩, hj⟩ := Ev_copy hE ht h8
  have hs0 := hs
  unfold rvCopy at hs
  split at hs
  · rename_i n dp x sp y rest' hst
    have hst := List.cons.inj hst
    obtain ⟨e1, hst⟩ := hst
    obtain ⟨e2, hst⟩ := List.cons.inj hst
    obtain ⟨e3, hst⟩ := List.cons.inj hst
    obtain ⟨e4, hst⟩ := List.cons.inj hst
    obtain ⟨e5, hst⟩ := List.cons.inj hst
    subst hst
    split at hs
    · rename_i m d ov m' d' ov' q1 q2
      obtain ⟨hc, rfl⟩ := rv_bif hs
      exact (Ev_clo tab info rets NM mth).2.1 j _ _ _ idx len a1 a2 a3 wi hj ht h8 hs0 (h x m' d' d ov' ov e3 q2 _ _ P he)
    · cases hs
  · cases hs
theorem Pr_pfC {p ci f idx : Nat} {v : rvV} (hj : j < NM) (ht : tab j pc = some (.putfield idx, len, ci, f, a3, wi)) (h : ∀ fs : List rvV, aw[p]? = some (.inl (ci, fs)) → Pr tab info rets NM mth j Post (pc + 3) al st (aw.set p (.inl (ci, fs.set f v)))) : Pr tab info rets NM mth j Post pc al (v :: rf p :: st) aw := by
  refine Pr_step hj ht (evn rfl) (fun kc ks o' he => ?_)
  have he : (match aw[p]? with
      | some (.inl (ci', fs)) => bif Nat.beq ci' ci && (rvFit (rvTy ci' f) v && Nat.blt f (rvLen fs)) then some (pc + 3, al, st, aw.set p (.inl (ci', fs.set f v)), kc, ks) else none
      | _ => none) = some o' := he
  split at he
  · rename_i ci' fs e
    obtain ⟨hb, rfl⟩ := rv_bif he
    obtain ⟨hb, hb2⟩ := rv_and hb
    have hci : ci' = ci := rv_beq hb
    subst hci
    exact h fs e
  · cases he
end EC
/-- cells other than the life and its rows stay -/
def RXa (a : Nat) (aw0 aw : rvH) : Prop := (∀ k, k ≠ a → (∀ j, 6 ≤ j → j ≤ 10 → ¬ hV aw0 a j (rf k)) → aw[k]? = aw0[k]?) ∧ ∀ j v, 6 ≤ j → hV aw a j v → hV aw0 a j v
theorem RXa_put {a f : Nat} {aw0 aw : rvH} {fs : List rvV} {v : rvV} (h : RXa a aw0 aw) (hf : f < 6) (e : aw[a]? = some (.inl (2, fs))) : RXa a aw0 (aw.set a (.inl (2, fs.set f v))) := by
  have hl := (List.getElem?_eq_some_iff.mp e).1
  refine ⟨fun k hk hn => by rw [List.getElem?_set_ne (Ne.symm hk)]; exact h.1 k hk hn, fun j w hj hv => h.2 j w hj ?_⟩
  obtain ⟨c, e', hp, hs⟩ := hv
  rw [List.getElem?_set_self hl] at e'
  have e' := Option.some.inj e'
  subst e'
  refine ⟨_, e, hp, ?_⟩
  have hs : (fs.set f v)[j]? = some w := hs
  show fs[j]? = some w
  rw [List.getElem?_set_ne (by omega)] at hs
  exact hs
theorem RXa_row {a j x m : Nat} {aw0 aw : rvH} {d d' : rvV} {ov ov' : List (Nat × rvV)} {fs : List rvV} {w : rvV} (h : RXa a aw0 aw) (hj : 6 ≤ j) (hj2 : j ≤ 10) (e : aw[a]? = some (.inl (2, fs))) (hw : fs[j]? = some w) (hx : w = rf x) (ex : aw[x]? = some (.inr (0, m, d, ov))) : RXa a aw0 (aw.set x (.inr (0, m, d', ov'))) := by
  have hxa : x ≠ a := fun q => by
    subst q
    rw [e] at ex
    cases ex
  have hV0 : hV aw0 a j (rf x) := by
    rw [← hx]
    exact h.2 j w hj ⟨_, e, by show prF 2 j = true; unfold prF; rw [show Nat.ble 6 j = true from Nat.ble_eq_true_of_le hj]; simp, hw⟩
  refine ⟨fun k hk hn => ?_, fun j' w' hj' hv => h.2 j' w' hj' ?_⟩
  · have : x ≠ k := fun q => hn j hj hj2 (by rw [← q]; exact hV0)
    rw [List.getElem?_set_ne this]
    exact h.1 k hk hn
  · obtain ⟨c, e', hp, hs⟩ := hv
    rw [List.getElem?_set_ne hxa] at e'
    exact ⟨c, e', hp, hs⟩
theorem sp_copyRows (a b : Nat) (aw : rvH) : PCM rvTab rvInf rvRet 316 rvMth 185 [rf a, rf b] aw (fun res => RXa a aw res.2) := by
  have hj : 185 < 316 := by decide
  refine PCM_of (fun _ _ => ?_)
  have key : Pr rvTab rvInf rvRet 316 rvMth 185 (fun res => RXa a aw res.2) 0 [rf a, rf b] [] aw := by
    have h0 : RXa a aw aw := ⟨fun _ _ _ => rfl, fun _ _ _ h => h⟩
    refine Pr_ld 1 hj rfl rfl rfl rfl ?_
    refine Pr_ld 2 hj rfl rfl rfl rfl ?_
    refine Pr_gf hj rfl (by decide) (fun gs w g1 g2 => ?_)
    refine Pr_pfC hj rfl (fun fs e => ?_)
    have h0 := RXa_put (f := 0) (v := w) h0 (by omega) e
    generalize (List.set _ a (Sum.inl (2, fs.set 0 w))) = aw1 at h0 ⊢
    refine Pr_ld 9 hj rfl rfl rfl rfl ?_
    refine Pr_ld 10 hj rfl rfl rfl rfl ?_
    refine Pr_gf hj rfl (by decide) (fun gs w g1 g2 => ?_)
    refine Pr_pfC hj rfl (fun fs e => ?_)
    have h0 := RXa_put (f := 1) (v := w) h0 (by omega) e
    generalize (List.set _ a (Sum.inl (2, fs.set 1 w))) = aw2 at h0 ⊢
    refine Pr_ld 17 hj rfl rfl rfl rfl ?_
    refine Pr_ld 18 hj rfl rfl rfl rfl ?_
    refine Pr_gf hj rfl (by decide) (fun gs w g1 g2 => ?_)
    refine Pr_pfC hj rfl (fun fs e => ?_)
    have h0 := RXa_put (f := 2) (v := w) h0 (by omega) e
    generalize (List.set _ a (Sum.inl (2, fs.set 2 w))) = aw3 at h0 ⊢
    refine Pr_ld 25 hj rfl rfl rfl rfl ?_
    refine Pr_ld 26 hj rfl rfl rfl rfl ?_
    refine Pr_gf hj rfl (by decide) (fun gs w g1 g2 => ?_)
    refine Pr_pfC hj rfl (fun fs e => ?_)
    have h0 := RXa_put (f := 3) (v := w) h0 (by omega) e
    generalize (List.set _ a (Sum.inl (2, fs.set 3 w))) = aw4 at h0 ⊢
    refine Pr_ld 33 hj rfl rfl rfl rfl ?_
    refine Pr_ld 34 hj rfl rfl rfl rfl ?_
    refine Pr_gf hj rfl (by decide) (fun gs w g1 g2 => ?_)
    refine Pr_pfC hj rfl (fun fs e => ?_)
    have h0 := RXa_put (f := 4) (v := w) h0 (by omega) e
    generalize (List.set _ a (Sum.inl (2, fs.set 4 w))) = aw5 at h0 ⊢
    refine Pr_ld 41 hj rfl rfl rfl rfl ?_
    refine Pr_gf hj rfl (by decide) (fun gs u g1 g2 => ?_)
    refine Pr_cst 45 hj rfl rfl rfl ?_
    refine Pr_ld 46 hj rfl rfl rfl rfl ?_
    refine Pr_gf hj rfl (by decide) (fun fs w e1 e2 => ?_)
    refine Pr_cst 50 hj rfl rfl rfl ?_
    refine Pr_cst 52 hj rfl rfl rfl ?_
    refine Pr_copy rfl rfl (fun x m d d' ov ov' ew ex => ?_)
    have h0 := RXa_row (j := 6) (d' := d') (ov' := ov') h0 (by omega) (by omega) e1 e2 ew ex
    generalize (List.set _ x (Sum.inr (0, m, d', ov'))) = bw0 at h0 ⊢
    refine Pr_ld 56 hj rfl rfl rfl rfl ?_
    refine Pr_gf hj rfl (by decide) (fun gs u g1 g2 => ?_)
    refine Pr_cst 60 hj rfl rfl rfl ?_
    refine Pr_ld 61 hj rfl rfl rfl rfl ?_
    refine Pr_gf hj rfl (by decide) (fun fs w e1 e2 => ?_)
    refine Pr_cst 65 hj rfl rfl rfl ?_
    refine Pr_cst 66 hj rfl rfl rfl ?_
    refine Pr_copy rfl rfl (fun x m d d' ov ov' ew ex => ?_)
    have h0 := RXa_row (j := 7) (d' := d') (ov' := ov') h0 (by omega) (by omega) e1 e2 ew ex
    generalize (List.set _ x (Sum.inr (0, m, d', ov'))) = bw1 at h0 ⊢
    refine Pr_ld 70 hj rfl rfl rfl rfl ?_
    refine Pr_gf hj rfl (by decide) (fun gs u g1 g2 => ?_)
    refine Pr_cst 74 hj rfl rfl rfl ?_
    refine Pr_ld 75 hj rfl rfl rfl rfl ?_
    refine Pr_gf hj rfl (by decide) (fun fs w e1 e2 => ?_)
    refine Pr_cst 79 hj rfl rfl rfl ?_
    refine Pr_cst 81 hj rfl rfl rfl ?_
    refine Pr_copy rfl rfl (fun x m d d' ov ov' ew ex => ?_)
    have h0 := RXa_row (j := 8) (d' := d') (ov' := ov') h0 (by omega) (by omega) e1 e2 ew ex
    generalize (List.set _ x (Sum.inr (0, m, d', ov'))) = bw2 at h0 ⊢
    refine Pr_ld 85 hj rfl rfl rfl rfl ?_
    refine Pr_gf hj rfl (by decide) (fun gs u g1 g2 => ?_)
    refine Pr_cst 89 hj rfl rfl rfl ?_
    refine Pr_ld 90 hj rfl rfl rfl rfl ?_
    refine Pr_gf hj rfl (by decide) (fun fs w e1 e2 => ?_)
    refine Pr_cst 94 hj rfl rfl rfl ?_
    refine Pr_cst 96 hj rfl rfl rfl ?_
    refine Pr_copy rfl rfl (fun x m d d' ov ov' ew ex => ?_)
    have h0 := RXa_row (j := 9) (d' := d') (ov' := ov') h0 (by omega) (by omega) e1 e2 ew ex
    generalize (List.set _ x (Sum.inr (0, m, d', ov'))) = bw3 at h0 ⊢
    refine Pr_ld 100 hj rfl rfl rfl rfl ?_
    refine Pr_gf hj rfl (by decide) (fun gs u g1 g2 => ?_)
    refine Pr_cst 104 hj rfl rfl rfl ?_
    refine Pr_ld 105 hj rfl rfl rfl rfl ?_
    refine Pr_gf hj rfl (by decide) (fun fs w e1 e2 => ?_)
    refine Pr_cst 109 hj rfl rfl rfl ?_
    refine Pr_cst 111 hj rfl rfl rfl ?_
    refine Pr_copy rfl rfl (fun x m d d' ov ov' ew ex => ?_)
    have h0 := RXa_row (j := 10) (d' := d') (ov' := ov') h0 (by omega) (by omega) e1 e2 ew ex
    generalize (List.set _ x (Sum.inr (0, m, d', ov'))) = bw4 at h0 ⊢
    exact Pr_ret rfl (Or.inr (Or.inr rfl)) h0
  exact key 0 0
