/-! The law's frame closes the checker's runs too. -/
def lwTb (pc : Nat) : Option rvE := match rvTab 316 pc with
  | some (.invokevirtual idx, r) => some (.invokevirtual idx, r)
  | _ => none
def lwInf (n : Nat) : rvM := bif Nat.beq n 316 then (7, (rvInf 316).2.1, 600000, 7000000, (rvInf 316).2.2.2.2.1, 200) else rvInf n
theorem lwInf_ne {n : Nat} (h : n < 316) : lwInf n = rvInf n := by
  unfold lwInf
  cases e : Nat.beq n 316 with
  | true => have := rv_beq e; omega
  | false => rfl
theorem lwInf_eq : lwInf 316 = (7, (rvInf 316).2.1, 600000, 7000000, (rvInf 316).2.2.2.2.1, 200) := rfl
/-- all rows of the made table are as told -/
def lwRows : Prop := ∀ (pc : Nat) (e : rvE), rvTab 316 pc = some e → lwRow (pc, e) = true
theorem lwRows_ok (h : tb_316.all (fun ch => ch.2.all lwRow) = true) (he : rvEn 316 = tb_316) : lwRows := by
  intro pc e hf
  have hf : rvFind2 (rvEn 316) pc = some e := hf
  rw [he] at hf
  obtain ⟨ch, h1, h2⟩ := rvFind2_mem hf
  exact List.all_eq_true.mp (List.all_eq_true.mp h ch h1) _ h2
theorem lwTk (hR : lwRows) : rvTk rvYn rvKd 316 RL cL_law false lwTb := by
  intro pc i len a1 a2 a3 wi h
  unfold lwTb at h
  split at h
  · rename_i idx r hf
    have e := Option.some.inj h
    have e1 : (Instr.invokevirtual idx) = i := (Prod.mk.inj e).1
    have e2 : r = (len, a1, a2, a3, wi) := (Prod.mk.inj e).2
    subst e1
    subst e2
    have hr := hR pc _ hf
    have hr : ((!lwF pc && !lwF (pc + 3)) && (Nat.beq a3 0 && (decide (decode cL_law pc = .ok (.invokevirtual idx, 3)) && (rvAux RL false (.invokevirtual idx) a1 a2 wi && rvCk rvYn rvKd 316 RL (.invokevirtual idx) a1 a2 a3 wi)))) = true := hr
    obtain ⟨-, r2⟩ := rv_and hr
    obtain ⟨-, r2⟩ := rv_and r2
    obtain ⟨r2, r3⟩ := rv_and r2
    obtain ⟨r3, r4⟩ := rv_and r3
    exact ⟨of_decide_eq_true r2, r3, r4⟩
  · cases h
section LWI
variable {l : Launch} {D : va_G} {cB : Nat → ClassId} {ex : Nat → Nat → Nat} {RG : rvS → Prop} {sc : List (Int × Int)} {i : Int} {vs : List rvV} {k0 s0 : Nat} {Met : Nat → List rvV → rvH → (xRes2 → Prop) → Prop} {Gd : Nat → (xRes2 → Prop) → rvS → Prop}
/-- what the machine gives: a call in the law -/
def lwI (RG : rvS → Prop) (Met : Nat → List rvV → rvH → (xRes2 → Prop) → Prop) : Prop := ∀ (pc : Nat) (al st : List rvV) (aw : rvH) (kc ks j2 : Nat) (as rest : List rvV) (Q : xRes2 → Prop), j2 < 316 → xInv (fun _ => lwTb) lwInf 316 pc st aw kc ks j2 as rest → Met j2 as aw Q → (∀ res, Q res → RG (pc + 3, al, res.1.toList ++ rest, res.2, kc + (rvInf j2).2.2.1, ks + (rvInf j2).2.2.2.1)) → RG (pc, al, st, aw, kc, ks)
/-- the methods and the law -/
def lwGd (RG : rvS → Prop) (Gd : Nat → (xRes2 → Prop) → rvS → Prop) (i : Int) (vs : List rvV) (k0 s0 : Nat) (j : Nat) (Post : xRes2 → Prop) (o : rvS) : Prop := (j < 316 → Gd j Post o) ∧ (j = 316 → lwG RG i vs k0 s0 o)
theorem lw_ge {n : Nat} (h : n < 317) : n < 316 ∨ n = 316 := by omega
theorem lwBad {pc : Nat} {q : Instr} {r : Nat × Nat × Nat × Nat × Nat} (hR : lwRows) (h : rvTab 316 pc = some (q, r)) : (∃ n, q = .iload n) ∨ (∃ n, q = .goto n) ∨ (∃ n, q = .aload_n n) ∨ q = .pop ∨ (∃ n, q = .istore n) ∨ (∃ a b c d, q = .tableswitch a b c d) ∨ (∃ a b, q = .if_icmp a b) ∨ ∃ n, q = .invokevirtual n := by
  have hr := hR pc _ h
  obtain ⟨len, a1, a2, a3, wi⟩ := r
  cases q <;> first
    | exact Or.inl ⟨_, rfl⟩
    | exact Or.inr (Or.inl ⟨_, rfl⟩)
    | exact Or.inr (Or.inr (Or.inl ⟨_, rfl⟩))
    | exact Or.inr (Or.inr (Or.inr (Or.inl rfl)))
    | exact Or.inr (Or.inr (Or.inr (Or.inr (Or.inl ⟨_, rfl⟩))))
    | exact Or.inr (Or.inr (Or.inr (Or.inr (Or.inr (Or.inl ⟨_, _, _, _, rfl⟩)))))
    | exact Or.inr (Or.inr (Or.inr (Or.inr (Or.inr (Or.inr (Or.inl ⟨_, _, rfl⟩))))))
    | exact Or.inr (Or.inr (Or.inr (Or.inr (Or.inr (Or.inr (Or.inr ⟨_, rfl⟩))))))
    | exact absurd (show false = true from hr) (by decide)
theorem lwClo (hR : lwRows) (hm : rvMth 316 = some 9) (hB : (rvInf 316).2.2.1 = 20 ∧ (rvInf 316).2.2.2.1 = 400 ∧ (rvInf 316).1 = 12) (hc : xClo rvTab rvInf rvRet 316 rvMth Gd Met) (hS : lwS RG sc) (hI : lwI RG Met) (hsp : ∀ (pc : Nat) (al st : List rvV) (a : Int × Int) (aw : rvH) (kc ks : Nat), (∀ n, a.1 ≤ n → n ≤ a.2 → xIn32 n → RG (pc, al, .inl (n, n) :: st, aw, kc, ks)) → RG (pc, al, .inl a :: st, aw, kc, ks))
    (hi : 0 ≤ i) (hi2 : i ≤ 3066) (hk0 : k0 + 20 ≤ 600000) (hs0 : s0 + 400 ≤ 7000000) (hsc : ∀ k : Nat, 1 ≤ k → k ≤ 5 → ∃ v, vs[k - 1]? = some (.inl v) ∧ sc[i.toNat + k]? = some v) : xClo rvTab rvInf rvRet 317 rvMth (lwGd RG Gd i vs k0 s0) Met := by
  obtain ⟨c1, c2, c3, c4, c5, c6, c7, c8, c9⟩ := hc
  refine ⟨?_, ?_, ?_, ?_, ?_, ?_, ?_, ?_, ?_⟩
  · intro j Post o o' q len a1 a2 a3 wi hj ht hst hG
    refine ⟨fun h => c1 j Post o o' q len a1 a2 a3 wi h ht hst (hG.1 h), fun h => ?_⟩
    subst h
    have hg := hG.2 rfl
    have hr := hR _ _ ht
    rw [hB.1, hB.2.1, hB.2.2] at hst
    obtain ⟨pc, al, st, aw, kc, ks⟩ := o
    dsimp only at ht hst hr
    rcases lwBad hR ht with ⟨n, rfl⟩ | ⟨n, rfl⟩ | ⟨n, rfl⟩ | rfl | ⟨n, rfl⟩ | ⟨a, b, c, d, rfl⟩ | ⟨a, b, rfl⟩ | ⟨n, rfl⟩
    · exact lw_iload hS hi hi2 hsc hr hst hg
    · exact lw_goto hS hr hst hg
    · exact lw_aload hS hr hst hg
    · exact lw_pop hS hr hst hg
    · exact lw_istore hS hr hst hg
    · exact lw_tsw hS hr hst hg
    · exact lw_icmp hS hr hst hg
    · cases hst
  · intro j Post pc al st a aw kc ks hG
    refine ⟨fun h => c2 j Post pc al st a aw kc ks (fun n n1 n2 n3 => (hG n n1 n2 n3).1 h), fun h => ?_⟩
    intro b1 b2 b3 b5 b6 hal
    exact hsp _ _ st a aw _ _ (fun n n1 n2 n3 => (hG n n1 n2 n3).2 h b1 b2 b3 b5 b6 hal)
  · intro j Post o o' idx len a1 a2 a3 wi hj ht h8 hst hG
    refine ⟨fun h => c3 j Post o o' idx len a1 a2 a3 wi h ht h8 hst (hG.1 h), fun h => ?_⟩
    subst h
    rcases lwBad hR ht with ⟨n, e⟩ | ⟨n, e⟩ | ⟨n, e⟩ | e | ⟨n, e⟩ | ⟨a, b, c, d, e⟩ | ⟨a, b, e⟩ | ⟨n, e⟩ <;> cases e
  · intro j Post pc al i9 rest aw kc ks idx len a1 a2 a3 wi hj ht h9 hb hG
    refine ⟨fun h => c4 j Post pc al i9 rest aw kc ks idx len a1 a2 a3 wi h ht h9 hb (hG.1 h), fun h => ?_⟩
    subst h
    rcases lwBad hR ht with ⟨n, e⟩ | ⟨n, e⟩ | ⟨n, e⟩ | e | ⟨n, e⟩ | ⟨a, b, c, d, e⟩ | ⟨a, b, e⟩ | ⟨n, e⟩ <;> cases e
  · intro j Post Q pc al st aw kc ks j2 as rest hj hinv hmet hG
    refine ⟨fun h => c5 j Post Q pc al st aw kc ks j2 as rest h hinv hmet (fun res hq => (hG res hq).1 h), fun h => ?_⟩
    subst h
    obtain ⟨q, len, a2, a3, wi, as0, rest0, t1, t2, t3, t4, t5, t6, t7, t8⟩ := hinv
    have hr := hR _ _ t1
    rcases lwBad hR t1 with ⟨n, e⟩ | ⟨n, e⟩ | ⟨n, e⟩ | e | ⟨n, e⟩ | ⟨a, b, c, d, e⟩ | ⟨a, b, e⟩ | ⟨n, e⟩
    · subst e; rcases t8 with ⟨⟨_, e⟩, -⟩ | ⟨⟨_, e⟩ | ⟨⟨_, e⟩, -⟩, -⟩ <;> cases e
    · subst e; rcases t8 with ⟨⟨_, e⟩, -⟩ | ⟨⟨_, e⟩ | ⟨⟨_, e⟩, -⟩, -⟩ <;> cases e
    · subst e; rcases t8 with ⟨⟨_, e⟩, -⟩ | ⟨⟨_, e⟩ | ⟨⟨_, e⟩, -⟩, -⟩ <;> cases e
    · subst e; rcases t8 with ⟨⟨_, e⟩, -⟩ | ⟨⟨_, e⟩ | ⟨⟨_, e⟩, -⟩, -⟩ <;> cases e
    · subst e; rcases t8 with ⟨⟨_, e⟩, -⟩ | ⟨⟨_, e⟩ | ⟨⟨_, e⟩, -⟩, -⟩ <;> cases e
    · subst e; rcases t8 with ⟨⟨_, e⟩, -⟩ | ⟨⟨_, e⟩ | ⟨⟨_, e⟩, -⟩, -⟩ <;> cases e
    · subst e; rcases t8 with ⟨⟨_, e⟩, -⟩ | ⟨⟨_, e⟩ | ⟨⟨_, e⟩, -⟩, -⟩ <;> cases e
    · subst e
      have hr : ((!lwF pc && !lwF (pc + 3)) && (Nat.beq a3 0 && (decide (decode cL_law pc = .ok (.invokevirtual n, 3)) && (rvAux RL false (.invokevirtual n) j2 a2 wi && rvCk rvYn rvKd 316 RL (.invokevirtual n) j2 a2 a3 wi)))) = true := hr
      obtain ⟨r1, r2⟩ := rv_and hr
      obtain ⟨r3, r4⟩ := rv_and r1
      have hj2 : j2 < 316 := by
        obtain ⟨-, r2⟩ := rv_and r2
        obtain ⟨-, r2⟩ := rv_and r2
        obtain ⟨-, r2⟩ := rv_and r2
        obtain ⟨r2, -⟩ := rv_and r2
        exact rv_blt r2
      have ht : lwTb pc = some (.invokevirtual n, len, j2, a2, a3, wi) := by
        unfold lwTb
        rw [t1]
      intro b1 b2 b3 b5 b6 hal
      dsimp only at hal ⊢
      rw [lw_not r3, cond_false]
      rw [hB.1] at t5
      rw [hB.2.1] at t6
      refine hI pc _ st aw _ _ j2 as rest Q hj2 ⟨.invokevirtual n, len, a2, a3, wi, as0, rest0, ht, t2, ?_, ?_, ?_, ?_, t7, ?_⟩ hmet (fun res hq => ?_)
      · rw [lwInf_ne hj2, lwInf_eq]; exact t3
      · rw [lwInf_ne hj2, lwInf_eq]; exact t4
      · rw [lwInf_ne hj2, lwInf_eq]; show k0 + kc + _ ≤ 600000; omega
      · rw [lwInf_ne hj2, lwInf_eq]; show s0 + ks + _ ≤ 7000000; omega
      · rw [lwInf_ne hj2]; exact t8
      · have := (hG res hq).2 rfl b1 b2 b3 b5 b6 hal
        dsimp only at this
        rw [lw_not r4, cond_false, ← Nat.add_assoc, ← Nat.add_assoc] at this
        exact this
  · intro j Post pc al st aw kc ks q len a1 a2 a3 wi hj ht hret b1 b2 hp
    refine ⟨fun h => c6 j Post pc al st aw kc ks q len a1 a2 a3 wi h ht hret b1 b2 hp, fun h => ?_⟩
    subst h
    rcases lwBad hR ht with ⟨n, e⟩ | ⟨n, e⟩ | ⟨n, e⟩ | e | ⟨n, e⟩ | ⟨a, b, c, d, e⟩ | ⟨a, b, e⟩ | ⟨n, e⟩ <;> (subst e; rcases hret with ⟨e, -⟩ | ⟨e, -⟩ | ⟨e, -⟩ <;> cases e)
  · intro j Post pc al k x y rest aw kc ks idx len a1 a2 a3 wi hj ht h0 hk hk2 x32 y32 bF bL bc bs hG
    refine ⟨fun h => c7 j Post pc al k x y rest aw kc ks idx len a1 a2 a3 wi h ht h0 hk hk2 x32 y32 bF bL bc bs (hG.1 h), fun h => ?_⟩
    subst h
    rcases lwBad hR ht with ⟨n, e⟩ | ⟨n, e⟩ | ⟨n, e⟩ | e | ⟨n, e⟩ | ⟨a, b, c, d, e⟩ | ⟨a, b, e⟩ | ⟨n, e⟩ <;> cases e
  · intro j Post pc al x rest aw kc ks idx len a1 a2 a3 wi hj ht h0 hk x32 bF bL bc bs hG
    refine ⟨fun h => c8 j Post pc al x rest aw kc ks idx len a1 a2 a3 wi h ht h0 hk x32 bF bL bc bs (fun n n1 n2 => (hG n n1 n2).1 h), fun h => ?_⟩
    subst h
    rcases lwBad hR ht with ⟨n, e⟩ | ⟨n, e⟩ | ⟨n, e⟩ | e | ⟨n, e⟩ | ⟨a, b, c, d, e⟩ | ⟨a, b, e⟩ | ⟨n, e⟩ <;> cases e
  · intro j Post as aw hj hmj hen hG
    rcases lw_ge hj with h | h
    · exact c9 j Post as aw h hmj hen (hG.1 h)
    · subst h
      rw [hm] at hmj
      cases hmj
end LWI
