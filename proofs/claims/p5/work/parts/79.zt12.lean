/-! The town that is told, on both sides (by hand). -/
def ti2 (n : Nat) : Nat := 97 + 6 * n
/-- kinds of cells -/
def KN (aw : rvH) : Prop := (∀ k, (k = 35 ∨ k = 41 ∨ Zs k) → ∃ fs, aw[k]? = some (.inl (2, fs))) ∧ (∃ fs, aw[47]? = some (.inl (3, fs))) ∧ ∃ n d ov, aw[48]? = some (.inr (4, n, d, ov))
theorem KN_Fw {aw aw' : rvH} (h : Fw aw aw') (hk : KN aw) : KN aw' := by
  obtain ⟨h1, ⟨fs, h2⟩, n, d, ov, h3⟩ := hk
  have ob : ∀ {k ci : Nat} {fs : List rvV}, aw[k]? = some (.inl (ci, fs)) → ∃ fs', aw'[k]? = some (.inl (ci, fs')) := by
    intro k ci fs e
    obtain ⟨c', e', sh⟩ := h.2.1 k _ e
    rcases c' with ⟨ci', fs'⟩ | ⟨q, n', d', ov'⟩
    · obtain ⟨rfl, -⟩ := sh
      exact ⟨fs', e'⟩
    · exact absurd sh id
  refine ⟨fun k hk => ?_, ob h2, ?_⟩
  · obtain ⟨fs, e⟩ := h1 k hk
    exact ob e
  · obtain ⟨c', e', sh⟩ := h.2.1 48 _ h3
    rcases c' with ⟨ci', fs'⟩ | ⟨q, n', d', ov'⟩
    · exact absurd sh id
    · obtain ⟨rfl, rfl⟩ := sh
      exact ⟨_, _, _, e'⟩
/-- a town tells what f tells -/
def TC (aw : rvH) (t : Nat) (f : Nat → Int) : Prop := (∃ fs, aw[t]? = some (.inl (10, fs))) ∧ ∃ c m h, hV aw t 0 (rf c) ∧ hV aw t 2 (rf m) ∧ hV aw t 3 (rf h) ∧ (∀ i, i < 4 → ghI aw c i = f i) ∧ (∀ i, i < 10 → ghI aw m i = f (24 + i)) ∧ ∀ i, i < 30 → ghI aw h i = f (55 + i)
/-- what holds at the loop's head of the towns -/
def HT (aw : rvH) : Prop := KN aw ∧ ∃ t0, HF t0 aw ∧ TC aw t0 (ghI aw 111) ∧ ∀ n, n < 2 → ∃ tn, hV aw (ti2 n) 0 (rf tn) ∧ TC aw tn (fun i => ghI aw 128 (296 * n + i))
theorem okE_t {aw : rvH} (hk : KN aw) {t j : Nat} (ht : ∃ fs, aw[t]? = some (.inl (10, fs))) : okE t j := by
  obtain ⟨fs, e⟩ := ht
  obtain ⟨h1, ⟨gs, h2⟩, n, d, ov, h3⟩ := hk
  refine ⟨fun q => ?_, fun q => ?_, fun q => ?_⟩
  · rw [q.1, h2] at e; cases e
  · rw [q, h3] at e; cases e
  · obtain ⟨gs, e2⟩ := h1 t q.1
    rw [e2] at e; cases e
theorem okE_i {n : Nat} (hn : n < 2) : okE (ti2 n) 0 := by
  refine ⟨fun q => by omega, fun q => ?_, fun q => ?_⟩
  · unfold ti2 at q; omega
  · rcases q.1 with q | q | q
    · unfold ti2 at q; omega
    · unfold ti2 at q; omega
    · have := Zs_no q
      unfold ti2 at this; omega
theorem c10_Fw {aw aw' : rvH} {t : Nat} (h : Fw aw aw') (ht : ∃ fs, aw[t]? = some (.inl (10, fs))) : ∃ fs, aw'[t]? = some (.inl (10, fs)) := by
  obtain ⟨fs, e⟩ := ht
  obtain ⟨c', e', sh⟩ := h.2.1 t _ e
  rcases c' with ⟨ci', fs'⟩ | ⟨q, n', d', ov'⟩
  · obtain ⟨rfl, -⟩ := sh
    exact ⟨fs', e'⟩
  · exact absurd sh id
/-- a town's rows stay if its references and the rows' numbers do -/
theorem TC_keep {aw aw' : rvH} {t : Nat} {f f' : Nat → Int} (hw : Fw aw aw') (hv : ∀ j v, hV aw t j v → hV aw' t j v) (hr : ∀ j x i, hV aw t j (rf x) → (j = 0 ∨ j = 2 ∨ j = 3) → ghI aw' x i = ghI aw x i) (hf : ∀ i, i < 91 → f' i = f i) (h : TC aw t f) : TC aw' t f' := by
  obtain ⟨h0, c, m, x, h1, h2, h3, h4, h5, h6⟩ := h
  refine ⟨c10_Fw hw h0, c, m, x, hv 0 _ h1, hv 2 _ h2, hv 3 _ h3, fun i hi => ?_, fun i hi => ?_, fun i hi => ?_⟩
  · rw [hr 0 c i h1 (by omega), hf i (by omega)]; exact h4 i hi
  · rw [hr 2 m i h2 (by omega), hf (24 + i) (by omega)]; exact h5 i hi
  · rw [hr 3 x i h3 (by omega), hf (55 + i) (by omega)]; exact h6 i hi
/-- a turn that keeps the towns -/
theorem HT_same {aw aw' : rvH} (h : HT aw) (hs : ∀ t0, HF t0 aw → SameT t0 aw aw') (hr : ∀ t j x i, (∃ k, (k = 35 ∨ ∃ n, n < 2 ∧ k = ti2 n) ∧ hV aw k 0 (rf t)) → hV aw t j (rf x) → (j = 0 ∨ j = 2 ∨ j = 3) → ghI aw' x i = ghI aw x i) (h1 : ∀ i, i < 91 → ghI aw' 111 i = ghI aw 111 i) (h2 : ∀ i, i < 592 → ghI aw' 128 i = ghI aw 128 i) : HT aw' := by
  obtain ⟨hk, t0, hf, ht, hi⟩ := h
  have s := hs t0 hf
  have hE : ∀ k j v, okE k j → hV aw k j v → hV aw' k j v := fun k j v e hv => s.1.1 k j v ⟨e, hv⟩
  refine ⟨KN_Fw s.2 hk, t0, HF_same hf s, TC_keep s.2 (fun j v hv => hE _ _ _ (okE_t hk ht.1) hv) (fun j x i hv hj => hr t0 j x i ⟨35, Or.inl rfl, hf.2.2.2.2.1⟩ hv hj) h1 ht, fun n hn => ?_⟩
  obtain ⟨tn, e1, e2⟩ := hi n hn
  exact ⟨tn, hE _ _ _ (okE_i hn) e1, TC_keep s.2 (fun j v hv => hE _ _ _ (okE_t hk e2.1) hv) (fun j x i hv hj => hr tn j x i ⟨ti2 n, Or.inr ⟨n, hn, rfl⟩, e1⟩ hv hj) (fun i hi => h2 _ (by omega)) e2⟩
/-- behind the class's image -/
theorem HF_image {aw aw' : rvH} {t0 n : Nat} (hn : n < 2) (h : HF t0 aw) (hc : CFp (ti2 n) 35 aw aw') (hw : Fw aw aw') : HF t0 aw' ∧ hV aw' (ti2 n) 0 (rf t0) ∧ ∀ k j v, ¬ (k = ti2 n ∧ j = 0) → hV aw k j v → hV aw' k j v := by
  obtain ⟨h1, h2, h3, h4⟩ := h
  obtain ⟨g1, g2, g3, g4, m, g5, g6, g7⟩ := h4
  have old : ∀ k j v, ¬ (k = ti2 n ∧ j = 0) → hV aw k j v → hV aw' k j v := fun k j v hne hv => cf_old hc hne hv
  have hz : ∀ {z : Nat}, Zs z → ¬ (z = ti2 n ∧ (0 : Nat) = 0) := fun hz q => by
    have := Zs_no hz
    have := q.1
    unfold ti2 at this
    omega
  have e35 : (35 : Nat) ≠ ti2 n := by unfold ti2; omega
  have e48 : (48 : Nat) ≠ ti2 n := by unfold ti2; omega
  have hcn : ∀ q ∈ hcL, ¬ (q.1 = ti2 n ∧ q.2.1 = 0) := by
    unfold hcL
    simp only [List.forall_mem_cons]
    unfold ti2
    refine ⟨fun q => ?_, fun q => ?_, fun q => ?_, fun q => ?_, fun q => ?_, fun q => ?_, fun q => ?_, fun q => ?_, fun q => ?_, fun q => ?_, fun q => ?_, fun q hq => by cases hq⟩
    all_goals
      have := q.1
      omega
  refine ⟨⟨fun q hq => old _ _ _ (hcn q hq) (h1 q hq), K5_Fw hw h2, one_Fw hw h3, fun k j v e => e.2, old _ _ _ (fun q => e35 q.1) g2, (fun e => by cases e), fun i hi => ?_, m, g5, old _ _ _ (fun q => by omega) g6, fun i hi => ?_⟩, cf_new hc g2, old⟩
  · obtain ⟨z, z1, z2⟩ := g4 i hi
    exact ⟨z, z1, old _ _ _ (fun q => e48 q.1) z2⟩
  · obtain ⟨z, z1, z2, z3⟩ := g7 i hi
    exact ⟨z, z1, old _ _ _ (fun q => e48 q.1) z2, old _ _ _ (hz z1) z3⟩
/-- behind the class's restore -/
theorem HF_restore {aw aw' : rvH} {t0 t' a : Nat} (h : HF t0 aw) (ha : hV aw a 0 (rf t')) (hr : RSp 35 47 a aw aw') (hw : Fw aw aw') : HF t' aw' ∧ ∀ k j v, ¬ (k = 35 ∧ j = 0) → ¬ (k = 47 ∧ j = 1) → hV aw k j v → hV aw' k j v := by
  obtain ⟨h1, h2, h3, h4⟩ := h
  obtain ⟨g1, g2, g3, g4, m, g5, g6, g7⟩ := h4
  obtain ⟨aw1, aw2, aw3, r1, r2, r3, r4⟩ := hr
  have old : ∀ k j v, ¬ (k = 35 ∧ j = 0) → ¬ (k = 47 ∧ j = 1) → hV aw k j v → hV aw' k j v := fun k j v hne hne2 hv => hV_Fr r4 (r3.2.1 k j v hne2 (hV_Fr r2 (cf_old r1 hne hv)))
  have hcn : ∀ q ∈ hcL, ¬ (q.1 = 35 ∧ q.2.1 = 0) ∧ ¬ (q.1 = 47 ∧ q.2.1 = 1) := by decide
  refine ⟨⟨fun q hq => old _ _ _ (hcn q hq).1 (hcn q hq).2 (h1 q hq), K5_Fw hw h2, one_Fw hw h3, fun k j v e => e.2, hV_Fr r4 (r3.2.1 35 0 _ (fun q => by omega) (hV_Fr r2 (cf_new r1 ha))), (fun e => by cases e), fun i hi => ?_, 0, by omega, hV_Fr r4 r3.2.2, fun i hi => by omega⟩, old⟩
  obtain ⟨z, z1, z2⟩ := g4 i hi
  exact ⟨z, z1, old _ _ _ (fun q => by omega) (fun q => by omega) z2⟩
