/-! Both sides read a sentence alike: what a step leaves (by hand). -/
set_option linter.unusedSimpArgs false
section SI
variable {B : Nat → Int} {N T c n d : Nat} {w : Int} {S : List Int} {H K K0 : hH}
/-- numbers alone change, outside what the reading of tokens uses -/
theorem sQ_up {K' : hH} {d' n' : Nat} {w' : Int} {S' : List Int} (h : sQ B N c d n w S K0 K) (k1 : ∀ b, (b < 46 ∨ 50 < b) → K'.1 29 b = K.1 29 b) (k2 : ∀ b, K'.1 30 b = K.1 30 b ∧ K'.1 31 b = K.1 31 b) (k3 : K'.2.1 = K.2.1) (e1 : K'.1 29 48 = ((S'.length : Nat) : Int)) (e2 : sR K' S') (e3 : K'.1 29 49 = (d' : Int)) (e4 : K'.1 29 47 = (n' : Int)) (e5 : K'.1 29 50 = w') : sQ B N c d' n' w' S' K0 K' := by
  obtain ⟨h1, h2, h3, h4, h5, h6, h7, h8⟩ := h
  refine ⟨pd_LR_keep h1 (fun b => ?_) (fun b => (k2 b).1) (fun b => by rw [k3]) (fun b => by rw [k3]), e1, e2, e3, e4, e5, fun b hb => by rw [(k2 b).2]; exact h7 b hb, fun b => by rw [k3]; exact h8 b⟩
  by_cases q : b < 46 ∨ 50 < b
  · left; exact k1 b q
  · right; omega
theorem sQ_next (hN : N ≤ 940) (hb : pd_hB8 B) (h : sQ B N c d n w S K0 K) : sQ B N (c + 1) d n w S K0 (f_X12_next K) := by
  obtain ⟨h1, h2, h3, h4, h5, h6, h7, h8⟩ := h
  obtain ⟨m1, m2, m3, m4⟩ := pd_LR_next hN hb h1
  refine ⟨m1, by rw [m2 29 48 (by omega)]; exact h2, sR_keep h3 (fun i _ => m2 46 i (by omega)), by rw [m2 29 49 (by omega)]; exact h4, by rw [m2 29 47 (by omega)]; exact h5, by rw [m2 29 50 (by omega)]; exact h6, fun b hb => by rw [m2 31 b (by omega)]; exact h7 b hb, fun b => by rw [m3 34 b (by omega)]; exact h8 b⟩
theorem sn_add1 {n : Nat} (h : n < 2147483647) : iAdd (n : Int) 1 = ((n + 1 : Nat) : Int) := iAdd_1 h
theorem sQ_inc (hn : n < 1000) (h : sQ B N c d n w S K0 K) : sQ B N c d (n + 1) w S K0 (upI K 29 47 (iAdd (K.1 29 47) 1)) := by
  refine sQ_up h (fun b hb => ?_) (fun b => ⟨rfl, rfl⟩) rfl (by simp [upI, h.2.1]) (sR_keep h.2.2.1 (fun i _ => by simp [upI])) (by simp [upI, h.2.2.2.1]) ?_ (by simp [upI, h.2.2.2.2.2.1])
  · simp only [upI]; rw [if_neg (by omega)]
  · rw [h.2.2.2.2.1, sn_add1 (by omega)]; simp [upI]
theorem sQ_whole (v : Int) (h : sQ B N c d n w S K0 K) : sQ B N c d n v S K0 (upI K 29 50 v) := by
  refine sQ_up h (fun b hb => ?_) (fun b => ⟨rfl, rfl⟩) rfl (by simp [upI, h.2.1]) (sR_keep h.2.2.1 (fun i _ => by simp [upI])) (by simp [upI, h.2.2.2.1]) (by simp [upI, h.2.2.2.2.1]) (by simp [upI])
  simp only [upI]; rw [if_neg (by omega)]
theorem sQ_push (hl : S.length < 1000) (x : Int) (h : sQ B N c d n w S K0 K) : sQ B N c d n w (x :: S) K0 (upI (upI K 46 (K.1 29 48).toNat x) 29 48 (iAdd (K.1 29 48) 1)) := by
  refine sQ_up h (fun b hb => ?_) (fun b => ⟨rfl, rfl⟩) rfl ?_ ⟨?_, sR_keep h.2.2.1 (fun i hi => ?_)⟩ (by simp [upI, h.2.2.2.1]) (by simp [upI, h.2.2.2.2.1]) (by simp [upI, h.2.2.2.2.2.1])
  · simp only [upI]; rw [if_neg (by omega), if_neg (by omega)]
  · rw [h.2.1, sn_add1 (by omega), List.length_cons]; simp [upI]
  · rw [h.2.1, Int.toNat_natCast]; simp [upI]
  · rw [h.2.1, Int.toNat_natCast]; simp only [upI]; rw [if_neg (by omega), if_neg (by omega)]
theorem sQ_deeper (hd : d < 1000) (h : sQ B N c d n w S K0 K) : sQ B N c (d + 1) n w S K0 (upI K 29 49 (iAdd (K.1 29 49) 1)) := by
  refine sQ_up h (fun b hb => ?_) (fun b => ⟨rfl, rfl⟩) rfl (by simp [upI, h.2.1]) (sR_keep h.2.2.1 (fun i _ => by simp [upI])) ?_ (by simp [upI, h.2.2.2.2.1]) (by simp [upI, h.2.2.2.2.2.1])
  · simp only [upI]; rw [if_neg (by omega)]
  · rw [h.2.2.2.1, sn_add1 (by omega)]; simp [upI]
/-- the number looked up is put down -/
theorem sQ_18 (v : Int) (h : sQ B N c d n w S K0 K) : sQ B N c d n w S K0 (upI K 29 18 v) := by
  obtain ⟨h1, h2, h3, h4, h5, h6, h7, h8⟩ := h
  exact ⟨pd_LR_18 h1 v, by simp [upI, h2], sR_keep h3 (fun i _ => by simp [upI]), by simp [upI, h4], by simp [upI, h5], by simp [upI, h6], h7, h8⟩
theorem sQ_N (h : sQ B N c d n w S K0 K) (hn : sN H K0) : sN H K := sN_keep hn (fun _ => rfl) (fun _ => rfl) h.2.2.2.2.2.2.1 h.2.2.2.2.2.2.2
/-- the class's part -/
def sC (B : Nat → Int) (N T c n : Nat) (K0 H : hH) : Prop := pd_LC B 200 N T c H ∧ sN H K0 ∧ H.1 14 3 = (n : Int)
theorem sC_adv (h : sC B N T c n K0 H) (hk : 2 ≤ (pd_tTok B 200 N c).1) : sC B N T (c + 1) n K0 (f_X9_advance H) := by
  obtain ⟨l1, l2, l3, l4⟩ := pd_LC_adv h.1 hk
  exact ⟨l1, sN_keep h.2.1 (fun b => l2 53 b (by omega)) (fun b => l3 54 b (by omega)) (fun _ _ => rfl) (fun _ => rfl), by rw [l2 14 3 (by omega)]; exact h.2.2⟩
theorem sC_inc (hn : n < 1000) (h : sC B N T c n K0 H) : sC B N T c (n + 1) K0 (upI H 14 3 (iAdd (H.1 14 3) 1)) := by
  refine ⟨pd_LC_keep h.1 (fun a b _ _ => by simp only [upI]; rw [if_neg (by omega)]) (fun a b _ _ => rfl), sN_keep h.2.1 (fun b => by simp [upI]) (fun b => rfl) (fun _ _ => rfl) (fun _ => rfl), ?_⟩
  rw [h.2.2, sn_add1 (by omega)]; simp [upI]
theorem as_ne (a1 a2 a3 : Int) (H : hH) {a : Nat} (b : Nat) (ha : a < 60) : (f_X6_addStep a1 a2 a3 H).1 a b = H.1 a b := by
  unfold f_X6_addStep
  split
  · simp only [upI]; rw [if_neg (by omega), if_neg (by omega), if_neg (by omega), if_neg (by omega)]
  · rfl
theorem as_2 (a1 a2 a3 : Int) (H : hH) : (f_X6_addStep a1 a2 a3 H).2 = H.2 := by
  unfold f_X6_addStep
  split <;> rfl
theorem sC_step (a1 a2 a3 : Int) (h : sC B N T c n K0 H) : sC B N T c n K0 (f_X6_addStep a1 a2 a3 H) := by
  refine ⟨pd_LC_keep h.1 (fun a b _ q => as_ne a1 a2 a3 H b (by omega)) (fun a b _ _ => by rw [as_2]), sN_keep h.2.1 (fun b => as_ne a1 a2 a3 H b (by omega)) (fun b => by rw [as_2]) (fun _ _ => rfl) (fun _ => rfl), ?_⟩
  rw [as_ne a1 a2 a3 H 3 (by omega)]; exact h.2.2
theorem FL_step (a1 a2 a3 : Int) {G K : hH} (h : pd_FL G K) : pd_FL (f_X6_addStep a1 a2 a3 G) K := by
  unfold pd_FL at h ⊢
  rw [as_ne a1 a2 a3 G 13 (by omega), as_ne a1 a2 a3 G 14 (by omega)]
  exact h
/-- where both stand -/
def sI (B : Nat → Int) (N T c n d : Nat) (w : Int) (S : List Int) (K0 H K : hH) : Prop := sC B N T c n K0 H ∧ sQ B N c d n w S K0 K ∧ n ≤ 20 ∧ c ≤ pd_tPos B 200 N c ∧ S.length ≤ c ∧ d ≤ 9
theorem sI_lt (h : sI B N T c n d w S K0 H K) (hk : 2 ≤ (pd_tTok B 200 N c).1) (hN : N ≤ 940) : c < 200 ∧ c + 1 ≤ pd_tPos B 200 N (c + 1) := by
  have h4 := h.2.2.2.1
  have hp := (pd_tNx_ok (B := B) (lim := 200) (N := N) (pd_tPos_le c)).2.2.2 hk
  have hp : pd_tPos B 200 N c < pd_tPos B 200 N (c + 1) := hp
  have hl := pd_tPos_le (B := B) (lim := 200) (N := N) (c + 1)
  rcases sn_pos c hk with e | e <;> omega
theorem sI_c (h : sI B N T c n d w S K0 H K) : c ≤ 940 := by
  have h1 := h.1.1.1
  have h2 := h.1.1.2.1
  omega
/-- the reference ends with the fault that the class has told -/
def sBad (G K : hH) : Prop := ∃ j r, (∀ k, f_X12_smain (k + j) K = some r) ∧ r.1 = iSub (-1) (r.2.1 29 16) ∧ pd_FL G r.2
/-- the reference comes from K to K' -/
def sGo (K K' : hH) : Prop := (∃ j, ∀ k, f_X12_smain (k + j) K = f_X12_smain k K') ∧ K'.1 29 15 = K.1 29 15
theorem sGo_rfl (K : hH) : sGo K K := ⟨⟨0, fun _ => rfl⟩, rfl⟩
theorem sGo_tr {K K' K'' : hH} (h : sGo K K') (h' : sGo K' K'') : sGo K K'' := by
  obtain ⟨⟨j, e⟩, f⟩ := h
  obtain ⟨⟨j', e'⟩, f'⟩ := h'
  exact ⟨⟨j' + j, fun k => by rw [← Nat.add_assoc, e, e']⟩, f'.trans f⟩
theorem sGo_bad {G K K' : hH} (h : sGo K K') (h' : sBad G K') : sBad G K := by
  obtain ⟨⟨j, e⟩, -⟩ := h
  obtain ⟨j', r, e1, e2, e3⟩ := h'
  exact ⟨j' + j, r, fun k => by rw [← Nat.add_assoc, e, e1], e2, e3⟩
theorem sBad_step {G K : hH} (a1 a2 a3 : Int) (h : sBad G K) : sBad (f_X6_addStep a1 a2 a3 G) K := by
  obtain ⟨j, r, e1, e2, e3⟩ := h
  exact ⟨j, r, e1, e2, FL_step a1 a2 a3 e3⟩
theorem sOp_bad {G K K' : hH} (hw : K.1 29 50 = 0) (he : f_X12_operand K = (0, K')) (hf : pd_FL G K') : sBad G K := by
  refine ⟨1, (iSub (-1) (K'.1 29 16), K'), fun k => ?_, by dsimp only, hf⟩
  show f_X12_smain (k + 1) K = _
  unfold f_X12_smain
  rw [if_pos hw, if_pos hw, he, if_pos rfl]
theorem sOp_go {K K' : hH} (hw : K.1 29 50 = 0) (he : f_X12_operand K = (1, K')) : sGo K K' := by
  refine ⟨⟨1, fun k => ?_⟩, by have := (zf_f_X12_operand K).resolve_left (by rw [he]; exact fun q : (1 : Int) = 0 => absurd q (by decide)); rw [he] at this; exact this⟩
  show f_X12_smain (k + 1) K = _
  conv => lhs; unfold f_X12_smain
  rw [if_pos hw, if_pos hw, he, if_neg (show ¬ (1 : Int) = 0 by omega)]
theorem sBe_bad {G K K' : hH} (hw : K.1 29 50 = 1) (hk : ¬ K.1 29 11 = 0) (he : f_X12_behind K = (0, K')) (hf : pd_FL G K') : sBad G K := by
  refine ⟨1, (iSub (-1) (K'.1 29 16), K'), fun k => ?_, by dsimp only, hf⟩
  show f_X12_smain (k + 1) K = _
  unfold f_X12_smain
  rw [if_neg (by rw [hw]; omega), if_neg hk, if_neg (by rw [hw]; omega), he, if_pos rfl]
theorem sBe_go {K K' : hH} (hw : K.1 29 50 = 1) (hk : ¬ K.1 29 11 = 0) (he : f_X12_behind K = (1, K')) : sGo K K' := by
  refine ⟨⟨1, fun k => ?_⟩, by have := (zf_f_X12_behind K).resolve_left (by rw [he]; exact fun q : (1 : Int) = 0 => absurd q (by decide)); rw [he] at this; exact this⟩
  show f_X12_smain (k + 1) K = _
  conv => lhs; unfold f_X12_smain
  rw [if_neg (by rw [hw]; omega), if_neg hk, if_neg (by rw [hw]; omega), he, if_neg (show ¬ (1 : Int) = 0 by omega)]
end SI
