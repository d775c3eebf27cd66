/-! Both sides read a text alike (by hand), 14. -/
set_option maxRecDepth 100000
set_option linter.unusedSimpArgs false
/-- what gatherSets keeps -/
def pd_gK (H H' : hH) : Prop := H'.2 = H.2 ∧ ∀ a b, a < 55 → H'.1 a b = H.1 a b
theorem pd_gK_rfl (H : hH) : pd_gK H H := ⟨rfl, fun _ _ _ => rfl⟩
theorem pd_gK_tr {H H' H'' : hH} (h : pd_gK H H') (h' : pd_gK H' H'') : pd_gK H H'' := ⟨h'.1.trans h.1, fun a b n => (h'.2 a b n).trans (h.2 a b n)⟩
theorem pd_gK_u (H : hH) {a : Nat} (ha : 55 ≤ a) (b : Nat) (v : Int) : pd_gK H (upI H a b v) := ⟨rfl, fun a' b' n => pd_upI_ne (by omega)⟩
theorem pd_gK_row (H : hH) {a : Nat} (ha : 55 ≤ a) (v : Int) (n : Nat) : pd_gK H (upRow H a v n) := ⟨rfl, fun a' b' h => by simp only [upRow]; rw [if_neg (by omega)]⟩
theorem pd_gK_gs1 (b c : Int) : ∀ (k : Nat) (i : Int) (H : hH), pd_gK H (f_X2_gs1 b c k i H).2
  | 0, i, H => pd_gK_rfl H
  | k + 1, i, H => by
    unfold f_X2_gs1
    split
    · split
      · exact pd_gK_gs1 b c k _ H
      · exact pd_gK_tr (pd_gK_u H (by omega) _ _) (pd_gK_gs1 b c k _ _)
    · exact pd_gK_rfl H
theorem pd_gK_gs2 (b c : Int) : ∀ (k : Nat) (i : Int) (H : hH), pd_gK H (f_X2_gs2 b c k i H).2
  | 0, i, H => pd_gK_rfl H
  | k + 1, i, H => by
    unfold f_X2_gs2
    split
    · exact pd_gK_tr (pd_gK_u H (by omega) _ _) (pd_gK_gs2 b c k _ _)
    · exact pd_gK_rfl H
theorem pd_gK_ge1 (s : Int) : ∀ (k : Nat) (i : Int) (H : hH), pd_gK H (f_X2_ge1 s k i H).2
  | 0, i, H => pd_gK_rfl H
  | k + 1, i, H => by
    unfold f_X2_ge1
    split
    · split
      · exact pd_gK_ge1 s k _ H
      · exact pd_gK_tr (pd_gK_u H (by omega) _ _) (pd_gK_ge1 s k _ _)
    · exact pd_gK_rfl H
theorem pd_gK_ge2 : ∀ (k : Nat) (s : Int) (H : hH), pd_gK H (f_X2_ge2 k s H).2
  | 0, s, H => pd_gK_rfl H
  | k + 1, s, H => by
    unfold f_X2_ge2
    split
    · exact pd_gK_tr (pd_gK_ge1 s _ 0 H) (pd_gK_ge2 k _ _)
    · exact pd_gK_rfl H
theorem pd_gK_gd1 (m : Int) : ∀ (k : Nat) (s : Int) (H : hH), pd_gK H (f_X2_gd1 m k s H).2
  | 0, s, H => pd_gK_rfl H
  | k + 1, s, H => by
    unfold f_X2_gd1
    split
    · exact pd_gK_tr (pd_gK_u H (by omega) _ _) (pd_gK_gd1 m k _ _)
    · exact pd_gK_rfl H
theorem pd_gK_gd2 : ∀ (k : Nat) (m : Int) (H : hH), pd_gK H (f_X2_gd2 k m H).2
  | 0, m, H => pd_gK_rfl H
  | k + 1, m, H => by
    unfold f_X2_gd2
    split
    · exact pd_gK_tr (pd_gK_gd1 m _ 0 H) (pd_gK_gd2 k _ _)
    · exact pd_gK_rfl H
theorem pd_gK_gs (H : hH) : pd_gK H (f_X2_gatherSets H) := by
  unfold f_X2_gatherSets f_X2_gatherDues f_X2_gatherSetsOfEach
  refine pd_gK_tr (pd_gK_tr (pd_gK_tr (pd_gK_tr (pd_gK_tr ?_ (pd_gK_gs1 _ _ _ 0 _)) (pd_gK_gs2 _ _ _ 0 _)) (pd_gK_row _ (by omega) _ _)) (pd_gK_ge2 _ 0 _)) (pd_gK_gd2 _ 0 _)
  exact pd_gK_tr (pd_gK_tr (pd_gK_tr (pd_gK_tr (pd_gK_tr (pd_gK_row _ (by omega) _ _) (pd_gK_u _ (by omega) _ _)) (pd_gK_u _ (by omega) _ _)) (pd_gK_u _ (by omega) _ _)) (pd_gK_u _ (by omega) _ _)) (pd_gK_u _ (by omega) _ _)
theorem pd_d19_dc : ∀ (k : Nat) (i : Int) (K : hH), (f_X12_dc k i K).2.1 29 19 = K.1 29 19
  | 0, i, K => rfl
  | k + 1, i, K => by
    unfold f_X12_dc
    split
    · split
      · rw [pd_d19_dc, pd_upI_ne (by omega)]
      · rw [pd_d19_dc, pd_upI_ne (by omega)]
    · rfl
theorem pd_d19_dn : ∀ (k : Nat) (i : Int) (K : hH), (f_X12_dn k i K).2.1 29 19 = K.1 29 19
  | 0, i, K => rfl
  | k + 1, i, K => by
    unfold f_X12_dn
    split
    · rw [pd_d19_dn]; rfl
    · rfl
theorem pd_d19_dl : ∀ (k : Nat) (i : Int) (K : hH), (f_X12_dl k i K).2.1 29 19 = K.1 29 19
  | 0, i, K => rfl
  | k + 1, i, K => by
    unfold f_X12_dl
    split
    · rw [pd_d19_dl, pd_upI_ne (by omega), pd_upI_ne (by omega)]
    · rfl
theorem pd_d19_tail (K : hH) : (f_X12_dtail K).1 = K.1 29 19 := by
  unfold f_X12_dtail
  dsimp only
  rw [pd_d19_dl, pd_upI_ne (by omega), pd_d19_dn, pd_d19_dc]
/-- both read all lines alike -/
theorem pd_pMain {B : Nat → Int} {lim N T : Nat} (hN : N ≤ 940) (hb : pd_hB8 B) : ∀ (k c i : Nat) (H K : hH), pd_LC B lim N T c H → pd_LR B lim N c K → pd_TS 4 H K → 2 * i ≤ c → K.1 29 19 = (i : Int) → T ≤ c + k →
    ∃ r r', f_X1_rmain k (i : Int) H = some r ∧ f_X12_dmain k K = some r' ∧ r'.1 = (if r.2.1 4 13 = 0 then r.1 else iSub (-1) (r.2.1 4 14)) ∧ (r.2.1 4 13 = 0 → r.2.2.2 = H.2.2)
  | 0, c, i, H, K, h, _, _, _, _, hk => by have := h.1; omega
  | k + 1, c, i, H, K, h, h', ht, hi, h19, hk => by
    have hc := h.2.2.2.2.2.2.1
    have hr := h'.2.2.2.2.1
    have hok := pd_tTok_ok (B := B) (lim := lim) (N := N) c
    have hT := h.2.1
    have hcT := h.1
    unfold f_X1_rmain f_X12_dmain
    rw [if_pos (show (i : Int) < 940 by omega), hc.1]
    by_cases h1 : (pd_tTok B lim N c).1 = 1
    · rw [if_pos (show (((pd_tTok B lim N c).1 : Nat) : Int) = 1 by omega), if_pos ((pd_tR_kd hr hok).2.1.mpr h1)]
      obtain ⟨g1, g2⟩ := pd_gK_gs H
      refine ⟨_, _, rfl, rfl, ?_, fun _ => by rw [g1]⟩
      dsimp only
      rw [g2 4 13 (by omega), h.2.2.2.2.2.2.2, if_pos rfl, pd_d19_tail, h19]
    · rw [if_neg (show ¬ (((pd_tTok B lim N c).1 : Nat) : Int) = 1 by omega), if_neg (fun q => h1 ((pd_tR_kd hr hok).2.1.mp q))]
      rcases pd_pLine hN hb h h' ht with ⟨a1, ⟨a2, a3⟩ | ⟨a2, a3, a4⟩⟩ | ⟨a1, a2, a3, c', d1, d2, d3, d4, d5, d6⟩
      · rw [if_pos a1, if_pos a2]
        refine ⟨_, _, rfl, rfl, ?_, fun q => absurd q a3.2.2⟩
        dsimp only
        rw [if_neg a3.2.2, a3.2.1]
      · rw [if_pos a1, if_neg (show ¬ (f_X12_line K).1 = 0 by omega), if_pos a3]
        refine ⟨_, _, rfl, rfl, ?_, fun q => absurd q a4.2.2⟩
        dsimp only
        rw [if_neg a4.2.2, a4.2.1]
      · rw [if_neg (show ¬ (f_X1_readLine H).1 = 0 by omega), if_neg (show ¬ (f_X12_line K).1 = 0 by omega), if_neg (show ¬ (f_X12_sign 59 (f_X12_line K).2).1 = 0 by omega)]
        rw [pd_iad1 (by omega), d6, h19, pd_iad1 (by omega)]
        have hl : pd_LR B lim N c' (upI (f_X12_sign 59 (f_X12_line K).2).2 29 19 ((i + 1 : Nat) : Int)) := by
          refine pd_LR_keep d3 (fun b => ?_) (fun b => pd_upI_ne (by omega)) (fun b => rfl) (fun b => rfl)
          by_cases e : b = 19
          · right; omega
          · left; exact pd_upI_ne (by omega)
        obtain ⟨r, r', e1, e2, e3, e4⟩ := pd_pMain hN hb k c' (i + 1) _ _ d2 hl (pd_TS_keep d4 (fun _ _ _ => rfl) (fun _ => rfl) (fun b _ => pd_upI_ne (by omega)) (fun _ => rfl)) (by omega) (pd_upI_at _ _ _ _) (by omega)
        exact ⟨r, r', e1, e2, e3, fun q => by rw [e4 q, d5]⟩
theorem pd_dz_ok : ∀ (k : Nat) (i : Nat) (K : hH), i + k = 91 → (∀ b, (f_X12_dz k (i : Int) K).2.1 32 b = if i ≤ b ∧ b < 91 then 0 else K.1 32 b) ∧ (∀ a b, a ≠ 32 → (f_X12_dz k (i : Int) K).2.1 a b = K.1 a b) ∧ (f_X12_dz k (i : Int) K).2.2 = K.2
  | 0, i, K, hk => ⟨fun b => by rw [if_neg (by omega)]; rfl, fun _ _ _ => rfl, rfl⟩
  | k + 1, i, K, hk => by
    unfold f_X12_dz
    rw [if_pos (by omega), pd_iad1 (by omega), Int.toNat_natCast]
    obtain ⟨a1, a2, a3⟩ := pd_dz_ok k (i + 1) (upI K 32 i 0) (by omega)
    refine ⟨fun b => ?_, fun a b n => ?_, a3⟩
    · rw [a1]
      by_cases e : b = i
      · rw [if_neg (by omega), if_pos (by omega), e, pd_upI_at]
      · by_cases e2 : i + 1 ≤ b ∧ b < 91
        · rw [if_pos e2, if_pos (by omega)]
        · rw [if_neg e2, if_neg (by omega), pd_upI_ne (by omega)]
    · rw [a2 a b n, pd_upI_ne (by omega)]
theorem pd_upR_1 (H : hH) (p j : Nat) (v : Option Nat) : (upR H p j v).1 = H.1 := rfl
theorem pd_upR_21 (H : hH) (p j : Nat) (v : Option Nat) : (upR H p j v).2.1 = H.2.1 := rfl
theorem pd_upN_1 (H : hH) : (upN H).1 = H.1 := rfl
theorem pd_upN_21 (H : hH) : (upN H).2.1 = H.2.1 := rfl
theorem pd_upRow_2 (H : hH) (p : Nat) (v : Int) (n : Nat) : (upRow H p v n).2 = H.2 := rfl
theorem pd_upRow_ne {H : hH} {p a b n : Nat} {v : Int} (h : a ≠ p) : (upRow H p v n).1 a b = H.1 a b := by simp only [upRow]; rw [if_neg (fun q => h q.1)]
theorem pd_upRow_at {H : hH} {p b n : Nat} {v : Int} (h : b < n) : (upRow H p v n).1 p b = v := by simp only [upRow]; rw [if_pos ⟨trivial, h⟩]
theorem pd_pre_ok (H : hH) : (∀ a b, a < 60 → a ≠ 52 → a ≠ 53 → a ≠ 54 → (f_X1_pre H).1 a b = H.1 a b) ∧ (∀ a b, 60 ≤ a → (f_X1_pre H).1 a b = H.1 a b) ∧ (∀ b, b < 3 → (f_X1_pre H).1 54 b = 0) ∧ (f_X1_pre H).2.1 = H.2.1 := by
  have e1 : (upR (upR (f_X10_init (upN H)) 13 1 (some 60)) 13 2 (some 52)).1 = H.1 := by
    unfold f_X10_init
    simp only [pd_upR_1, pd_upN_1]
  have e2 : (upR (upR (f_X10_init (upN H)) 13 1 (some 60)) 13 2 (some 52)).2.1 = H.2.1 := by
    unfold f_X10_init
    simp only [pd_upR_21, pd_upN_21]
  unfold f_X1_pre
  generalize upR (upR (f_X10_init (upN H)) 13 1 (some 60)) 13 2 (some 52) = G at e1 e2 ⊢
  unfold f_X2_beginIn
  refine ⟨fun a b n1 n2 n3 n4 => ?_, fun a b n1 => ?_, fun b hb => ?_, ?_⟩
  · rw [pd_upRow_ne (by omega), pd_upRow_ne (by omega), pd_upI_ne (by omega), pd_upI_ne (by omega), pd_upI_ne (by omega), pd_upI_ne (by omega), pd_upR_1, e1]
  · rw [pd_upRow_ne (by omega), pd_upRow_ne (by omega), pd_upI_ne (by omega), pd_upI_ne (by omega), pd_upI_ne (by omega), pd_upI_ne (by omega), pd_upR_1, e1]
  · exact pd_upRow_at hb
  · rw [pd_upRow_2, pd_upRow_2, pd_upI_L, pd_upI_L, pd_upI_L, pd_upI_L, pd_upR_21, e2]
/-- both district() answer alike -/
theorem pd_pDistrict {B : Nat → Int} {N : Nat} (hN : N ≤ 940) (hb : pd_hB8 B) {H K : hH} (hB : ∀ i, H.1 5 i = B i) (h2 : H.1 4 2 = (N : Int)) (hw5 : pd_hW5 H) (hz : ∀ a b, 60 ≤ a → H.1 a b = 0) (hB' : ∀ i, K.1 30 i = B i) (h2' : K.1 29 2 = (N : Int)) (hw8 : pd_hW8 K) :
    ∃ r r', f_X1_read 941 H = some r ∧ f_X12_district 941 K = some r' ∧ r'.1 = (if r.2.1 4 13 = 0 then r.1 else iSub (-1) (r.2.1 4 14)) ∧ (r.2.1 4 13 = 0 → r.2.2.2 = (f_X1_pre H).2.2) := by
  obtain ⟨p1, p2, p3, p4⟩ := pd_pre_ok H
  obtain ⟨T, b1, b2, b3, b4⟩ := pd_xBegin (B := B) (lim := 900) hN (H := f_X1_pre H) (fun i => by rw [p1 5 i (by omega) (by omega) (by omega) (by omega)]; exact hB i) (by rw [p1 4 2 (by omega) (by omega) (by omega) (by omega)]; exact h2) (fun i hi => by rw [p4]; exact hw5 i hi)
  obtain ⟨z1, z2, z3⟩ := pd_dz_ok 91 0 (upI (upI (f_X12_taken 900 (upI K 29 0 0)) 29 15 0) 29 19 0) (by omega)
  have z1 : ∀ b, (f_X12_dz 91 0 (upI (upI (f_X12_taken 900 (upI K 29 0 0)) 29 15 0) 29 19 0)).2.1 32 b = _ := z1
  have z2 : ∀ a b, a ≠ 32 → (f_X12_dz 91 0 (upI (upI (f_X12_taken 900 (upI K 29 0 0)) 29 15 0) 29 19 0)).2.1 a b = _ := z2
  have z3 : (f_X12_dz 91 0 (upI (upI (f_X12_taken 900 (upI K 29 0 0)) 29 15 0) 29 19 0)).2.2 = _ := z3
  unfold f_X1_read f_X12_district
  generalize (f_X12_dz 91 0 (upI (upI (f_X12_taken 900 (upI K 29 0 0)) 29 15 0) 29 19 0)).2 = Z at z1 z2 z3 ⊢
  have t4 : Z.1 29 4 = ((0 : Nat) : Int) := by rw [z2 29 4 (by omega)]; simp [upI, f_X12_taken]
  have t3 : Z.1 29 3 = (N : Int) := by rw [z2 29 3 (by omega)]; simp [upI, f_X12_taken, h2']
  have t5 : Z.1 29 5 = ((900 : Nat) : Int) := by rw [z2 29 5 (by omega)]; simp [upI, f_X12_taken]
  have t19 : Z.1 29 19 = ((0 : Nat) : Int) := by rw [z2 29 19 (by omega)]; simp [upI]
  have tB : ∀ i, Z.1 30 i = B i := fun i => by rw [z2 30 i (by omega)]; simp [upI, f_X12_taken, hB']
  have t8 : pd_hW8 Z := fun i hi => by rw [z3]; exact hw8 i hi
  obtain ⟨n1, n2, n3⟩ := pd_mNext (lim := 900) hN hb tB t3 t5 t4 (by omega)
  have hLR : pd_LR B 900 N 0 (f_X12_next Z) := ⟨n1, by rw [n3.1 29 3 (by omega)]; exact t3, by rw [n3.1 29 5 (by omega)]; exact t5, fun i => by rw [n3.1 30 i (by omega)]; exact tB i, n2, fun i hi => by rw [n3.2.1 35 i (by omega)]; exact t8 i hi⟩
  have hH0 : ∀ a b, 60 ≤ a → (f_X9_begin 900 (f_X1_pre H)).1 a b = 0 := fun a b n => by
    have := b2 a b (by omega)
    have this : (f_X9_begin 900 (f_X1_pre H)).1 a b = _ := this
    rw [this, p2 a b n]; exact hz a b n
  have hH54 : ∀ b, b < 3 → (f_X9_begin 900 (f_X1_pre H)).1 54 b = 0 := fun b n => by
    have := b2 54 b (by omega)
    have this : (f_X9_begin 900 (f_X1_pre H)).1 54 b = _ := this
    rw [this]; exact p3 b n
  have hK0 : ∀ b, b < 91 → (f_X12_next Z).1 32 b = 0 := fun b n => by rw [n3.1 32 b (by omega), z1, if_pos (by omega)]
  have hTS : pd_TS 4 (f_X9_begin 900 (f_X1_pre H)) (f_X12_next Z) := by
    refine ⟨fun s hs => ⟨0, ?_, ?_, ?_⟩, fun s i hs hi => ?_, ⟨fun _ => 0, fun _ => 0, fun t ht => ⟨?_, by show 0 < 1024; omega⟩, fun p hp => ⟨?_, by show 0 < 1024; omega⟩, fun _ _ _ _ => by simp⟩, ⟨fun _ => 0, fun _ => 0, fun t ht => ⟨?_, by show 0 < 1024; omega⟩, fun p hp => ⟨?_, by show 0 < 1024; omega⟩, fun _ _ _ _ => by simp⟩, fun p m hp hm => ?_, fun p hp => ?_⟩
    · rw [if_neg (show ¬ s = 4 by omega)]; omega
    · rw [if_neg (show ¬ s = 4 by omega)]; exact hH0 61 s (by omega)
    · exact hK0 s (by omega)
    · rw [hH0 61 s (by omega)] at hi; omega
    · exact hH0 65 t (by omega)
    · exact hK0 (35 + p) (by omega)
    · exact hH54 t ht
    · exact hK0 (45 + p) (by omega)
    · rw [hH0 64 _ (by omega), hK0 _ (by omega)]; exact ⟨rfl, by omega⟩
    · rw [hH0 63 _ (by omega), hK0 _ (by omega)]
  obtain ⟨r, r', e1, e2, e3, e4⟩ := pd_pMain hN hb 941 0 0 _ _ b1 hLR hTS (by omega) (by rw [n3.1 29 19 (by omega)]; exact t19) (by have := b1.2.1; omega)
  exact ⟨r, r', e1, e2, e3, fun q => (e4 q).trans b4⟩
