/-! What both have read, behind district (by hand). -/
set_option maxRecDepth 100000
set_option linter.unusedSimpArgs false
def pd_gL (H H' : hH) : Prop := H'.2 = H.2 ∧ ∀ a b, (a ≠ 55 ∧ a ≠ 56 ∧ a ≠ 57) → H'.1 a b = H.1 a b
theorem pd_gL_rfl (H : hH) : pd_gL H H := ⟨rfl, fun _ _ _ => rfl⟩
theorem pd_gL_tr {H H' H'' : hH} (h : pd_gL H H') (h' : pd_gL H' H'') : pd_gL H H'' := ⟨h'.1.trans h.1, fun a b n => (h'.2 a b n).trans (h.2 a b n)⟩
theorem pd_gL_u (H : hH) {a : Nat} (ha : a = 55 ∨ a = 56 ∨ a = 57) (b : Nat) (v : Int) : pd_gL H (upI H a b v) := ⟨rfl, fun a' b' n => pd_upI_ne (by omega)⟩
theorem pd_gL_row (H : hH) {a : Nat} (ha : a = 55 ∨ a = 56 ∨ a = 57) (v : Int) (n : Nat) : pd_gL H (upRow H a v n) := ⟨rfl, fun a' b' h => by simp only [upRow]; rw [if_neg (by omega)]⟩
theorem pd_gL_gs1 (b c : Int) : ∀ (k : Nat) (i : Int) (H : hH), pd_gL H (f_X2_gs1 b c k i H).2
  | 0, i, H => pd_gL_rfl H
  | k + 1, i, H => by
    unfold f_X2_gs1
    split
    · split
      · exact pd_gL_gs1 b c k _ H
      · exact pd_gL_tr (pd_gL_u H (by omega) _ _) (pd_gL_gs1 b c k _ _)
    · exact pd_gL_rfl H
theorem pd_gL_gs2 (b c : Int) : ∀ (k : Nat) (i : Int) (H : hH), pd_gL H (f_X2_gs2 b c k i H).2
  | 0, i, H => pd_gL_rfl H
  | k + 1, i, H => by
    unfold f_X2_gs2
    split
    · exact pd_gL_tr (pd_gL_u H (by omega) _ _) (pd_gL_gs2 b c k _ _)
    · exact pd_gL_rfl H
theorem pd_gL_ge1 (s : Int) : ∀ (k : Nat) (i : Int) (H : hH), pd_gL H (f_X2_ge1 s k i H).2
  | 0, i, H => pd_gL_rfl H
  | k + 1, i, H => by
    unfold f_X2_ge1
    split
    · split
      · exact pd_gL_ge1 s k _ H
      · exact pd_gL_tr (pd_gL_u H (by omega) _ _) (pd_gL_ge1 s k _ _)
    · exact pd_gL_rfl H
theorem pd_gL_ge2 : ∀ (k : Nat) (s : Int) (H : hH), pd_gL H (f_X2_ge2 k s H).2
  | 0, s, H => pd_gL_rfl H
  | k + 1, s, H => by
    unfold f_X2_ge2
    split
    · exact pd_gL_tr (pd_gL_ge1 s _ 0 H) (pd_gL_ge2 k _ _)
    · exact pd_gL_rfl H
theorem pd_gL_gd1 (m : Int) : ∀ (k : Nat) (s : Int) (H : hH), pd_gL H (f_X2_gd1 m k s H).2
  | 0, s, H => pd_gL_rfl H
  | k + 1, s, H => by
    unfold f_X2_gd1
    split
    · exact pd_gL_tr (pd_gL_u H (by omega) _ _) (pd_gL_gd1 m k _ _)
    · exact pd_gL_rfl H
theorem pd_gL_gd2 : ∀ (k : Nat) (m : Int) (H : hH), pd_gL H (f_X2_gd2 k m H).2
  | 0, m, H => pd_gL_rfl H
  | k + 1, m, H => by
    unfold f_X2_gd2
    split
    · exact pd_gL_tr (pd_gL_gd1 m _ 0 H) (pd_gL_gd2 k _ _)
    · exact pd_gL_rfl H
theorem pd_gL_gs (H : hH) : pd_gL H (f_X2_gatherSets H) := by
  unfold f_X2_gatherSets f_X2_gatherDues f_X2_gatherSetsOfEach
  refine pd_gL_tr (pd_gL_tr (pd_gL_tr (pd_gL_tr (pd_gL_tr ?_ (pd_gL_gs1 _ _ _ 0 _)) (pd_gL_gs2 _ _ _ 0 _)) (pd_gL_row _ (by omega) _ _)) (pd_gL_ge2 _ 0 _)) (pd_gL_gd2 _ 0 _)
  exact pd_gL_tr (pd_gL_tr (pd_gL_tr (pd_gL_tr (pd_gL_tr (pd_gL_row _ (by omega) _ _) (pd_gL_u _ (by omega) _ _)) (pd_gL_u _ (by omega) _ _)) (pd_gL_u _ (by omega) _ _)) (pd_gL_u _ (by omega) _ _)) (pd_gL_u _ (by omega) _ _)

theorem dq_dc : ∀ (k i : Nat) (K : hH), i + k = 296 → (∀ b, b < 91 → (f_X12_dc k (i : Int) K).2.1 31 b = if i ≤ b then K.1 32 b else K.1 31 b) ∧ ∀ b, (f_X12_dc k (i : Int) K).2.1 32 b = K.1 32 b
  | 0, i, K, hk => ⟨fun b hb => by rw [if_neg (by omega)]; rfl, fun b => rfl⟩
  | k + 1, i, K, hk => by
    unfold f_X12_dc
    rw [if_pos (show (i : Int) < 296 by omega), pd_iad1 (by omega), Int.toNat_natCast]
    by_cases h : (i : Int) < 91
    · rw [if_pos h]
      obtain ⟨h1, h2⟩ := dq_dc k (i + 1) (upI K 31 i (K.1 32 i)) (by omega)
      refine ⟨fun b hb => ?_, fun b => ?_⟩
      · rw [h1 b hb]
        by_cases e : b = i
        · rw [if_neg (by omega), if_pos (by omega), e, pd_upI_at]
        · by_cases e2 : i + 1 ≤ b
          · rw [if_pos e2, if_pos (by omega), pd_upI_ne (by omega)]
          · rw [if_neg e2, if_neg (by omega), pd_upI_ne (by omega)]
      · rw [h2, pd_upI_ne (by omega)]
    · rw [if_neg h]
      obtain ⟨h1, h2⟩ := dq_dc k (i + 1) (upI K 31 i 0) (by omega)
      refine ⟨fun b hb => ?_, fun b => ?_⟩
      · rw [h1 b hb, if_neg (by omega), if_neg (by omega), pd_upI_ne (by omega)]
      · rw [h2, pd_upI_ne (by omega)]
theorem dq_dn : ∀ (k : Nat) (i : Int) (K : hH), (f_X12_dn k i K).2.1 = K.1
  | 0, i, K => rfl
  | k + 1, i, K => by
    unfold f_X12_dn
    split
    · rw [dq_dn]; rfl
    · rfl
theorem dq_dl {b : Nat} (hb : b < 91) : ∀ (k i : Nat) (K : hH), i + k = 10 → (f_X12_dl k (i : Int) K).2.1 31 b = K.1 31 b
  | 0, i, K, hk => rfl
  | k + 1, i, K, hk => by
    unfold f_X12_dl
    have e1 : (iAdd 95 (i : Int)).toNat = 95 + i := by
      have h : ∀ i : Fin 10, (iAdd 95 ((i.1 : Nat) : Int)).toNat = 95 + i.1 := by decide
      exact h ⟨i, by omega⟩
    have e2 : (iAdd 105 (i : Int)).toNat = 105 + i := by
      have h : ∀ i : Fin 10, (iAdd 105 ((i.1 : Nat) : Int)).toNat = 105 + i.1 := by decide
      exact h ⟨i, by omega⟩
    rw [if_pos (show (i : Int) < 10 by omega), pd_iad1 (by omega), dq_dl hb k (i + 1) _ (by omega), e1, e2, pd_upI_ne (by omega), pd_upI_ne (by omega)]
theorem dq_tail {b : Nat} (hb : b < 91) (K : hH) : (f_X12_dtail K).2.1 31 b = K.1 32 b := by
  unfold f_X12_dtail
  dsimp only
  have h0 := (dq_dc 296 0 K rfl).1 b hb
  rw [if_pos (by omega)] at h0
  have h0 : (f_X12_dc 296 0 K).2.1 31 b = K.1 32 b := h0
  rw [pd_upI_ne (by omega)]
  have h1 := dq_dl hb 10 0 (upI (f_X12_dn 20 0 (f_X12_dc 296 0 K).2).2 31 92 ((f_X12_dn 20 0 (f_X12_dc 296 0 K).2).2.1 31 34)) rfl
  have h1 : (f_X12_dl 10 0 (upI (f_X12_dn 20 0 (f_X12_dc 296 0 K).2).2 31 92 ((f_X12_dn 20 0 (f_X12_dc 296 0 K).2).2.1 31 34))).2.1 31 b = _ := h1
  rw [h1, pd_upI_ne (by omega), dq_dn, h0]
/-- what was told -/
def pd_SC (r r' : Int × hH) : Prop := (∀ s, s < 4 → r.2.1 61 s = r'.2.1 31 s) ∧ (∀ p, p < 10 → r.2.1 63 p = r'.2.1 31 (24 + p)) ∧ ∀ x, x < 30 → r.2.1 64 x = r'.2.1 31 (55 + x)
theorem pd_qMain {B : Nat → Int} {lim N T : Nat} (hN : N ≤ 940) (hb : pd_hB8 B) : ∀ (k c i : Nat) (H K : hH), pd_LC B lim N T c H → pd_LR B lim N c K → pd_TS 4 H K → 2 * i ≤ c → K.1 29 19 = (i : Int) → T ≤ c + k →
    ∃ r r', f_X1_rmain k (i : Int) H = some r ∧ f_X12_dmain k K = some r' ∧ (∀ a b, a < 4 → r.2.1 a b = H.1 a b) ∧ (r.2.1 4 13 = 0 → pd_SC r r') ∧ (¬ r.2.1 4 13 = 0 → ∀ b, r'.2.1 31 b = K.1 31 b)
  | 0, c, i, H, K, h, _, _, _, _, hk => by have := h.1; omega
  | k + 1, c, i, H, K, h, h', ht, hi, h19, hk => by
    have hc := h.2.2.2.2.2.2.1
    have hr := h'.2.2.2.2.1
    have hok := pd_tTok_ok (B := B) (lim := lim) (N := N) c
    have hT := h.2.1
    have hcT := h.1
    unfold f_X1_rmain f_X12_dmain
    rw [if_pos (show (i : Int) < 940 by omega), hc.1]
    by_cases h1 : (pd_tTok B lim N c).1 = 1
    · rw [if_pos (show (((pd_tTok B lim N c).1 : Nat) : Int) = 1 by omega), if_pos ((pd_tR_kd hr hok).2.1.mpr h1)]
      obtain ⟨g1, g2⟩ := pd_gL_gs H
      refine ⟨_, _, rfl, rfl, fun a b hab => g2 a b (by omega), fun _ => ?_, fun q => ?_⟩
      · obtain ⟨t1, -, -, -, t5, t6⟩ := ht
        refine ⟨fun s hs => ?_, fun p hp => ?_, fun x hx => ?_⟩
        · obtain ⟨n, -, n2, n3⟩ := t1 s hs
          rw [if_neg (by omega)] at n2
          show (f_X2_gatherSets H).1 61 s = (f_X12_dtail K).2.1 31 s
          rw [g2 61 s (by omega), dq_tail (by omega), n2, n3]
        · show (f_X2_gatherSets H).1 63 p = (f_X12_dtail K).2.1 31 (24 + p)
          rw [g2 63 p (by omega), dq_tail (by omega), t6 p hp]
        · show (f_X2_gatherSets H).1 64 x = (f_X12_dtail K).2.1 31 (55 + x)
          have := (t5 (x / 3) (x % 3) (by omega) (by omega)).1
          rw [show 3 * (x / 3) + x % 3 = x by omega] at this
          rw [g2 64 x (by omega), dq_tail (by omega), this]
      · exfalso
        apply q
        show (f_X2_gatherSets H).1 4 13 = 0
        rw [g2 4 13 (by omega), h.2.2.2.2.2.2.2]
    · rw [if_neg (show ¬ (((pd_tTok B lim N c).1 : Nat) : Int) = 1 by omega), if_neg (fun q => h1 ((pd_tR_kd hr hok).2.1.mp q))]
      rcases pd_pLine hN hb h h' ht with ⟨a1, ⟨a2, a3⟩ | ⟨a2, a3, a4⟩⟩ | ⟨a1, a2, a3, c', d1, d2, d3, d4, d5, d6⟩
      · rw [if_pos a1, if_pos a2]
        refine ⟨_, _, rfl, rfl, fun a b hab => fx_f_X1_readLine hab H, fun q => absurd q a3.2.2, fun _ b => fm_f_X12_line (by omega) (by omega) K⟩
      · rw [if_pos a1, if_neg (show ¬ (f_X12_line K).1 = 0 by omega), if_pos a3]
        refine ⟨_, _, rfl, rfl, fun a b hab => fx_f_X1_readLine hab H, fun q => absurd q a4.2.2, fun _ b => ?_⟩
        show (f_X12_sign 59 (f_X12_line K).2).2.1 31 b = K.1 31 b
        rw [fm_f_X12_sign (by omega) (by omega), fm_f_X12_line (by omega) (by omega)]
      · rw [if_neg (show ¬ (f_X1_readLine H).1 = 0 by omega), if_neg (show ¬ (f_X12_line K).1 = 0 by omega), if_neg (show ¬ (f_X12_sign 59 (f_X12_line K).2).1 = 0 by omega)]
        rw [pd_iad1 (by omega), d6, h19, pd_iad1 (by omega)]
        have hl : pd_LR B lim N c' (upI (f_X12_sign 59 (f_X12_line K).2).2 29 19 ((i + 1 : Nat) : Int)) := by
          refine pd_LR_keep d3 (fun b => ?_) (fun b => pd_upI_ne (by omega)) (fun b => rfl) (fun b => rfl)
          by_cases e : b = 19
          · right; omega
          · left; exact pd_upI_ne (by omega)
        obtain ⟨r, r', e1, e2, e3, e4, e5⟩ := pd_qMain hN hb k c' (i + 1) _ _ d2 hl (pd_TS_keep d4 (fun _ _ _ => rfl) (fun _ => rfl) (fun b _ => pd_upI_ne (by omega)) (fun _ => rfl)) (by omega) (pd_upI_at _ _ _ _) (by omega)
        refine ⟨r, r', e1, e2, fun a b hab => ?_, e4, fun q b => ?_⟩
        · rw [e3 a b hab, fx_f_X1_readLine hab H]
        · rw [e5 q b, pd_upI_ne (by omega), fm_f_X12_sign (by omega) (by omega), fm_f_X12_line (by omega) (by omega)]
theorem pd_qDistrict {B : Nat → Int} {N : Nat} (hN : N ≤ 940) (hb : pd_hB8 B) {H K : hH} (hB : ∀ i, H.1 5 i = B i) (h2 : H.1 4 2 = (N : Int)) (hw5 : pd_hW5 H) (hz : ∀ a b, 60 ≤ a → H.1 a b = 0) (hB' : ∀ i, K.1 30 i = B i) (h2' : K.1 29 2 = (N : Int)) (hw8 : pd_hW8 K) :
    ∃ r r', f_X1_read 941 H = some r ∧ f_X12_district 941 K = some r' ∧ (∀ a b, a < 4 → r.2.1 a b = H.1 a b) ∧ (r.2.1 4 13 = 0 → pd_SC r r') ∧ (¬ r.2.1 4 13 = 0 → ∀ b, r'.2.1 31 b = K.1 31 b) := by
  obtain ⟨p1, p2, p3, p4⟩ := pd_pre_ok H
  obtain ⟨T, b1, b2, b3, b4⟩ := pd_xBegin (B := B) (lim := 900) hN (H := f_X1_pre H) (fun i => by rw [p1 5 i (by omega) (by omega) (by omega) (by omega)]; exact hB i) (by rw [p1 4 2 (by omega) (by omega) (by omega) (by omega)]; exact h2) (fun i hi => by rw [p4]; exact hw5 i hi)
  obtain ⟨z1, z2, z3⟩ := pd_dz_ok 91 0 (upI (upI (f_X12_taken 900 (upI K 29 0 0)) 29 15 0) 29 19 0) (by omega)
  have z1 : ∀ b, (f_X12_dz 91 0 (upI (upI (f_X12_taken 900 (upI K 29 0 0)) 29 15 0) 29 19 0)).2.1 32 b = _ := z1
  have z2 : ∀ a b, a ≠ 32 → (f_X12_dz 91 0 (upI (upI (f_X12_taken 900 (upI K 29 0 0)) 29 15 0) 29 19 0)).2.1 a b = _ := z2
  have z3 : (f_X12_dz 91 0 (upI (upI (f_X12_taken 900 (upI K 29 0 0)) 29 15 0) 29 19 0)).2.2 = _ := z3
  unfold f_X1_read f_X12_district
  generalize (f_X12_dz 91 0 (upI (upI (f_X12_taken 900 (upI K 29 0 0)) 29 15 0) 29 19 0)).2 = Z at z1 z2 z3 ⊢
  have t4 : Z.1 29 4 = ((0 : Nat) : Int) := by rw [z2 29 4 (by omega)]; simp [upI, f_X12_taken]
  have t3 : Z.1 29 3 = (N : Int) := by rw [z2 29 3 (by omega)]; simp [upI, f_X12_taken, h2']
  have t5 : Z.1 29 5 = ((900 : Nat) : Int) := by rw [z2 29 5 (by omega)]; simp [upI, f_X12_taken]
  have t19 : Z.1 29 19 = ((0 : Nat) : Int) := by rw [z2 29 19 (by omega)]; simp [upI]
  have tB : ∀ i, Z.1 30 i = B i := fun i => by rw [z2 30 i (by omega)]; simp [upI, f_X12_taken, hB']
  have t8 : pd_hW8 Z := fun i hi => by rw [z3]; exact hw8 i hi
  obtain ⟨n1, n2, n3⟩ := pd_mNext (lim := 900) hN hb tB t3 t5 t4 (by omega)
  have hLR : pd_LR B 900 N 0 (f_X12_next Z) := ⟨n1, by rw [n3.1 29 3 (by omega)]; exact t3, by rw [n3.1 29 5 (by omega)]; exact t5, fun i => by rw [n3.1 30 i (by omega)]; exact tB i, n2, fun i hi => by rw [n3.2.1 35 i (by omega)]; exact t8 i hi⟩
  have hH0 : ∀ a b, 60 ≤ a → (f_X9_begin 900 (f_X1_pre H)).1 a b = 0 := fun a b n => by
    have := b2 a b (by omega)
    have this : (f_X9_begin 900 (f_X1_pre H)).1 a b = _ := this
    rw [this, p2 a b n]; exact hz a b n
  have hH54 : ∀ b, b < 3 → (f_X9_begin 900 (f_X1_pre H)).1 54 b = 0 := fun b n => by
    have := b2 54 b (by omega)
    have this : (f_X9_begin 900 (f_X1_pre H)).1 54 b = _ := this
    rw [this]; exact p3 b n
  have hK0 : ∀ b, b < 91 → (f_X12_next Z).1 32 b = 0 := fun b n => by rw [n3.1 32 b (by omega), z1, if_pos (by omega)]
  have hTS : pd_TS 4 (f_X9_begin 900 (f_X1_pre H)) (f_X12_next Z) := by
    refine ⟨fun s hs => ⟨0, ?_, ?_, ?_⟩, fun s i hs hi => ?_, ⟨fun _ => 0, fun _ => 0, fun t ht => ⟨?_, by show 0 < 1024; omega⟩, fun p hp => ⟨?_, by show 0 < 1024; omega⟩, fun _ _ _ _ => by simp⟩, ⟨fun _ => 0, fun _ => 0, fun t ht => ⟨?_, by show 0 < 1024; omega⟩, fun p hp => ⟨?_, by show 0 < 1024; omega⟩, fun _ _ _ _ => by simp⟩, fun p m hp hm => ?_, fun p hp => ?_⟩
    · rw [if_neg (show ¬ s = 4 by omega)]; omega
    · rw [if_neg (show ¬ s = 4 by omega)]; exact hH0 61 s (by omega)
    · exact hK0 s (by omega)
    · rw [hH0 61 s (by omega)] at hi; omega
    · exact hH0 65 t (by omega)
    · exact hK0 (35 + p) (by omega)
    · exact hH54 t ht
    · exact hK0 (45 + p) (by omega)
    · rw [hH0 64 _ (by omega), hK0 _ (by omega)]; exact ⟨rfl, by omega⟩
    · rw [hH0 63 _ (by omega), hK0 _ (by omega)]
  obtain ⟨r, r', e1, e2, e3, e4, e5⟩ := pd_qMain hN hb 941 0 0 _ _ b1 hLR hTS (by omega) (by rw [n3.1 29 19 (by omega)]; exact t19) (by have := b1.2.1; omega)
  refine ⟨r, r', e1, e2, fun a b hab => ?_, e4, fun q b => ?_⟩
  · rw [e3 a b hab, fx_f_X9_begin hab, p1 a b (by omega) (by omega) (by omega) (by omega)]
  · rw [e5 q b, n3.1 31 b (by omega), z2 31 b (by omega)]
    simp [upI, f_X12_taken]
