/-! Both district() tell the same fault (by hand). -/
set_option linter.unusedSimpArgs false
set_option maxRecDepth 100000
theorem pd_qMainF {B : Nat → Int} {lim N T : Nat} (hN : N ≤ 940) (hb : pd_hB8 B) : ∀ (k c i : Nat) (H K : hH), pd_LC B lim N T c H → pd_LR B lim N c K → pd_TS 4 H K → 2 * i ≤ c → K.1 29 19 = (i : Int) → T ≤ c + k → K.1 29 15 = 0 →
    ∃ r r', f_X1_rmain k (i : Int) H = some r ∧ f_X12_dmain k K = some r' ∧ r.2.1 4 13 = r'.2.1 29 15
  | 0, c, i, H, K, h, _, _, _, _, hk, _ => by have := h.1; omega
  | k + 1, c, i, H, K, h, h', ht, hi, h19, hk, h15 => by
    have hc := h.2.2.2.2.2.2.1
    have hr := h'.2.2.2.2.1
    have hok := pd_tTok_ok (B := B) (lim := lim) (N := N) c
    have hT := h.2.1
    have hcT := h.1
    unfold f_X1_rmain f_X12_dmain
    rw [if_pos (show (i : Int) < 940 by omega), hc.1]
    by_cases h1 : (pd_tTok B lim N c).1 = 1
    · rw [if_pos (show (((pd_tTok B lim N c).1 : Nat) : Int) = 1 by omega), if_pos ((pd_tR_kd hr hok).2.1.mpr h1)]
      obtain ⟨g1, g2⟩ := pd_gL_gs H
      refine ⟨_, _, rfl, rfl, ?_⟩
      show (f_X2_gatherSets H).1 4 13 = (f_X12_dtail K).2.1 29 15
      rw [g2 4 13 (by omega), h.2.2.2.2.2.2.2, zf_f_X12_dtail, h15]
    · rw [if_neg (show ¬ (((pd_tTok B lim N c).1 : Nat) : Int) = 1 by omega), if_neg (fun q => h1 ((pd_tR_kd hr hok).2.1.mp q))]
      rcases pd_pLine hN hb h h' ht with ⟨a1, ⟨a2, a3⟩ | ⟨a2, a3, a4⟩⟩ | ⟨a1, a2, a3, c', d1, d2, d3, d4, d5, d6⟩
      · rw [if_pos a1, if_pos a2]
        exact ⟨_, _, rfl, rfl, a3.1⟩
      · rw [if_pos a1, if_neg (show ¬ (f_X12_line K).1 = 0 by omega), if_pos a3]
        exact ⟨_, _, rfl, rfl, a4.1⟩
      · rw [if_neg (show ¬ (f_X1_readLine H).1 = 0 by omega), if_neg (show ¬ (f_X12_line K).1 = 0 by omega), if_neg (show ¬ (f_X12_sign 59 (f_X12_line K).2).1 = 0 by omega)]
        rw [pd_iad1 (by omega), d6, h19, pd_iad1 (by omega)]
        have hl : pd_LR B lim N c' (upI (f_X12_sign 59 (f_X12_line K).2).2 29 19 ((i + 1 : Nat) : Int)) := by
          refine pd_LR_keep d3 (fun b => ?_) (fun b => pd_upI_ne (by omega)) (fun b => rfl) (fun b => rfl)
          by_cases e : b = 19
          · right; omega
          · left; exact pd_upI_ne (by omega)
        obtain ⟨r, r', e1, e2, e3⟩ := pd_qMainF hN hb k c' (i + 1) _ _ d2 hl (pd_TS_keep d4 (fun _ _ _ => rfl) (fun _ => rfl) (fun b _ => pd_upI_ne (by omega)) (fun _ => rfl)) (by omega) (pd_upI_at _ _ _ _) (by omega) (by
          rw [pd_upI_ne (by omega), (zf_f_X12_sign _ _).resolve_left (by omega), (zf_f_X12_line _).resolve_left (by omega)]
          exact h15)
        exact ⟨r, r', e1, e2, e3⟩
theorem pd_qDistrictF {B : Nat → Int} {N : Nat} (hN : N ≤ 940) (hb : pd_hB8 B) {H K : hH} (hB : ∀ i, H.1 5 i = B i) (h2 : H.1 4 2 = (N : Int)) (hw5 : pd_hW5 H) (hz : ∀ a b, 60 ≤ a → H.1 a b = 0) (hB' : ∀ i, K.1 30 i = B i) (h2' : K.1 29 2 = (N : Int)) (hw8 : pd_hW8 K) :
    ∃ r r', f_X1_read 941 H = some r ∧ f_X12_district 941 K = some r' ∧ r.2.1 4 13 = r'.2.1 29 15 := by
  obtain ⟨p1, p2, p3, p4⟩ := pd_pre_ok H
  obtain ⟨T, b1, b2, b3, b4⟩ := pd_xBegin (B := B) (lim := 900) hN (H := f_X1_pre H) (fun i => by rw [p1 5 i (by omega) (by omega) (by omega) (by omega)]; exact hB i) (by rw [p1 4 2 (by omega) (by omega) (by omega) (by omega)]; exact h2) (fun i hi => by rw [p4]; exact hw5 i hi)
  obtain ⟨z1, z2, z3⟩ := pd_dz_ok 91 0 (upI (upI (f_X12_taken 900 (upI K 29 0 0)) 29 15 0) 29 19 0) (by omega)
  have z1 : ∀ b, (f_X12_dz 91 0 (upI (upI (f_X12_taken 900 (upI K 29 0 0)) 29 15 0) 29 19 0)).2.1 32 b = _ := z1
  have z2 : ∀ a b, a ≠ 32 → (f_X12_dz 91 0 (upI (upI (f_X12_taken 900 (upI K 29 0 0)) 29 15 0) 29 19 0)).2.1 a b = _ := z2
  have z3 : (f_X12_dz 91 0 (upI (upI (f_X12_taken 900 (upI K 29 0 0)) 29 15 0) 29 19 0)).2.2 = _ := z3
  unfold f_X1_read f_X12_district
  generalize (f_X12_dz 91 0 (upI (upI (f_X12_taken 900 (upI K 29 0 0)) 29 15 0) 29 19 0)).2 = Z at z1 z2 z3 ⊢
  have t4 : Z.1 29 4 = ((0 : Nat) : Int) := by rw [z2 29 4 (by omega)]; simp [upI, f_X12_taken]
  have t3 : Z.1 29 3 = (N : Int) := by rw [z2 29 3 (by omega)]; simp [upI, f_X12_taken, h2']
  have t5 : Z.1 29 5 = ((900 : Nat) : Int) := by rw [z2 29 5 (by omega)]; simp [upI, f_X12_taken]
  have t15 : Z.1 29 15 = 0 := by rw [z2 29 15 (by omega)]; simp [upI]
  have t19 : Z.1 29 19 = ((0 : Nat) : Int) := by rw [z2 29 19 (by omega)]; simp [upI]
  have tB : ∀ i, Z.1 30 i = B i := fun i => by rw [z2 30 i (by omega)]; simp [upI, f_X12_taken, hB']
  have t8 : pd_hW8 Z := fun i hi => by rw [z3]; exact hw8 i hi
  obtain ⟨n1, n2, n3⟩ := pd_mNext (lim := 900) hN hb tB t3 t5 t4 (by omega)
  have hLR : pd_LR B 900 N 0 (f_X12_next Z) := ⟨n1, by rw [n3.1 29 3 (by omega)]; exact t3, by rw [n3.1 29 5 (by omega)]; exact t5, fun i => by rw [n3.1 30 i (by omega)]; exact tB i, n2, fun i hi => by rw [n3.2.1 35 i (by omega)]; exact t8 i hi⟩
  have hH0 : ∀ a b, 60 ≤ a → (f_X9_begin 900 (f_X1_pre H)).1 a b = 0 := fun a b n => by
    have := b2 a b (by omega)
    have this : (f_X9_begin 900 (f_X1_pre H)).1 a b = _ := this
    rw [this, p2 a b n]; exact hz a b n
  have hH54 : ∀ b, b < 3 → (f_X9_begin 900 (f_X1_pre H)).1 54 b = 0 := fun b n => by
    have := b2 54 b (by omega)
    have this : (f_X9_begin 900 (f_X1_pre H)).1 54 b = _ := this
    rw [this]; exact p3 b n
  have hK0 : ∀ b, b < 91 → (f_X12_next Z).1 32 b = 0 := fun b n => by rw [n3.1 32 b (by omega), z1, if_pos (by omega)]
  have hTS : pd_TS 4 (f_X9_begin 900 (f_X1_pre H)) (f_X12_next Z) := by
    refine ⟨fun s hs => ⟨0, ?_, ?_, ?_⟩, fun s i hs hi => ?_, ⟨fun _ => 0, fun _ => 0, fun t ht => ⟨?_, by show 0 < 1024; omega⟩, fun p hp => ⟨?_, by show 0 < 1024; omega⟩, fun _ _ _ _ => by simp⟩, ⟨fun _ => 0, fun _ => 0, fun t ht => ⟨?_, by show 0 < 1024; omega⟩, fun p hp => ⟨?_, by show 0 < 1024; omega⟩, fun _ _ _ _ => by simp⟩, fun p m hp hm => ?_, fun p hp => ?_⟩
    · rw [if_neg (show ¬ s = 4 by omega)]; omega
    · rw [if_neg (show ¬ s = 4 by omega)]; exact hH0 61 s (by omega)
    · exact hK0 s (by omega)
    · rw [hH0 61 s (by omega)] at hi; omega
    · exact hH0 65 t (by omega)
    · exact hK0 (35 + p) (by omega)
    · exact hH54 t ht
    · exact hK0 (45 + p) (by omega)
    · rw [hH0 64 _ (by omega), hK0 _ (by omega)]; exact ⟨rfl, by omega⟩
    · rw [hH0 63 _ (by omega), hK0 _ (by omega)]
  obtain ⟨r, r', e1, e2, e3⟩ := pd_qMainF hN hb 941 0 0 _ _ b1 hLR hTS (by omega) (by rw [n3.1 29 19 (by omega)]; exact t19) (by have := b1.2.1; omega) (by rw [n3.1 29 15 (by omega)]; exact t15)
  exact ⟨r, r', e1, e2, e3⟩
