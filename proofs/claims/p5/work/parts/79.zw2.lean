/-! The names that both have read, behind district (by hand). -/
set_option maxRecDepth 100000
set_option linter.unusedSimpArgs false
theorem qn_dc : ∀ (k : Nat) (i : Int) (K : hH), (f_X12_dc k i K).2.2.1 = K.2.1
  | 0, i, K => rfl
  | k + 1, i, K => by
    unfold f_X12_dc
    split
    · split
      · rw [qn_dc k]; rfl
      · rw [qn_dc k]; rfl
    · rfl
theorem qn_dl : ∀ (k : Nat) (i : Int) (K : hH), (f_X12_dl k i K).2.2.1 = K.2.1
  | 0, i, K => rfl
  | k + 1, i, K => by
    unfold f_X12_dl
    split
    · rw [qn_dl k]; rfl
    · rfl
theorem qn_20 {i : Nat} (h : i < 20) : (iAdd 20 (i : Int)).toNat = 20 + i := by
  have h2 : ∀ i : Fin 20, (iAdd 20 ((i.1 : Nat) : Int)).toNat = 20 + i.1 := by decide
  exact h2 ⟨i, h⟩
theorem qn_dn : ∀ (k i : Nat) (K : hH), i + k = 20 → (∀ b, b < 20 → (f_X12_dn k (i : Int) K).2.2.1 34 b = if i ≤ b then K.2.1 34 (20 + b) else K.2.1 34 b) ∧ ∀ b, 20 ≤ b → (f_X12_dn k (i : Int) K).2.2.1 34 b = K.2.1 34 b
  | 0, i, K, hk => ⟨fun b hb => by rw [if_neg (by omega)]; rfl, fun b _ => rfl⟩
  | k + 1, i, K, hk => by
    unfold f_X12_dn
    rw [if_pos (show (i : Int) < 20 by omega), pd_iad1 (by omega), Int.toNat_natCast, qn_20 (by omega)]
    obtain ⟨h1, h2⟩ := qn_dn k (i + 1) (upL K 34 i (K.2.1 34 (20 + i))) (by omega)
    refine ⟨fun b hb => ?_, fun b hb => ?_⟩
    · rw [h1 b hb]
      by_cases e : b = i
      · rw [if_neg (by omega), if_pos (by omega), e]
        simp [upL]
      · by_cases e2 : i + 1 ≤ b
        · rw [if_pos e2, if_pos (by omega), ul_ne (by omega)]
        · rw [if_neg e2, if_neg (by omega), ul_ne (by omega)]
    · rw [h2 b hb, ul_ne (by omega)]
theorem qn_tail {b : Nat} (hb : b < 20) (K : hH) : (f_X12_dtail K).2.2.1 34 b = K.2.1 34 (20 + b) := by
  unfold f_X12_dtail
  dsimp only
  rw [ul_I, qn_dl, ul_I]
  have h := (qn_dn 20 0 (f_X12_dc 296 0 K).2 rfl).1 b hb
  rw [if_pos (by omega)] at h
  have h : (f_X12_dn 20 0 (f_X12_dc 296 0 K).2).2.2.1 34 b = (f_X12_dc 296 0 K).2.2.1 34 (20 + b) := h
  rw [h, qn_dc]
/-- the names told -/
def sNm (H K : hH) : Prop := ∀ s, s < 4 → ∃ n : Nat, n ≤ pd_tMost s ∧ H.1 61 s = (n : Int) ∧ ∀ i, i < n → ∃ r, pd_vR r ∧ H.2.1 62 (10 * s + i) = pd_tF5 r ∧ K.2.1 34 (sn_base s + i) = pd_tF8 r
theorem qn_base {s : Nat} (hs : s < 4) : pd_tBase s = 20 + sn_base s ∧ sn_base s + pd_tMost s ≤ 20 := by
  have : s = 0 ∨ s = 1 ∨ s = 2 ∨ s = 3 := by omega
  rcases this with rfl | rfl | rfl | rfl <;> decide
theorem qn_cnt {H K : hH} (ht : pd_TS 4 H K) : (20 ≤ (iAdd 20 (K.1 32 0)).toNat) ∧ (20 ≤ (iAdd 24 (K.1 32 1)).toNat) ∧ (20 ≤ (iAdd 27 (K.1 32 2)).toNat) ∧ 20 ≤ (iAdd 37 (K.1 32 3)).toNat := by
  have key : ∀ s, s < 4 → 20 ≤ (iAdd ((pd_tBase s : Nat) : Int) (K.1 32 s)).toNat := by
    intro s hs
    obtain ⟨n, n1, n2, n3⟩ := ht.1 s hs
    rw [if_neg (by omega)] at n1
    have hm := pd_tMost_le hs
    rw [n3]
    have h : ∀ (s : Fin 4) (i : Fin 11), 20 ≤ (iAdd ((pd_tBase s.1 : Nat) : Int) ((i.1 : Nat) : Int)).toNat := by decide
    exact h ⟨s, hs⟩ ⟨n, by omega⟩
  exact ⟨key 0 (by omega), key 1 (by omega), key 2 (by omega), key 3 (by omega)⟩
theorem pd_qMainN {B : Nat → Int} {lim N T : Nat} (hN : N ≤ 940) (hb : pd_hB8 B) : ∀ (k c i : Nat) (H K : hH), pd_LC B lim N T c H → pd_LR B lim N c K → pd_TS 4 H K → 2 * i ≤ c → K.1 29 19 = (i : Int) → T ≤ c + k →
    ∃ r r', f_X1_rmain k (i : Int) H = some r ∧ f_X12_dmain k K = some r' ∧ (r.2.1 4 13 = 0 → sNm r.2 r'.2) ∧ (¬ r.2.1 4 13 = 0 → ∀ b, b < 20 → r'.2.2.1 34 b = K.2.1 34 b)
  | 0, c, i, H, K, h, _, _, _, _, hk => by have := h.1; omega
  | k + 1, c, i, H, K, h, h', ht, hi, h19, hk => by
    have hc := h.2.2.2.2.2.2.1
    have hr := h'.2.2.2.2.1
    have hok := pd_tTok_ok (B := B) (lim := lim) (N := N) c
    have hT := h.2.1
    have hcT := h.1
    obtain ⟨w0, w1, w2, w3⟩ := qn_cnt ht
    unfold f_X1_rmain f_X12_dmain
    rw [if_pos (show (i : Int) < 940 by omega), hc.1]
    by_cases h1 : (pd_tTok B lim N c).1 = 1
    · rw [if_pos (show (((pd_tTok B lim N c).1 : Nat) : Int) = 1 by omega), if_pos ((pd_tR_kd hr hok).2.1.mpr h1)]
      obtain ⟨g1, g2⟩ := pd_gL_gs H
      refine ⟨_, _, rfl, rfl, fun _ => ?_, fun q => ?_⟩
      · obtain ⟨t1, t2, -⟩ := ht
        intro s hs
        obtain ⟨n, n1, n2, n3⟩ := t1 s hs
        rw [if_neg (by omega)] at n1 n2
        obtain ⟨b1, b2⟩ := qn_base hs
        refine ⟨n, n1, ?_, fun i hi => ?_⟩
        · show (f_X2_gatherSets H).1 61 s = _
          rw [g2 61 s (by omega), n2]
        · obtain ⟨r, r1, r2, r3⟩ := t2 s i hs (by rw [n2]; omega)
          refine ⟨r, r1, ?_, ?_⟩
          · show (f_X2_gatherSets H).2.1 62 _ = _
            rw [g1]; exact r2
          · show (f_X12_dtail K).2.2.1 34 _ = _
            rw [qn_tail (by omega), ← r3, b1, Nat.add_assoc]
      · exfalso
        apply q
        show (f_X2_gatherSets H).1 4 13 = 0
        rw [g2 4 13 (by omega), h.2.2.2.2.2.2.2]
    · rw [if_neg (show ¬ (((pd_tTok B lim N c).1 : Nat) : Int) = 1 by omega), if_neg (fun q => h1 ((pd_tR_kd hr hok).2.1.mp q))]
      rcases pd_pLine hN hb h h' ht with ⟨a1, ⟨a2, a3⟩ | ⟨a2, a3, a4⟩⟩ | ⟨a1, a2, a3, c', d1, d2, d3, d4, d5, d6⟩
      · rw [if_pos a1, if_pos a2]
        refine ⟨_, _, rfl, rfl, fun q => absurd q a3.2.2, fun _ b hb20 => ?_⟩
        show (f_X12_line K).2.2.1 34 b = K.2.1 34 b
        rw [gl_f_X12_line hb20 w0 w1 w2 w3]
      · rw [if_pos a1, if_neg (show ¬ (f_X12_line K).1 = 0 by omega), if_pos a3]
        refine ⟨_, _, rfl, rfl, fun q => absurd q a4.2.2, fun _ b hb20 => ?_⟩
        show (f_X12_sign 59 (f_X12_line K).2).2.2.1 34 b = K.2.1 34 b
        rw [gl_f_X12_sign hb20, gl_f_X12_line hb20 w0 w1 w2 w3]
      · rw [if_neg (show ¬ (f_X1_readLine H).1 = 0 by omega), if_neg (show ¬ (f_X12_line K).1 = 0 by omega), if_neg (show ¬ (f_X12_sign 59 (f_X12_line K).2).1 = 0 by omega)]
        rw [pd_iad1 (by omega), d6, h19, pd_iad1 (by omega)]
        have hl : pd_LR B lim N c' (upI (f_X12_sign 59 (f_X12_line K).2).2 29 19 ((i + 1 : Nat) : Int)) := by
          refine pd_LR_keep d3 (fun b => ?_) (fun b => pd_upI_ne (by omega)) (fun b => rfl) (fun b => rfl)
          by_cases e : b = 19
          · right; omega
          · left; exact pd_upI_ne (by omega)
        obtain ⟨r, r', e1, e2, e4, e5⟩ := pd_qMainN hN hb k c' (i + 1) _ _ d2 hl (pd_TS_keep d4 (fun _ _ _ => rfl) (fun _ => rfl) (fun b _ => pd_upI_ne (by omega)) (fun _ => rfl)) (by omega) (pd_upI_at _ _ _ _) (by omega)
        refine ⟨r, r', e1, e2, e4, fun q b hb20 => ?_⟩
        rw [e5 q b hb20, ul_I, gl_f_X12_sign hb20, gl_f_X12_line hb20 w0 w1 w2 w3]
theorem pd_qDistrictN {B : Nat → Int} {N : Nat} (hN : N ≤ 940) (hb : pd_hB8 B) {H K : hH} (hB : ∀ i, H.1 5 i = B i) (h2 : H.1 4 2 = (N : Int)) (hw5 : pd_hW5 H) (hz : ∀ a b, 60 ≤ a → H.1 a b = 0) (hB' : ∀ i, K.1 30 i = B i) (h2' : K.1 29 2 = (N : Int)) (hw8 : pd_hW8 K) :
    ∃ r r', f_X1_read 941 H = some r ∧ f_X12_district 941 K = some r' ∧ (r.2.1 4 13 = 0 → sNm r.2 r'.2) ∧ (¬ r.2.1 4 13 = 0 → ∀ b, b < 20 → r'.2.2.1 34 b = K.2.1 34 b) := by
  obtain ⟨p1, p2, p3, p4⟩ := pd_pre_ok H
  obtain ⟨T, b1, b2, b3, b4⟩ := pd_xBegin (B := B) (lim := 900) hN (H := f_X1_pre H) (fun i => by rw [p1 5 i (by omega) (by omega) (by omega) (by omega)]; exact hB i) (by rw [p1 4 2 (by omega) (by omega) (by omega) (by omega)]; exact h2) (fun i hi => by rw [p4]; exact hw5 i hi)
  obtain ⟨z1, z2, z3⟩ := pd_dz_ok 91 0 (upI (upI (f_X12_taken 900 (upI K 29 0 0)) 29 15 0) 29 19 0) (by omega)
  have z1 : ∀ b, (f_X12_dz 91 0 (upI (upI (f_X12_taken 900 (upI K 29 0 0)) 29 15 0) 29 19 0)).2.1 32 b = _ := z1
  have z2 : ∀ a b, a ≠ 32 → (f_X12_dz 91 0 (upI (upI (f_X12_taken 900 (upI K 29 0 0)) 29 15 0) 29 19 0)).2.1 a b = _ := z2
  have z3 : (f_X12_dz 91 0 (upI (upI (f_X12_taken 900 (upI K 29 0 0)) 29 15 0) 29 19 0)).2.2 = _ := z3
  unfold f_X1_read f_X12_district
  generalize (f_X12_dz 91 0 (upI (upI (f_X12_taken 900 (upI K 29 0 0)) 29 15 0) 29 19 0)).2 = Z at z1 z2 z3 ⊢
  have t4 : Z.1 29 4 = ((0 : Nat) : Int) := by rw [z2 29 4 (by omega)]; simp [upI, f_X12_taken]
  have t3 : Z.1 29 3 = (N : Int) := by rw [z2 29 3 (by omega)]; simp [upI, f_X12_taken, h2']
  have t5 : Z.1 29 5 = ((900 : Nat) : Int) := by rw [z2 29 5 (by omega)]; simp [upI, f_X12_taken]
  have t19 : Z.1 29 19 = ((0 : Nat) : Int) := by rw [z2 29 19 (by omega)]; simp [upI]
  have tB : ∀ i, Z.1 30 i = B i := fun i => by rw [z2 30 i (by omega)]; simp [upI, f_X12_taken, hB']
  have t8 : pd_hW8 Z := fun i hi => by rw [z3]; exact hw8 i hi
  obtain ⟨n1, n2, n3⟩ := pd_mNext (lim := 900) hN hb tB t3 t5 t4 (by omega)
  have hLR : pd_LR B 900 N 0 (f_X12_next Z) := ⟨n1, by rw [n3.1 29 3 (by omega)]; exact t3, by rw [n3.1 29 5 (by omega)]; exact t5, fun i => by rw [n3.1 30 i (by omega)]; exact tB i, n2, fun i hi => by rw [n3.2.1 35 i (by omega)]; exact t8 i hi⟩
  have hH0 : ∀ a b, 60 ≤ a → (f_X9_begin 900 (f_X1_pre H)).1 a b = 0 := fun a b n => by
    have := b2 a b (by omega)
    have this : (f_X9_begin 900 (f_X1_pre H)).1 a b = _ := this
    rw [this, p2 a b n]; exact hz a b n
  have hH54 : ∀ b, b < 3 → (f_X9_begin 900 (f_X1_pre H)).1 54 b = 0 := fun b n => by
    have := b2 54 b (by omega)
    have this : (f_X9_begin 900 (f_X1_pre H)).1 54 b = _ := this
    rw [this]; exact p3 b n
  have hK0 : ∀ b, b < 91 → (f_X12_next Z).1 32 b = 0 := fun b n => by rw [n3.1 32 b (by omega), z1, if_pos (by omega)]
  have hTS : pd_TS 4 (f_X9_begin 900 (f_X1_pre H)) (f_X12_next Z) := by
    refine ⟨fun s hs => ⟨0, ?_, ?_, ?_⟩, fun s i hs hi => ?_, ⟨fun _ => 0, fun _ => 0, fun t ht => ⟨?_, by show 0 < 1024; omega⟩, fun p hp => ⟨?_, by show 0 < 1024; omega⟩, fun _ _ _ _ => by simp⟩, ⟨fun _ => 0, fun _ => 0, fun t ht => ⟨?_, by show 0 < 1024; omega⟩, fun p hp => ⟨?_, by show 0 < 1024; omega⟩, fun _ _ _ _ => by simp⟩, fun p m hp hm => ?_, fun p hp => ?_⟩
    · rw [if_neg (show ¬ s = 4 by omega)]; omega
    · rw [if_neg (show ¬ s = 4 by omega)]; exact hH0 61 s (by omega)
    · exact hK0 s (by omega)
    · rw [hH0 61 s (by omega)] at hi; omega
    · exact hH0 65 t (by omega)
    · exact hK0 (35 + p) (by omega)
    · exact hH54 t ht
    · exact hK0 (45 + p) (by omega)
    · rw [hH0 64 _ (by omega), hK0 _ (by omega)]; exact ⟨rfl, by omega⟩
    · rw [hH0 63 _ (by omega), hK0 _ (by omega)]
  obtain ⟨r, r', e1, e2, e4, e5⟩ := pd_qMainN hN hb 941 0 0 _ _ b1 hLR hTS (by omega) (by rw [n3.1 29 19 (by omega)]; exact t19) (by have := b1.2.1; omega)
  refine ⟨r, r', e1, e2, e4, fun q b hb20 => ?_⟩
  rw [e5 q b hb20, n3.2.1 34 b (by omega), z3]
  rfl
