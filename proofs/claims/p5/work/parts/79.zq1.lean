/-! Both sides' bytes alike behind feed (by hand). -/
theorem fd_bv (x : BitVec 32) (s : Nat) (hs : s ≤ 24) : (x >>> s).setWidth 8 = (x.sshiftRight s).setWidth 8 := by
  apply BitVec.eq_of_getLsbD_eq
  intro i hi
  rw [BitVec.getLsbD_setWidth, BitVec.getLsbD_setWidth, BitVec.getLsbD_ushiftRight, BitVec.getLsbD_sshiftRight]
  have h1 : s + i < 32 := by omega
  simp [hi, h1]
  omega
theorem fd_b8 (x : Int32) (s : Nat) (hs : s = 24 ∨ s = 16 ∨ s = 8 ∨ s = 0) (u : UInt32) (v : Int32) (hu : u.toBitVec = BitVec.ofNat 32 s) (hv : v.toBitVec = BitVec.ofNat 32 s) : (x.toUInt32 >>> u).toInt32.toInt8 = (x >>> v).toInt8 := by
  apply Int8.toBitVec_inj.mp
  have e1 : (x.toUInt32 >>> u).toInt32.toInt8.toBitVec = (x.toBitVec >>> s).setWidth 8 := by
    show (x.toUInt32 >>> u).toBitVec.signExtend 8 = _
    rw [BitVec.signExtend_eq_setWidth_of_le _ (by omega), UInt32.toBitVec_shiftRight, hu]
    rcases hs with rfl | rfl | rfl | rfl <;> rfl
  have e2 : (x >>> v).toInt8.toBitVec = (x.toBitVec.sshiftRight s).setWidth 8 := by
    show (x >>> v).toBitVec.signExtend 8 = _
    rw [BitVec.signExtend_eq_setWidth_of_le _ (by omega), Int32.toBitVec_shiftRight, hv]
    rcases hs with rfl | rfl | rfl | rfl <;> rfl
  rw [e1, e2]
  exact fd_bv _ s (by omega)
theorem fd_byte (n s : Int) (hs : s = 24 ∨ s = 16 ∨ s = 8 ∨ s = 0) : (Int32.ofInt (iUshr n s)).toInt8 = (Int32.ofInt (iShr n s)).toInt8 := by
  show (Int32.ofInt (((Int32.ofInt n).toUInt32 >>> ((Int32.ofInt s).toUInt32 &&& Int32.toUInt32 31)).toInt32).toInt).toInt8 = (Int32.ofInt ((Int32.ofInt n) >>> ((Int32.ofInt s) &&& 31)).toInt).toInt8
  rw [Int32.ofInt_toInt, Int32.ofInt_toInt]
  generalize Int32.ofInt n = x
  rcases hs with rfl | rfl | rfl | rfl
  · exact fd_b8 x 24 (Or.inl rfl) _ _ (by decide) (by decide)
  · exact fd_b8 x 16 (Or.inr (Or.inl rfl)) _ _ (by decide) (by decide)
  · exact fd_b8 x 8 (Or.inr (Or.inr (Or.inl rfl))) _ _ (by decide) (by decide)
  · exact fd_b8 x 0 (Or.inr (Or.inr (Or.inr rfl))) _ _ (by decide) (by decide)
def fdR (H K : hH) : Prop := (∀ i, H.1 5 i = K.1 30 i) ∧ H.1 4 2 = K.1 29 2
theorem fdR_1 {H K : hH} (h : fdR H K) (n s : Int) (hs : s = 24 ∨ s = 16 ∨ s = 8 ∨ s = 0) : fdR (f_put1 n s H) (f_four1 n s K) := by
  obtain ⟨h1, h2⟩ := h
  unfold f_put1 f_four1
  refine ⟨fun i => ?_, ?_⟩
  · rw [pd_upI_ne (show ¬ (5 = 4 ∧ i = 2) by omega), pd_upI_ne (show ¬ (30 = 29 ∧ i = 2) by omega), fd_byte n s hs, h2]
    by_cases e : i = (K.1 29 2).toNat
    · rw [e, pd_upI_at, pd_upI_at]
    · rw [pd_upI_ne (fun q => e q.2), pd_upI_ne (fun q => e q.2)]; exact h1 i
  · rw [pd_upI_at, pd_upI_at, h2]
theorem fdR_4 {H K : hH} (h : fdR H K) (n : Int) : fdR (f_put n H) (f_four n K) :=
  fdR_1 (fdR_1 (fdR_1 (fdR_1 h n 24 (Or.inl rfl)) n 16 (Or.inr (Or.inl rfl))) n 8 (Or.inr (Or.inr (Or.inl rfl)))) n 0 (Or.inr (Or.inr (Or.inr rfl)))
theorem put1_k (n s : Int) (H : hH) {a : Nat} (b : Nat) (ha : a = 29 ∨ a = 30) : (f_put1 n s H).1 a b = H.1 a b := by
  unfold f_put1; rw [pd_upI_ne (by omega), pd_upI_ne (by omega)]
theorem put_k (n : Int) (H : hH) {a : Nat} (b : Nat) (ha : a = 29 ∨ a = 30) : (f_put n H).1 a b = H.1 a b := by
  unfold f_put; rw [put1_k _ _ _ _ ha, put1_k _ _ _ _ ha, put1_k _ _ _ _ ha, put1_k _ _ _ _ ha]
theorem four1_k (n s : Int) (H : hH) (b : Nat) : (f_four1 n s H).1 5 b = H.1 5 b := by
  unfold f_four1; rw [pd_upI_ne (by omega), pd_upI_ne (by omega)]
theorem four_k (n : Int) (H : hH) (b : Nat) : (f_four n H).1 5 b = H.1 5 b := by
  unfold f_four; rw [four1_k, four1_k, four1_k, four1_k]
/-- both have the same bytes behind it -/
theorem feed_alike (a b c d e : Int) {H : hH} (hs : H.1 4 2 = H.1 29 2) (hB : ∀ i, H.1 5 i = H.1 30 i) (i : Nat) : (f_feedM a b c d e (f_feedX a b c d e H)).1 5 i = (f_feedM a b c d e (f_feedX a b c d e H)).1 30 i := by
  unfold f_feedX
  by_cases hc : 940 < iAdd (H.1 4 2) 20
  · rw [if_pos hc]
    unfold f_feedM
    rw [← hs, if_pos hc, pd_upI_ne (by omega), pd_upI_ne (by omega)]
    exact hB i
  · rw [if_neg hc]
    have hk : ∀ a' b', (a' = 29 ∨ a' = 30) → (f_put e (f_put d (f_put c (f_put b (f_put a H))))).1 a' b' = H.1 a' b' := fun a' b' h => by rw [put_k _ _ _ h, put_k _ _ _ h, put_k _ _ _ h, put_k _ _ _ h, put_k _ _ _ h]
    unfold f_feedM
    rw [hk 29 2 (Or.inl rfl), ← hs, if_neg hc]
    have hR : fdR H (upI (f_put e (f_put d (f_put c (f_put b (f_put a H))))) 29 0 0) := ⟨fun j => by rw [pd_upI_ne (by omega), hk 30 j (Or.inr rfl)]; exact hB j, by rw [pd_upI_ne (by omega), hk 29 2 (Or.inl rfl)]; exact hs⟩
    have := (fdR_4 (fdR_4 (fdR_4 (fdR_4 (fdR_4 hR a) b) c) d) e).1 i
    rw [← this, four_k, four_k, four_k, four_k, four_k, pd_upI_ne (by omega)]
