/-! Both sides read a text alike (by hand), 7. -/
set_option maxRecDepth 100000
set_option linter.unusedSimpArgs false
def pd_mCore (K : hH) : hH :=
  if f_X12_peek K < 0 then
    (upI (upI (upI K 29 12 (K.1 29 4)) 29 13 0) 29 11 0)
  else
    if f_X12_isSmall (f_X12_peek K) = 0 then
      if f_X12_isDigit (f_X12_peek K) = 0 then
        if f_X12_peek K = 59 then
          (upI (upI (upI (upI (upI K 29 12 (K.1 29 4)) 29 13 0) 29 11 3) 29 14 (f_X12_peek K)) 29 4 (iAdd (K.1 29 4) 1))
        else
          if f_X12_peek K = 40 then
            (upI (upI (upI (upI (upI K 29 12 (K.1 29 4)) 29 13 0) 29 11 3) 29 14 (f_X12_peek K)) 29 4 (iAdd (K.1 29 4) 1))
          else
            if f_X12_peek K = 41 then
              (upI (upI (upI (upI (upI K 29 12 (K.1 29 4)) 29 13 0) 29 11 3) 29 14 (f_X12_peek K)) 29 4 (iAdd (K.1 29 4) 1))
            else
              if f_X12_peek K < 60 then
                (upI (upI (upI (upI (upI K 29 12 (K.1 29 4)) 29 13 0) 29 11 4) 29 14 (f_X12_peek K)) 29 4 (iAdd (K.1 29 4) 1))
              else
                if 62 < f_X12_peek K then
                  (upI (upI (upI (upI (upI K 29 12 (K.1 29 4)) 29 13 0) 29 11 4) 29 14 (f_X12_peek K)) 29 4 (iAdd (K.1 29 4) 1))
                else
                  (upI (upI (upI (upI (upI K 29 12 (K.1 29 4)) 29 13 0) 29 11 3) 29 14 (f_X12_peek K)) 29 4 (iAdd (K.1 29 4) 1))
      else
        (f_X12_nxEnd (f_X12_peek K) (f_X12_isSmall (f_X12_peek K)) (f_X12_run (f_X12_peek K) (f_X12_isSmall (f_X12_peek K)) (K.1 29 3 - K.1 29 4).toNat 1 (upI (upL (upI (upI K 29 12 (K.1 29 4)) 29 13 0) 29 17 0) 29 14 0)).1 (f_X12_run (f_X12_peek K) (f_X12_isSmall (f_X12_peek K)) (K.1 29 3 - K.1 29 4).toNat 1 (upI (upL (upI (upI K 29 12 (K.1 29 4)) 29 13 0) 29 17 0) 29 14 0)).2)
    else
      (f_X12_nxEnd (f_X12_peek K) (f_X12_isSmall (f_X12_peek K)) (f_X12_run (f_X12_peek K) (f_X12_isSmall (f_X12_peek K)) (K.1 29 3 - K.1 29 4).toNat 1 (upI (upL (upI (upI K 29 12 (K.1 29 4)) 29 13 0) 29 17 0) 29 14 0)).1 (f_X12_run (f_X12_peek K) (f_X12_isSmall (f_X12_peek K)) (K.1 29 3 - K.1 29 4).toNat 1 (upI (upL (upI (upI K 29 12 (K.1 29 4)) 29 13 0) 29 17 0) 29 14 0)).2)
theorem pd_mCore_eq (K : hH) : f_X12_nx2 K = if K.1 29 5 < K.1 29 3 then (if K.1 29 4 < K.1 29 5 then pd_mCore K else (upI (upI (upI (upI K 29 12 (K.1 29 4)) 29 13 0) 29 12 (K.1 29 5)) 29 11 4)) else pd_mCore K := rfl
def pd_mFr (K K' : hH) : Prop := (∀ a b, ¬ (a = 29 ∧ (b = 4 ∨ b = 11 ∨ b = 12 ∨ b = 13 ∨ b = 14)) → K'.1 a b = K.1 a b) ∧ (∀ a b, ¬ (a = 29 ∧ b = 17) → K'.2.1 a b = K.2.1 a b) ∧ K'.2.2 = K.2.2
theorem pd_all_bit1 : ∀ (r : List Int), r.all (fun b => decide ((if pd_tLt b = true then 1 else 0 : Int) = 1)) = r.all pd_tLt
  | [] => rfl
  | b :: r => by
    rw [List.all_cons, List.all_cons, pd_all_bit1 r]
    congr 1
    cases h : pd_tLt b <;> simp
theorem pd_all_bit0 : ∀ (r : List Int), (∀ b ∈ r, pd_tAn b = true) → r.all (fun b => decide ((if pd_tLt b = true then 1 else 0 : Int) = 0)) = r.all pd_tDg
  | [], _ => rfl
  | b :: r, h => by
    rw [List.all_cons, List.all_cons, pd_all_bit0 r (fun b hb => h b (List.mem_cons_of_mem _ hb))]
    congr 1
    rcases pd_tAn_or (h b (List.mem_cons_self ..)) with ⟨a1, a2⟩ | ⟨a1, a2⟩ <;> simp [a1, a2]
theorem pd_mRunEnd {B : Nat → Int} {N p : Nat} {K : hH} (hN : N ≤ 940) (hb : pd_hB8 B) (hB : ∀ i, K.1 30 i = B i) (h3 : K.1 29 3 = (N : Int)) (h4 : K.1 29 4 = (p : Int)) (hp : p < N) (ha : pd_tAn (B p) = true) (c s : Int) (hs : s = if pd_tLt (B p) = true then 1 else 0) :
    let R := f_X12_run c s (K.1 29 3 - K.1 29 4).toNat 1 (upI (upL (upI (upI K 29 12 (K.1 29 4)) 29 13 0) 29 17 0) 29 14 0)
    (f_X12_nxEnd c s R.1 R.2).1 29 4 = ((p + (pd_tRun B (N - p) p).length : Nat) : Int) ∧ pd_tR (f_X12_nxEnd c s R.1 R.2) (pd_tRT (pd_tRun B (N - p) p) p) ∧ pd_mFr K (f_X12_nxEnd c s R.1 R.2) := by
  have ek : (K.1 29 3 - K.1 29 4).toNat = N - p := by rw [h3, h4]; omega
  rw [ek, h4]
  obtain ⟨K', e1, e2, e3, e4, e5, e6, e7, e8⟩ := pd_mRun hN hb c s (N - p) p 0 1 (upI (upL (upI (upI K 29 12 (p : Int)) 29 13 0) 29 17 0) 29 14 0) (fun i => by simp [upI, upL, hB]) (by simp [upI, upL, h3]) (by simp [upI, upL, h4]) (by simp [upI, upL]) (by omega) (by omega) (Or.inr rfl)
  intro R
  have hR1 : R.1 = _ := congrArg Prod.fst e1
  have hR2 : R.2 = K' := congrArg Prod.snd e1
  rw [hR1, hR2]
  clear hR1 hR2 R e1
  dsimp only
  have e4 : K'.1 29 14 = ((pd_tRun B (N - p) p).take 3).foldl pd_tDn 0 := by rw [e4]; simp [upI, upL]
  have e5 : K'.2.1 29 17 = ((pd_tRun B (N - p) p).take 7).foldl pd_c8 0 := by rw [e5]; simp [upI, upL]
  have e3 : K'.1 29 13 = (((pd_tRun B (N - p) p).length : Nat) : Int) := by rw [e3, Nat.zero_add]
  have e12 : K'.1 29 12 = (p : Int) := by rw [e6 29 12 (by omega)]; simp [upI, upL]
  have han := pd_tRun_an (B := B) (N - p) p
  have hfr : pd_mFr K K' := by
    refine ⟨fun a b q => ?_, fun a b q => ?_, by rw [e8]; rfl⟩
    · rw [e6 a b (by omega)]; simp only [upI, upL]; rw [if_neg (by omega), if_neg (by omega), if_neg (by omega)]
    · rw [e7 a b q]; simp only [upI, upL]; rw [if_neg q]
  have hhead : ∃ t, pd_tRun B (N - p) p = B p :: t := by
    obtain ⟨k, hk⟩ : ∃ k, N - p = k + 1 := ⟨N - p - 1, by omega⟩
    rw [hk]
    exact ⟨pd_tRun B k (p + 1), if_pos ha⟩
  generalize hr : pd_tRun B (N - p) p = r at *
  have fin : ∀ (v : Int) (t : pd_tT), t.2.2.2 = (p : Int) → v = [4, 0, 3, 2, 1, 1].getD t.1 9 → (t.1 = 2 ∨ t.1 = 3 → K'.1 29 14 = t.2.1) → (t.1 = 4 ∨ t.1 = 5 → K'.2.1 29 17 = pd_tF8 t.2.2.1) → (upI K' 29 11 v).1 29 4 = ((p + r.length : Nat) : Int) ∧ pd_tR (upI K' 29 11 v) t ∧ pd_mFr K (upI K' 29 11 v) := by
    intro v t q1 q2 q3 q4
    refine ⟨by simp [upI]; exact_mod_cast e2, ⟨by simp [upI]; exact q2, fun h => by simp [upI]; exact q3 h, fun h => q4 h, by simp [upI, e12, q1]⟩, fun a b q => ?_, fun a b q => hfr.2.1 a b q, hfr.2.2⟩
    simp only [upI]; rw [if_neg (by omega)]; exact hfr.1 a b q
  unfold f_X12_nxEnd
  rw [e3]
  obtain ⟨tl, htl⟩ := hhead
  rcases pd_tAn_or ha with ⟨a1, a2⟩ | ⟨a1, a2⟩
  · -- digits first
    rw [a2] at hs
    have hs : s = 0 := hs
    subst hs
    rw [pd_all_bit0 r han]
    have hnl : ¬ r.all pd_tLt = true := by
      rw [htl, List.all_cons, a2]; simp
    have hT : pd_tRT r p = if r.all pd_tDg = true ∧ r.length ≤ 3 then (3, r.foldl pd_tDn 0, [], (p : Int)) else (0, 0, [], (p : Int)) := by
      unfold pd_tRT; rw [if_neg (fun q => hnl q.1)]
    by_cases hd : r.all pd_tDg = true
    · rw [if_pos (⟨rfl, hd⟩ : (1 : Int) = 1 ∧ r.all pd_tDg = true), if_neg (show ¬ (1 : Int) = 0 by omega), if_pos (show (0 : Int) = 0 from rfl)]
      by_cases hl : r.length ≤ 3
      · rw [if_neg (show ¬ 3 < ((r.length : Nat) : Int) by omega), if_pos (show (0 : Int) = 0 from rfl)]
        rw [hT, if_pos ⟨hd, hl⟩]
        refine fin 2 _ rfl rfl (fun _ => ?_) (fun h => by simp at h)
        rw [e4, List.take_of_length_le hl]
      · rw [if_pos (show 3 < ((r.length : Nat) : Int) by omega)]
        rw [hT, if_neg (fun q => hl q.2)]
        exact fin 4 _ rfl rfl (fun h => by simp at h) (fun h => by simp at h)
    · rw [if_neg (show ¬ ((1 : Int) = 1 ∧ r.all pd_tDg = true) from fun q => hd q.2), if_pos (show (0 : Int) = 0 from rfl)]
      rw [hT, if_neg (fun q => hd q.1)]
      exact fin 4 _ rfl rfl (fun h => by simp at h) (fun h => by simp at h)
  · rw [a2] at hs
    have hs : s = 1 := hs
    subst hs
    rw [pd_all_bit1 r]
    have hnd : ¬ r.all pd_tDg = true := by
      rw [htl, List.all_cons, a1]; simp
    have hT : pd_tRT r p = if r.all pd_tLt = true ∧ r.length ≤ 7 then (if pd_tIdx r = -1 then (5, 0, r, (p : Int)) else (4, pd_tIdx r, r, (p : Int))) else (0, 0, [], (p : Int)) := by
      unfold pd_tRT; rw [if_neg (show ¬ (r.all pd_tDg = true ∧ r.length ≤ 3) from fun q => hnd q.1)]
    by_cases hd : r.all pd_tLt = true
    · rw [if_pos (⟨rfl, hd⟩ : (1 : Int) = 1 ∧ r.all pd_tLt = true), if_neg (show ¬ (1 : Int) = 0 by omega), if_neg (show ¬ (1 : Int) = 0 by omega)]
      by_cases hl : r.length ≤ 7
      · rw [if_neg (show ¬ 7 < ((r.length : Nat) : Int) by omega), if_neg (show ¬ (1 : Int) = 0 by omega)]
        rw [hT, if_pos ⟨hd, hl⟩]
        have e5' : K'.2.1 29 17 = pd_tF8 r := by rw [e5, List.take_of_length_le hl]; rfl
        by_cases hi : pd_tIdx r = -1
        · rw [if_pos hi]
          exact fin 1 _ rfl rfl (fun h => by simp at h) (fun _ => e5')
        · rw [if_neg hi]
          exact fin 1 _ rfl rfl (fun h => by simp at h) (fun _ => e5')
      · rw [if_pos (show 7 < ((r.length : Nat) : Int) by omega)]
        rw [hT, if_neg (fun q => hl q.2)]
        exact fin 4 _ rfl rfl (fun h => by simp at h) (fun h => by simp at h)
    · rw [if_neg (show ¬ ((1 : Int) = 1 ∧ r.all pd_tLt = true) from fun q => hd q.2), if_pos (show (0 : Int) = 0 from rfl)]
      rw [hT, if_neg (fun q => hd q.1)]
      exact fin 4 _ rfl rfl (fun h => by simp at h) (fun h => by simp at h)
theorem pd_mSg {b : Int} (h1 : -128 ≤ b) (h2 : b ≤ 127) (X Y : hH) : (if (if 0 ≤ b then b else b + 256) = 59 then X else if (if 0 ≤ b then b else b + 256) = 40 then X else if (if 0 ≤ b then b else b + 256) = 41 then X else if (if 0 ≤ b then b else b + 256) < 60 then Y else if 62 < (if 0 ≤ b then b else b + 256) then Y else X) = if pd_tSg b = true then X else Y := by
  have e : pd_tSg b = true ↔ b = 59 ∨ b = 60 ∨ b = 61 ∨ b = 62 ∨ b = 40 ∨ b = 41 := by unfold pd_tSg; simp [or_assoc]
  by_cases h : pd_tSg b = true
  · rw [if_pos h]
    rcases e.mp h with r | r | r | r | r | r <;> (subst r; rfl)
  · rw [if_neg h]
    have hn : ¬ (b = 59 ∨ b = 60 ∨ b = 61 ∨ b = 62 ∨ b = 40 ∨ b = 41) := fun q => h (e.mpr q)
    by_cases h0 : 0 ≤ b
    · have hu : (if 0 ≤ b then b else b + 256) = b := if_pos h0
      rw [hu, if_neg (show ¬ b = 59 by omega), if_neg (show ¬ b = 40 by omega), if_neg (show ¬ b = 41 by omega)]
      by_cases h60 : b < 60
      · rw [if_pos h60]
      · rw [if_neg h60, if_pos (show 62 < b by omega)]
    · have hu : (if 0 ≤ b then b else b + 256) = b + 256 := if_neg h0
      rw [hu, if_neg (show ¬ b + 256 = 59 by omega), if_neg (show ¬ b + 256 = 40 by omega), if_neg (show ¬ b + 256 = 41 by omega), if_neg (show ¬ b + 256 < 60 by omega), if_pos (show 62 < b + 256 by omega)]
theorem pd_mCore_ok {B : Nat → Int} {N lim p : Nat} {K : hH} (hN : N ≤ 940) (hb : pd_hB8 B) (hB : ∀ i, K.1 30 i = B i) (h3 : K.1 29 3 = (N : Int)) (h4 : K.1 29 4 = (p : Int)) (hp : p ≤ N) (hlim : ¬ (lim < N ∧ lim ≤ p)) :
    (pd_mCore K).1 29 4 = (((pd_tTk B lim N p).2 : Nat) : Int) ∧ pd_tR (pd_mCore K) (pd_tTk B lim N p).1 ∧ pd_mFr K (pd_mCore K) := by
  unfold pd_tTk
  rw [if_neg hlim]
  have epk := pd_mPk hB h3 h4
  by_cases hpN : N ≤ p
  · rw [if_pos hpN]
    rw [if_neg (by omega)] at epk
    unfold pd_mCore
    rw [epk, if_pos (show (-1 : Int) < 0 by omega), h4]
    exact ⟨by simp [upI, h4], ⟨by simp [upI], by intro h; simp at h, by intro h; simp at h, by simp [upI]⟩, fun a b q => by simp only [upI]; rw [if_neg (by omega), if_neg (by omega), if_neg (by omega)], fun a b q => rfl, rfl⟩
  · rw [if_neg hpN]
    rw [if_pos (show p < N by omega)] at epk
    have epk2 := pd_pk_ok (hb p).1 (hb p).2
    have hnn : ¬ f_X12_peek K < 0 := by
      rw [epk, epk2]
      have := hb p
      split <;> omega
    by_cases ha : pd_tAn (B p) = true
    · rw [if_pos ha]
      have hh := pd_mRunEnd hN hb hB h3 h4 (by omega) ha (f_X12_peek K) (f_X12_isSmall (f_X12_peek K)) (by rw [epk, pd_mSm hb p])
      dsimp only at hh
      unfold pd_mCore
      rw [if_neg hnn]
      by_cases hS : f_X12_isSmall (f_X12_peek K) = 0
      · rw [if_pos hS]
        have hD : ¬ f_X12_isDigit (f_X12_peek K) = 0 := by
          rw [epk, pd_mDg hb p, pd_if10]
          rw [epk, pd_mSm hb p, pd_if10] at hS
          rcases pd_tAn_or ha with ⟨a1, a2⟩ | ⟨a1, a2⟩
          · rw [a1]; simp
          · rw [hS] at a2; cases a2
        rw [if_neg hD]
        exact hh
      · rw [if_neg hS]
        exact hh
    · rw [if_neg ha]
      have a1 : pd_tDg (B p) = false := by unfold pd_tAn at ha; cases h : pd_tDg (B p) <;> simp_all
      have a2 : pd_tLt (B p) = false := by unfold pd_tAn at ha; cases h : pd_tLt (B p) <;> simp_all
      unfold pd_mCore
      rw [if_neg hnn, if_pos (by rw [epk, pd_mSm hb p, a2]; rfl), if_pos (by rw [epk, pd_mDg hb p, a1]; rfl), epk, epk2, pd_mSg (hb p).1 (hb p).2, h4, pd_iad1 (by omega)]
      cases hs : pd_tSg (B p) with
      | false =>
        rw [if_neg (show ¬ (false = true) by simp), if_neg (show ¬ (false = true) by simp)]
        exact ⟨by simp [upI], ⟨by simp [upI], by intro h; simp at h, by intro h; simp at h, by simp [upI]⟩, fun a b q => by simp only [upI]; rw [if_neg (by omega), if_neg (by omega), if_neg (by omega), if_neg (by omega), if_neg (by omega)], fun a b q => rfl, rfl⟩
      | true =>
        rw [if_pos rfl, if_pos rfl]
        refine ⟨by simp [upI], ⟨by simp [upI], fun _ => ?_, by intro h; simp at h, by simp [upI]⟩, fun a b q => by simp only [upI]; rw [if_neg (by omega), if_neg (by omega), if_neg (by omega), if_neg (by omega), if_neg (by omega)], fun a b q => rfl, rfl⟩
        have h0 : 0 ≤ B p := by
          have e : pd_tSg (B p) = true ↔ B p = 59 ∨ B p = 60 ∨ B p = 61 ∨ B p = 62 ∨ B p = 40 ∨ B p = 41 := by unfold pd_tSg; simp [or_assoc]
          have := e.mp hs
          omega
        rw [if_pos h0]
        simp [upI]
theorem pd_mNext {B : Nat → Int} {N lim p : Nat} {K : hH} (hN : N ≤ 940) (hb : pd_hB8 B) (hB : ∀ i, K.1 30 i = B i) (h3 : K.1 29 3 = (N : Int)) (h5 : K.1 29 5 = (lim : Int)) (h4 : K.1 29 4 = (p : Int)) (hp : p ≤ N) :
    (f_X12_next K).1 29 4 = (((pd_tNx B lim N p).2 : Nat) : Int) ∧ pd_tR (f_X12_next K) (pd_tNx B lim N p).1 ∧ pd_mFr K (f_X12_next K) := by
  unfold f_X12_next pd_tNx
  have ek : (K.1 29 3 - K.1 29 4).toNat = N - p := by rw [h3, h4]; omega
  rw [ek, pd_mBlanks hN hb (N - p) p K hB h3 h4 (by omega)]
  have hs := pd_tSkip_le (B := B) (N - p) p
  generalize pd_tSkip B (N - p) p = q at *
  rw [pd_mCore_eq]
  have hB' : ∀ i, (upI K 29 4 (q : Int)).1 30 i = B i := fun i => by simp [upI, hB]
  have h3' : (upI K 29 4 (q : Int)).1 29 3 = (N : Int) := by simp [upI, h3]
  have h4' : (upI K 29 4 (q : Int)).1 29 4 = (q : Int) := by simp [upI]
  have h5' : (upI K 29 4 (q : Int)).1 29 5 = (lim : Int) := by simp [upI, h5]
  have hfr : ∀ K', pd_mFr (upI K 29 4 (q : Int)) K' → pd_mFr K K' := by
    intro K' h
    refine ⟨fun a b n => ?_, h.2.1, h.2.2⟩
    rw [h.1 a b n]; simp only [upI]; rw [if_neg (by omega)]
  rw [h3', h4', h5']
  have core : ¬ (lim < N ∧ lim ≤ q) → (pd_mCore (upI K 29 4 (q : Int))).1 29 4 = (((pd_tTk B lim N q).2 : Nat) : Int) ∧ pd_tR (pd_mCore (upI K 29 4 (q : Int))) (pd_tTk B lim N q).1 ∧ pd_mFr K (pd_mCore (upI K 29 4 (q : Int))) := by
    intro h
    obtain ⟨c1, c2, c3⟩ := pd_mCore_ok (lim := lim) hN hb hB' h3' h4' (by omega) h
    exact ⟨c1, c2, hfr _ c3⟩
  by_cases hl : lim < N
  · rw [if_pos (show (lim : Int) < (N : Int) by omega)]
    by_cases hq : q < lim
    · rw [if_pos (show (q : Int) < (lim : Int) by omega)]
      exact core (by omega)
    · rw [if_neg (show ¬ (q : Int) < (lim : Int) by omega)]
      unfold pd_tTk
      rw [if_pos (show lim < N ∧ lim ≤ q by omega)]
      exact ⟨by simp [upI], ⟨by simp [upI], by intro h; simp at h, by intro h; simp at h, by simp [upI]⟩, fun a b n => by simp only [upI]; rw [if_neg (by omega), if_neg (by omega), if_neg (by omega), if_neg (by omega), if_neg (by omega)], fun a b n => rfl, rfl⟩
  · rw [if_neg (show ¬ (lim : Int) < (N : Int) by omega)]
    exact core (by omega)
/-- the reference passes the token c -/
theorem pd_LR_next {B : Nat → Int} {lim N c : Nat} {K : hH} (hN : N ≤ 940) (hb : pd_hB8 B) (h : pd_LR B lim N c K) : pd_LR B lim N (c + 1) (f_X12_next K) ∧ pd_mFr K (f_X12_next K) := by
  obtain ⟨h1, h2, h3, h4, h5, h6⟩ := h
  obtain ⟨e1, e2, e3⟩ := pd_mNext (lim := lim) hN hb h4 h2 h3 h1 (pd_tPos_le _)
  refine ⟨⟨e1, ?_, ?_, fun i => ?_, e2, fun i hi => ?_⟩, e3⟩
  · rw [e3.1 29 3 (by omega)]; exact h2
  · rw [e3.1 29 5 (by omega)]; exact h3
  · rw [e3.1 30 i (by omega)]; exact h4 i
  · rw [e3.2.1 35 i (by omega)]; exact h6 i hi
