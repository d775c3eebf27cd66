/-! burden on both sides (by hand). -/
theorem sp_isPersonX {aw : rvH} {t c : Nat} {d : rvV} {ov : List (Nat × rvV)} (hx : exH aw) (hC : HC aw) (hL : hV aw 35 0 (rf t)) (h0 : hV aw t 0 (rf c)) (hc : aw[c]? = some (.inr (0, 4, d, ov))) (k : Int) : PCM rvTab rvInf rvRet 316 rvMth 184 [rf 0, pt k] aw (fun res => res.1 = some (pt (if k < 0 then 0 else if k < ghI aw c 2 then 1 else 0)) ∧ res.2 = aw) := by
  have hj : 184 < 316 := by decide
  have c1 := hC (0, 1, 35) (by decide)
  refine PCM_of (fun _ _ => ?_)
  have key : Pr rvTab rvInf rvRet 316 rvMth 184 (fun res => res.1 = some (pt (if k < 0 then 0 else if k < ghI aw c 2 then 1 else 0)) ∧ res.2 = aw) 0 [rf 0, pt k] [] aw := by
    refine Pr_ld 1 hj rfl rfl rfl rfl ?_
    refine Pr_ifc (t := 24) hj rfl rfl (fun h => ?_) (fun h => ?_)
    · have h : k < 0 := h
      rw [if_pos h]
      refine Pr_cst 25 hj rfl rfl rfl ?_
      exact Pr_ret rfl (Or.inl rfl) ⟨rfl, rfl⟩
    · have h : ¬ k < 0 := h
      rw [if_neg h]
      refine Pr_ld 5 hj rfl rfl rfl rfl ?_
      refine Pr_ld 6 hj rfl rfl rfl rfl ?_
      refine Pr_gfV hj rfl (by decide) rfl c1 ?_
      refine Pr_gfV hj rfl (by decide) rfl hL ?_
      refine Pr_gfV hj rfl (by decide) rfl h0 ?_
      refine Pr_cst 16 hj rfl rfl rfl ?_
      refine Pr_iald (x := 2) hj rfl hc (by omega) ?_
      rw [row_look hx (by omega) hc (by omega : 2 < 4)]
      refine Pr_icmp (t := 24) hj rfl rfl (fun h2 => ?_) (fun h2 => ?_)
      · have h2 : ¬ k < ghI aw c 2 := h2
        rw [if_neg h2]
        refine Pr_cst 25 hj rfl rfl rfl ?_
        exact Pr_ret rfl (Or.inl rfl) ⟨rfl, rfl⟩
      · have h2 : k < ghI aw c 2 := h2
        rw [if_pos h2]
        refine Pr_cst 21 hj rfl rfl rfl ?_
        refine Pr_goto 25 hj rfl rfl ?_
        exact Pr_ret rfl (Or.inl rfl) ⟨rfl, rfl⟩
  exact key 0 0
theorem sp_isMarkX {aw : rvH} {t c : Nat} {d : rvV} {ov : List (Nat × rvV)} (hx : exH aw) (hC : HC aw) (hL : hV aw 35 0 (rf t)) (h0 : hV aw t 0 (rf c)) (hc : aw[c]? = some (.inr (0, 4, d, ov))) (k : Int) : PCM rvTab rvInf rvRet 316 rvMth 209 [rf 0, pt k] aw (fun res => res.1 = some (pt (if k < 0 then 0 else if k < ghI aw c 3 then 1 else 0)) ∧ res.2 = aw) := by
  have hj : 209 < 316 := by decide
  have c1 := hC (0, 1, 35) (by decide)
  refine PCM_of (fun _ _ => ?_)
  have key : Pr rvTab rvInf rvRet 316 rvMth 209 (fun res => res.1 = some (pt (if k < 0 then 0 else if k < ghI aw c 3 then 1 else 0)) ∧ res.2 = aw) 0 [rf 0, pt k] [] aw := by
    refine Pr_ld 1 hj rfl rfl rfl rfl ?_
    refine Pr_ifc (t := 24) hj rfl rfl (fun h => ?_) (fun h => ?_)
    · have h : k < 0 := h
      rw [if_pos h]
      refine Pr_cst 25 hj rfl rfl rfl ?_
      exact Pr_ret rfl (Or.inl rfl) ⟨rfl, rfl⟩
    · have h : ¬ k < 0 := h
      rw [if_neg h]
      refine Pr_ld 5 hj rfl rfl rfl rfl ?_
      refine Pr_ld 6 hj rfl rfl rfl rfl ?_
      refine Pr_gfV hj rfl (by decide) rfl c1 ?_
      refine Pr_gfV hj rfl (by decide) rfl hL ?_
      refine Pr_gfV hj rfl (by decide) rfl h0 ?_
      refine Pr_cst 16 hj rfl rfl rfl ?_
      refine Pr_iald (x := 3) hj rfl hc (by omega) ?_
      rw [row_look hx (by omega) hc (by omega : 3 < 4)]
      refine Pr_icmp (t := 24) hj rfl rfl (fun h2 => ?_) (fun h2 => ?_)
      · have h2 : ¬ k < ghI aw c 3 := h2
        rw [if_neg h2]
        refine Pr_cst 25 hj rfl rfl rfl ?_
        exact Pr_ret rfl (Or.inl rfl) ⟨rfl, rfl⟩
      · have h2 : k < ghI aw c 3 := h2
        rw [if_pos h2]
        refine Pr_cst 21 hj rfl rfl rfl ?_
        refine Pr_goto 25 hj rfl rfl ?_
        exact Pr_ret rfl (Or.inl rfl) ⟨rfl, rfl⟩
  exact key 0 0
theorem sp_isPersonM {aw : rvH} {fs : List rvV} {d : rvV} {ov : List (Nat × rvV)} (hx : exH aw) (hM : MC aw fs) (hc : aw[111]? = some (.inr (0, 296, d, ov))) (hb : 0 ≤ ghI aw 111 2 ∧ ghI aw 111 2 ≤ 10) (k : Int) : PCM rvTab rvInf rvRet 316 rvMth 186 [rf 109, pt k] aw (fun res => res.1 = some (pt (if k < 0 then 0 else if k < ghI aw 111 2 then 1 else 0)) ∧ res.2 = aw) := by
  have hj : 186 < 316 := by decide
  refine PCM_of (fun _ _ => ?_)
  have key : Pr rvTab rvInf rvRet 316 rvMth 186 (fun res => res.1 = some (pt (if k < 0 then 0 else if k < ghI aw 111 2 then 1 else 0)) ∧ res.2 = aw) 0 [rf 109, pt k] [] aw := by
    refine Pr_ld 1 hj rfl rfl rfl rfl ?_
    refine Pr_cst 2 hj rfl rfl rfl ?_
    refine Pr_ld 3 hj rfl rfl rfl rfl ?_
    refine Pr_gfX hj rfl (by decide) hM.1 hM.2.1 ?_
    refine Pr_cst 7 hj rfl rfl rfl ?_
    refine Pr_iald (x := 2) hj rfl hc (by omega) ?_
    rw [row_look hx (by omega) hc (by omega : 2 < 296)]
    refine Pr_cst 9 hj rfl rfl rfl ?_
    refine Pr_bin hj rfl rfl ?_
    have e : iop (· - ·) (ghI aw 111 2) 1 = ghI aw 111 2 - 1 := xi_sub ⟨by omega, by omega⟩ ⟨by omega, by omega⟩ ⟨by omega, by omega⟩
    rw [e]
    refine Pr_callS rfl rfl rfl rfl (sp_isInM k 0 (ghI aw 111 2 - 1) aw) (fun res hr => ?_)
    obtain ⟨r1, r2⟩ := hr
    rw [r1, r2]
    refine Pr_ret rfl (Or.inl rfl) ⟨?_, rfl⟩
    show some (pt (if k < 0 then 0 else if ghI aw 111 2 - 1 < k then 0 else 1)) = _
    by_cases h : k < 0
    · rw [if_pos h, if_pos h]
    · rw [if_neg h, if_neg h]
      by_cases h2 : k < ghI aw 111 2
      · rw [if_pos h2, if_neg (by omega)]
      · rw [if_neg h2, if_pos (by omega)]
  exact key 0 0
theorem sp_isMarkM {aw : rvH} {fs : List rvV} {d : rvV} {ov : List (Nat × rvV)} (hx : exH aw) (hM : MC aw fs) (hc : aw[111]? = some (.inr (0, 296, d, ov))) (hb : 0 ≤ ghI aw 111 3 ∧ ghI aw 111 3 ≤ 3) (k : Int) : PCM rvTab rvInf rvRet 316 rvMth 183 [rf 109, pt k] aw (fun res => res.1 = some (pt (if k < 0 then 0 else if k < ghI aw 111 3 then 1 else 0)) ∧ res.2 = aw) := by
  have hj : 183 < 316 := by decide
  refine PCM_of (fun _ _ => ?_)
  have key : Pr rvTab rvInf rvRet 316 rvMth 183 (fun res => res.1 = some (pt (if k < 0 then 0 else if k < ghI aw 111 3 then 1 else 0)) ∧ res.2 = aw) 0 [rf 109, pt k] [] aw := by
    refine Pr_ld 1 hj rfl rfl rfl rfl ?_
    refine Pr_cst 2 hj rfl rfl rfl ?_
    refine Pr_ld 3 hj rfl rfl rfl rfl ?_
    refine Pr_gfX hj rfl (by decide) hM.1 hM.2.1 ?_
    refine Pr_cst 7 hj rfl rfl rfl ?_
    refine Pr_iald (x := 3) hj rfl hc (by omega) ?_
    rw [row_look hx (by omega) hc (by omega : 3 < 296)]
    refine Pr_cst 9 hj rfl rfl rfl ?_
    refine Pr_bin hj rfl rfl ?_
    have e : iop (· - ·) (ghI aw 111 3) 1 = ghI aw 111 3 - 1 := xi_sub ⟨by omega, by omega⟩ ⟨by omega, by omega⟩ ⟨by omega, by omega⟩
    rw [e]
    refine Pr_callS rfl rfl rfl rfl (sp_isInM k 0 (ghI aw 111 3 - 1) aw) (fun res hr => ?_)
    obtain ⟨r1, r2⟩ := hr
    rw [r1, r2]
    refine Pr_ret rfl (Or.inl rfl) ⟨?_, rfl⟩
    show some (pt (if k < 0 then 0 else if ghI aw 111 3 - 1 < k then 0 else 1)) = _
    by_cases h : k < 0
    · rw [if_pos h, if_pos h]
    · rw [if_neg h, if_neg h]
      by_cases h2 : k < ghI aw 111 3
      · rw [if_pos h2, if_neg (by omega)]
      · rw [if_neg h2, if_pos (by omega)]
  exact key 0 0
theorem ix_X {p m : Nat} (hp : p < 10) (hm : m < 3) : iop (· + ·) (iop (· * ·) (p : Int) 3) (m : Int) = ((3 * p + m : Nat) : Int) := by
  have h : ∀ (p : Fin 10) (m : Fin 3), iop (· + ·) (iop (· * ·) ((p.1 : Nat) : Int) 3) ((m.1 : Nat) : Int) = ((3 * p.1 + m.1 : Nat) : Int) := by decide
  exact h ⟨p, hp⟩ ⟨m, hm⟩
theorem ix_M {p m : Nat} (hp : p < 10) (hm : m < 3) : iop (· + ·) (iop (· + ·) 55 (iop (· * ·) 3 (p : Int))) (m : Int) = ((55 + (3 * p + m) : Nat) : Int) := by
  have h : ∀ (p : Fin 10) (m : Fin 3), iop (· + ·) (iop (· + ·) 55 (iop (· * ·) 3 ((p.1 : Nat) : Int))) ((m.1 : Nat) : Int) = ((55 + (3 * p.1 + m.1) : Nat) : Int) := by decide
  exact h ⟨p, hp⟩ ⟨m, hm⟩
theorem ix_24 {p : Nat} (hp : p < 10) : iop (· + ·) 24 (p : Int) = ((24 + p : Nat) : Int) := by
  have h : ∀ p : Fin 10, iop (· + ·) 24 ((p.1 : Nat) : Int) = ((24 + p.1 : Nat) : Int) := by decide
  exact h ⟨p, hp⟩
/-- what both answer -/
def bA (s : Nat → Int) (k m : Int) : Int := if (0 ≤ k ∧ k < s 2) ∧ (0 ≤ m ∧ m < s 3) then iop (· + ·) (s (24 + k.toNat)) (s (55 + (3 * k.toNat + m.toNat))) else -1
theorem sp_burdenFor {aw : rvH} {t cm ch p m : Nat} {d d2 : rvV} {ov ov2 : List (Nat × rvV)} (hx : exH aw) (h2 : hV aw t 2 (rf cm)) (h3 : hV aw t 3 (rf ch)) (em : aw[cm]? = some (.inr (0, 10, d, ov))) (eh : aw[ch]? = some (.inr (0, 30, d2, ov2))) (hp : p < 10) (hm : m < 3) : PCM rvTab rvInf rvRet 316 rvMth 171 [rf t, pt (p : Int), pt (m : Int)] aw (fun res => res.1 = some (pt (iop (· + ·) (ghI aw cm p) (ghI aw ch (3 * p + m)))) ∧ res.2 = aw) := by
  have hj : 171 < 316 := by decide
  refine PCM_of (fun _ _ => ?_)
  have key : Pr rvTab rvInf rvRet 316 rvMth 171 (fun res => res.1 = some (pt (iop (· + ·) (ghI aw cm p) (ghI aw ch (3 * p + m)))) ∧ res.2 = aw) 0 [rf t, pt (p : Int), pt (m : Int)] [] aw := by
    refine Pr_ld 1 hj rfl rfl rfl rfl ?_
    refine Pr_gfV hj rfl (by decide) rfl h2 ?_
    refine Pr_ld 5 hj rfl rfl rfl rfl ?_
    refine Pr_iald hj rfl em hp ?_
    rw [row_look hx (by omega) em hp]
    refine Pr_ld 7 hj rfl rfl rfl rfl ?_
    refine Pr_gfV hj rfl (by decide) rfl h3 ?_
    refine Pr_ld 11 hj rfl rfl rfl rfl ?_
    refine Pr_cst 12 hj rfl rfl rfl ?_
    refine Pr_bin hj rfl rfl ?_
    refine Pr_ld 14 hj rfl rfl rfl rfl ?_
    refine Pr_bin hj rfl rfl ?_
    rw [ix_X hp hm]
    refine Pr_iald hj rfl eh (by omega) ?_
    rw [row_look hx (by omega) eh (by omega : 3 * p + m < 30)]
    refine Pr_bin hj rfl rfl ?_
    exact Pr_ret rfl (Or.inl rfl) ⟨rfl, rfl⟩
  exact key 0 0
theorem sp_burdenOf {aw : rvH} {fs : List rvV} {d : rvV} {ov : List (Nat × rvV)} {p m : Nat} (hx : exH aw) (hM : MC aw fs) (hc : aw[111]? = some (.inr (0, 296, d, ov))) (hp : p < 10) (hm : m < 3) : PCM rvTab rvInf rvRet 316 rvMth 172 [rf 109, pt (p : Int), pt (m : Int)] aw (fun res => res.1 = some (pt (iop (· + ·) (ghI aw 111 (24 + p)) (ghI aw 111 (55 + (3 * p + m))))) ∧ res.2 = aw) := by
  have hj : 172 < 316 := by decide
  refine PCM_of (fun _ _ => ?_)
  have key : Pr rvTab rvInf rvRet 316 rvMth 172 (fun res => res.1 = some (pt (iop (· + ·) (ghI aw 111 (24 + p)) (ghI aw 111 (55 + (3 * p + m))))) ∧ res.2 = aw) 0 [rf 109, pt (p : Int), pt (m : Int)] [] aw := by
    refine Pr_ld 1 hj rfl rfl rfl rfl ?_
    refine Pr_gfX hj rfl (by decide) hM.1 hM.2.1 ?_
    refine Pr_cst 6 hj rfl rfl rfl ?_
    refine Pr_ld 7 hj rfl rfl rfl rfl ?_
    refine Pr_bin hj rfl rfl ?_
    rw [ix_24 hp]
    refine Pr_iald hj rfl hc (by omega) ?_
    rw [row_look hx (by omega) hc (by omega : 24 + p < 296)]
    refine Pr_ld 10 hj rfl rfl rfl rfl ?_
    refine Pr_gfX hj rfl (by decide) hM.1 hM.2.1 ?_
    refine Pr_cst 15 hj rfl rfl rfl ?_
    refine Pr_cst 16 hj rfl rfl rfl ?_
    refine Pr_ld 17 hj rfl rfl rfl rfl ?_
    refine Pr_bin hj rfl rfl ?_
    refine Pr_bin hj rfl rfl ?_
    refine Pr_ld 20 hj rfl rfl rfl rfl ?_
    refine Pr_bin hj rfl rfl ?_
    rw [ix_M hp hm]
    refine Pr_iald hj rfl hc (by omega) ?_
    rw [row_look hx (by omega) hc (by omega : 55 + (3 * p + m) < 296)]
    refine Pr_bin hj rfl rfl ?_
    exact Pr_ret rfl (Or.inl rfl) ⟨rfl, rfl⟩
  exact key 0 0
theorem sp_burdenX {aw : rvH} {t c cm ch : Nat} {d d1 d2 : rvV} {ov ov1 ov2 : List (Nat × rvV)} {s : Nat → Int} (hx : exH aw) (hC : HC aw) (hL : hV aw 35 0 (rf t)) (h0 : hV aw t 0 (rf c)) (h2 : hV aw t 2 (rf cm)) (h3 : hV aw t 3 (rf ch)) (hc : aw[c]? = some (.inr (0, 4, d, ov))) (em : aw[cm]? = some (.inr (0, 10, d1, ov1))) (eh : aw[ch]? = some (.inr (0, 30, d2, ov2))) (hs : ∀ i, i < 4 → ghI aw c i = s i) (hs2 : ∀ i, i < 10 → ghI aw cm i = s (24 + i)) (hs3 : ∀ i, i < 30 → ghI aw ch i = s (55 + i)) (b2 : s 2 ≤ 10) (b3 : s 3 ≤ 3) (k m : Int) : PCM rvTab rvInf rvRet 316 rvMth 239 [rf 0, pt k, pt m] aw (fun res => res.1 = some (pt (bA s k m)) ∧ res.2 = aw) := by
  have hj : 239 < 316 := by decide
  have c1 := hC (0, 1, 35) (by decide)
  refine PCM_of (fun _ _ => ?_)
  have out : ¬ ((0 ≤ k ∧ k < s 2) ∧ (0 ≤ m ∧ m < s 3)) → ∀ st, Pr rvTab rvInf rvRet 316 rvMth 239 (fun res => res.1 = some (pt (bA s k m)) ∧ res.2 = aw) 31 [rf 0, pt k, pt m] st aw := by
    intro h st
    have e : bA s k m = -1 := if_neg h
    rw [e]
    refine Pr_cst 32 hj rfl rfl rfl ?_
    exact Pr_ret rfl (Or.inl rfl) ⟨rfl, rfl⟩
  have key : Pr rvTab rvInf rvRet 316 rvMth 239 (fun res => res.1 = some (pt (bA s k m)) ∧ res.2 = aw) 0 [rf 0, pt k, pt m] [] aw := by
    refine Pr_ld 1 hj rfl rfl rfl rfl ?_
    refine Pr_ld 2 hj rfl rfl rfl rfl ?_
    refine Pr_callV rfl (Or.inl ⟨_, rfl⟩) rfl rfl (sp_isPersonX hx hC hL h0 hc k) (fun res hr => ?_)
    obtain ⟨r1, r2⟩ := hr
    rw [r1, r2, hs 2 (by omega)]
    refine Pr_ifc (t := 31) hj rfl rfl (fun h => ?_) (fun h => ?_)
    · refine out (fun q => ?_) _
      have h : (if k < 0 then (0 : Int) else if k < s 2 then 1 else 0) = 0 := h
      rw [if_neg (by omega), if_pos q.1.2] at h
      cases h
    · have hk : 0 ≤ k ∧ k < s 2 := by
        have h : ¬ (if k < 0 then (0 : Int) else if k < s 2 then 1 else 0) = 0 := h
        by_cases c : k < 0
        · rw [if_pos c] at h; exact absurd rfl h
        · rw [if_neg c] at h
          by_cases c2 : k < s 2
          · exact ⟨by omega, c2⟩
          · rw [if_neg c2] at h; exact absurd rfl h
      refine Pr_ld 9 hj rfl rfl rfl rfl ?_
      refine Pr_ld 10 hj rfl rfl rfl rfl ?_
      refine Pr_callV rfl (Or.inl ⟨_, rfl⟩) rfl rfl (sp_isMarkX hx hC hL h0 hc m) (fun res hr => ?_)
      obtain ⟨r1, r2⟩ := hr
      rw [r1, r2, hs 3 (by omega)]
      refine Pr_ifc (t := 31) hj rfl rfl (fun h => ?_) (fun h => ?_)
      · refine out (fun q => ?_) _
        have h : (if m < 0 then (0 : Int) else if m < s 3 then 1 else 0) = 0 := h
        rw [if_neg (by omega), if_pos q.2.2] at h
        cases h
      · have hm : 0 ≤ m ∧ m < s 3 := by
          have h : ¬ (if m < 0 then (0 : Int) else if m < s 3 then 1 else 0) = 0 := h
          by_cases c : m < 0
          · rw [if_pos c] at h; exact absurd rfl h
          · rw [if_neg c] at h
            by_cases c2 : m < s 3
            · exact ⟨by omega, c2⟩
            · rw [if_neg c2] at h; exact absurd rfl h
        obtain ⟨p, rfl⟩ : ∃ n : Nat, k = (n : Int) := ⟨k.toNat, by omega⟩
        obtain ⟨q, rfl⟩ : ∃ n : Nat, m = (n : Int) := ⟨m.toNat, by omega⟩
        have e : bA s (p : Int) (q : Int) = iop (· + ·) (s (24 + p)) (s (55 + (3 * p + q))) := by
          unfold bA
          rw [if_pos ⟨hk, hm⟩, Int.toNat_natCast, Int.toNat_natCast]
        rw [e]
        refine Pr_ld 17 hj rfl rfl rfl rfl ?_
        refine Pr_gfV hj rfl (by decide) rfl c1 ?_
        refine Pr_gfV hj rfl (by decide) rfl hL ?_
        refine Pr_ld 24 hj rfl rfl rfl rfl ?_
        refine Pr_ld 25 hj rfl rfl rfl rfl ?_
        refine Pr_callV rfl (Or.inl ⟨_, rfl⟩) rfl rfl (sp_burdenFor hx h2 h3 em eh (by omega : p < 10) (by omega : q < 3)) (fun res hr => ?_)
        obtain ⟨r1, r2⟩ := hr
        rw [r1, r2, hs2 p (by omega), hs3 (3 * p + q) (by omega)]
        refine Pr_goto 32 hj rfl rfl ?_
        exact Pr_ret rfl (Or.inl rfl) ⟨rfl, rfl⟩
  exact key 0 0
theorem sp_burdenM {aw : rvH} {fs : List rvV} {d : rvV} {ov : List (Nat × rvV)} (hx : exH aw) (hM : MC aw fs) (hc : aw[111]? = some (.inr (0, 296, d, ov))) (b2 : 0 ≤ ghI aw 111 2 ∧ ghI aw 111 2 ≤ 10) (b3 : 0 ≤ ghI aw 111 3 ∧ ghI aw 111 3 ≤ 3) (k m : Int) : PCM rvTab rvInf rvRet 316 rvMth 240 [rf 109, pt k, pt m] aw (fun res => res.1 = some (pt (bA (ghI aw 111) k m))) := by
  have hj : 240 < 316 := by decide
  refine PCM_of (fun _ _ => ?_)
  have key : Pr rvTab rvInf rvRet 316 rvMth 240 (fun res => res.1 = some (pt (bA (ghI aw 111) k m))) 0 [rf 109, pt k, pt m] [] aw := by
    refine Pr_ld 1 hj rfl rfl rfl rfl ?_
    refine Pr_cst 2 hj rfl rfl rfl ?_
    refine Pr_pfX hj rfl hM.1 ?_
    obtain ⟨aw1, haw1⟩ : ∃ aw1, aw1 = aw.set 109 (.inl (12, fs.set 0 (pt 0))) := ⟨_, rfl⟩
    have hl := (List.getElem?_eq_some_iff.mp hM.1).1
    rw [← haw1]
    have hM1 : MC aw1 (fs.set 0 (pt 0)) := by
      refine ⟨by rw [haw1]; exact List.getElem?_set_self hl, ?_, ?_, ?_⟩
      · rw [List.getElem?_set_ne (by decide)]; exact hM.2.1
      · rw [List.getElem?_set_ne (by decide)]; exact hM.2.2.1
      · rw [List.getElem?_set_ne (by decide)]; exact hM.2.2.2
    have hx1 : exH aw1 := by
      rw [haw1]
      exact exH_set hx (exC_set (exH_get hx hM.1) ⟨⟨rfl, by decide, by decide⟩, _, rfl⟩)
    have hc1 : aw1[111]? = some (.inr (0, 296, d, ov)) := by rw [haw1, List.getElem?_set_ne (by omega)]; exact hc
    have hs : ∀ i, ghI aw1 111 i = ghI aw 111 i := fun i => ghI_same (by rw [hc1, hc]) i
    have out : ¬ ((0 ≤ k ∧ k < ghI aw 111 2) ∧ (0 ≤ m ∧ m < ghI aw 111 3)) → ∀ st, Pr rvTab rvInf rvRet 316 rvMth 240 (fun res => res.1 = some (pt (bA (ghI aw 111) k m))) 30 [rf 109, pt k, pt m] st aw1 := by
      intro h st
      have e : bA (ghI aw 111) k m = -1 := if_neg h
      rw [e]
      refine Pr_cst 31 hj rfl rfl rfl ?_
      exact Pr_ret rfl (Or.inl rfl) rfl
    refine Pr_ld 6 hj rfl rfl rfl rfl ?_
    refine Pr_ld 7 hj rfl rfl rfl rfl ?_
    refine Pr_callV rfl (Or.inl ⟨_, rfl⟩) rfl rfl (sp_isPersonM hx1 hM1 hc1 (by rw [hs]; exact b2) k) (fun res hr => ?_)
    obtain ⟨r1, r2⟩ := hr
    rw [r1, r2, hs 2]
    refine Pr_ifc (t := 30) hj rfl rfl (fun h => ?_) (fun h => ?_)
    · refine out (fun q => ?_) _
      have h : (if k < 0 then (0 : Int) else if k < ghI aw 111 2 then 1 else 0) = 0 := h
      rw [if_neg (by omega), if_pos q.1.2] at h
      cases h
    · have hk : 0 ≤ k ∧ k < ghI aw 111 2 := by
        have h : ¬ (if k < 0 then (0 : Int) else if k < ghI aw 111 2 then 1 else 0) = 0 := h
        by_cases c : k < 0
        · rw [if_pos c] at h; exact absurd rfl h
        · rw [if_neg c] at h
          by_cases c2 : k < ghI aw 111 2
          · exact ⟨by omega, c2⟩
          · rw [if_neg c2] at h; exact absurd rfl h
      refine Pr_ld 14 hj rfl rfl rfl rfl ?_
      refine Pr_ld 15 hj rfl rfl rfl rfl ?_
      refine Pr_callV rfl (Or.inl ⟨_, rfl⟩) rfl rfl (sp_isMarkM hx1 hM1 hc1 (by rw [hs]; exact b3) m) (fun res hr => ?_)
      obtain ⟨r1, r2⟩ := hr
      rw [r1, r2, hs 3]
      refine Pr_ifc (t := 30) hj rfl rfl (fun h => ?_) (fun h => ?_)
      · refine out (fun q => ?_) _
        have h : (if m < 0 then (0 : Int) else if m < ghI aw 111 3 then 1 else 0) = 0 := h
        rw [if_neg (by omega), if_pos q.2.2] at h
        cases h
      · have hm : 0 ≤ m ∧ m < ghI aw 111 3 := by
          have h : ¬ (if m < 0 then (0 : Int) else if m < ghI aw 111 3 then 1 else 0) = 0 := h
          by_cases c : m < 0
          · rw [if_pos c] at h; exact absurd rfl h
          · rw [if_neg c] at h
            by_cases c2 : m < ghI aw 111 3
            · exact ⟨by omega, c2⟩
            · rw [if_neg c2] at h; exact absurd rfl h
        obtain ⟨p, rfl⟩ : ∃ n : Nat, k = (n : Int) := ⟨k.toNat, by omega⟩
        obtain ⟨q, rfl⟩ : ∃ n : Nat, m = (n : Int) := ⟨m.toNat, by omega⟩
        have e : bA (ghI aw 111) (p : Int) (q : Int) = iop (· + ·) (ghI aw 111 (24 + p)) (ghI aw 111 (55 + (3 * p + q))) := by
          unfold bA
          rw [if_pos ⟨hk, hm⟩, Int.toNat_natCast, Int.toNat_natCast]
        rw [e]
        refine Pr_ld 22 hj rfl rfl rfl rfl ?_
        refine Pr_ld 23 hj rfl rfl rfl rfl ?_
        refine Pr_ld 24 hj rfl rfl rfl rfl ?_
        refine Pr_callV rfl (Or.inl ⟨_, rfl⟩) rfl rfl (sp_burdenOf hx1 hM1 hc1 (by omega : p < 10) (by omega : q < 3)) (fun res hr => ?_)
        obtain ⟨r1, r2⟩ := hr
        rw [r1, r2, hs, hs]
        refine Pr_goto 31 hj rfl rfl ?_
        exact Pr_ret rfl (Or.inl rfl) rfl
  exact key 0 0
