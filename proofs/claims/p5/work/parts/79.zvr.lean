/-! Both sides read a book alike (by hand). -/
set_option linter.unusedSimpArgs false
section BN
variable {B : Nat → Int} {N T c n : Nat} {H K : hH}
/-- where both stand in the same book -/
def bI (B : Nat → Int) (N T c n : Nat) (H K : hH) : Prop := pd_LC B 400 N T c H ∧ pd_LR B 400 N c K ∧ sN H K ∧ H.1 15 3 = (n : Int) ∧ K.1 29 42 = (n : Int) ∧ K.1 29 15 = 0
theorem bI_adv (hN : N ≤ 940) (hb : pd_hB8 B) (h : bI B N T c n H K) (hk : 2 ≤ (pd_tTok B 400 N c).1) : bI B N T (c + 1) n (f_X9_advance H) (f_X12_next K) := by
  obtain ⟨h1, h2, h3, h4, h5, h6⟩ := h
  obtain ⟨a1, a2, a3, a4⟩ := pd_LC_adv h1 hk
  obtain ⟨b1, b2, b3, b4⟩ := pd_LR_next hN hb h2
  exact ⟨a1, b1, sN_keep h3 (fun b => a2 53 b (by omega)) (fun b => a3 54 b (by omega)) (fun b _ => b2 31 b (by omega)) (fun b => b3 34 b (by omega)), by rw [a2 15 3 (by omega)]; exact h4, by rw [b2 29 42 (by omega)]; exact h5, by rw [b2 29 15 (by omega)]; exact h6⟩
/-- the class writes its own rows -/
theorem bI_x (h : bI B N T c n H K) {p j : Nat} {v : Int} (hp : p = 16 ∨ p = 17 ∨ p = 18) : bI B N T c n (upI H p j v) K := by
  obtain ⟨h1, h2, h3, h4, h5, h6⟩ := h
  exact ⟨pd_LC_keep h1 (fun a b _ _ => pd_upI_ne (by omega)) (fun a b _ _ => rfl), h2, sN_keep h3 (fun b => pd_upI_ne (by omega)) (fun b => rfl) (fun _ _ => rfl) (fun _ => rfl), by rw [pd_upI_ne (by omega)]; exact h4, h5, h6⟩
/-- the reference writes its own -/
theorem bI_m (h : bI B N T c n H K) {j : Nat} {v : Int} : bI B N T c n H (upI K 33 j v) := by
  obtain ⟨h1, h2, h3, h4, h5, h6⟩ := h
  exact ⟨h1, pd_LR_keep h2 (fun b => Or.inl (pd_upI_ne (by omega))) (fun b => pd_upI_ne (by omega)) (fun b => rfl) (fun b => rfl), sN_keep h3 (fun _ => rfl) (fun _ => rfl) (fun b _ => pd_upI_ne (by omega)) (fun _ => rfl), h4, by rw [pd_upI_ne (by omega)]; exact h5, by rw [pd_upI_ne (by omega)]; exact h6⟩
theorem bI_18 (h : bI B N T c n H K) (v : Int) : bI B N T c n H (upI K 29 18 v) := by
  obtain ⟨h1, h2, h3, h4, h5, h6⟩ := h
  exact ⟨h1, pd_LR_18 h2 v, sN_keep h3 (fun _ => rfl) (fun _ => rfl) (fun b _ => pd_upI_ne (by omega)) (fun _ => rfl), h4, by rw [pd_upI_ne (by omega)]; exact h5, by rw [pd_upI_ne (by omega)]; exact h6⟩
theorem FL_x (h : pd_FL H K) {p j : Nat} {v : Int} (hp : p ≠ 4) : pd_FL (upI H p j v) K := by
  unfold pd_FL at h ⊢
  rw [pd_upI_ne (by omega), pd_upI_ne (by omega)]
  exact h
/-- the results of a reader of both -/
def bX (B : Nat → Int) (N T n : Nat) (x y : Int × hH) : Prop := (x.1 = 0 ∧ y.1 = 0 ∧ pd_FL x.2 y.2) ∨ (¬ x.1 = 0 ∧ ¬ y.1 = 0 ∧ ∃ c', bI B N T c' n x.2 y.2)
def bkWhat (m b : Int) (s : Nat) (K : hH) : Int × hH := if (f_X12_takesName b (K.1 31 s) K).1 = 0 then (0, (f_X12_takesName b (K.1 31 s) K).2) else (1, upI (f_X12_takesName b (K.1 31 s) K).2 33 (iAdd (iMul 3 m) 2).toNat ((f_X12_takesName b (K.1 31 s) K).2.1 29 18))
def bxWhat (s : Int) (H : hH) : Int × hH := if (f_Y9_named s H).1 = (-1) then (0, (f_Y9_named s H).2) else (1, f_X9_advance (upI (f_Y9_named s H).2 18 ((f_Y9_named s H).2.1 15 3).toNat ((f_Y9_named s H).1)))
theorem bk_what (hN : N ≤ 940) (hb : pd_hB8 B) (h : bI B N T c n H K) (m : Int) {s : Nat} (hs : s < 4) : bX B N T n (bxWhat (s : Int) H) (bkWhat m ((sn_base s : Nat) : Int) s K) := by
  have ht : ∀ a b, f_X12_takesName a b K = if (f_X12_looksAt a b K).1 = 0 then (0, (f_X12_looksAt a b K).2) else (1, f_X12_next (f_X12_looksAt a b K).2) := fun a b => rfl
  unfold bxWhat bkWhat
  rw [ht]
  rcases sn_named h.1 h.2.1 h.2.2.1 hs with ⟨a1, a2, a3⟩ | ⟨q, a1, a2, a3⟩
  · left
    rw [if_pos a1, if_pos a2, if_pos (show ((0 : Int), (f_X12_looksAt ((sn_base s : Nat) : Int) (K.1 31 s) K).2).1 = 0 from rfl)]
    exact ⟨rfl, rfl, a3⟩
  · right
    rw [a1, a2, if_neg (show ¬ ((q : Int) = -1) by omega), if_neg (show ¬ ((1 : Int) = 0) by omega), if_neg (show ¬ ((1 : Int) = 0) by omega)]
    exact ⟨by show ¬ (1 : Int) = 0; omega, by show ¬ (1 : Int) = 0; omega, c + 1, bI_m (bI_adv hN hb (bI_x (bI_18 h _) (Or.inr (Or.inr rfl))) a3)⟩
def bkDeed (m : Int) (K : hH) : Int × hH :=
  if f_X12_isWord 1734702195 K = 0 then
    if f_X12_isWord 465726301555 K = 0 then
      if f_X12_isWord 470021465459 K = 0 then
        if f_X12_isWord 119182682645875 K = 0 then
          if f_X12_isWord 427071202675 K = 0 then ((f_X12_bad 1 K).1, (f_X12_bad 1 K).2)
          else (1, f_X12_next (upI K 33 (iMul 3 m).toNat 4))
        else (1, f_X12_next (upI K 33 (iMul 3 m).toNat 3))
      else bkWhat m 0 0 (f_X12_next (upI K 33 (iMul 3 m).toNat 2))
    else bkWhat m 17 3 (f_X12_next (upI K 33 (iMul 3 m).toNat 1))
  else bkWhat m 17 3 (f_X12_next (upI K 33 (iMul 3 m).toNat 0))
def bxPut (H : hH) : hH := upI (upI (f_X9_advance H) 16 ((f_X9_advance H).1 15 3).toNat (H.1 4 11)) 18 ((f_X9_advance H).1 15 3).toNat 0
theorem bx_deed (H : hH) : f_X0_readDeed H = if H.1 4 10 = 4 then (if f_X11_isWithin (H.1 4 11) 10 14 = 0 then ((f_X9_fail 1 H).1, (f_X9_fail 1 H).2) else if H.1 4 11 = 13 then (1, bxPut H) else if H.1 4 11 = 14 then (1, bxPut H) else if H.1 4 11 = 12 then bxWhat 0 (bxPut H) else bxWhat 3 (bxPut H)) else ((f_X9_fail 1 H).1, (f_X9_fail 1 H).2) := rfl
theorem bk_deed (hN : N ≤ 940) (hb : pd_hB8 B) (h : bI B N T c n H K) (m : Int) : bX B N T n (f_X0_readDeed H) (bkDeed m K) := by
  have hc := h.1.2.2.2.2.2.2.1
  have w : ∀ {i : Nat} {x : Int64}, i < 23 → x = pd_tF8 (pd_tW.getD i []) → f_X12_isWord x K = if sW B 400 N c i then 1 else 0 := fun hi hx => sn_wd h.2.1 hi hx
  have w10 := w (i := 10) (x := 1734702195) (by omega) (by decide)
  have w11 := w (i := 11) (x := 465726301555) (by omega) (by decide)
  have w12 := w (i := 12) (x := 470021465459) (by omega) (by decide)
  have w13 := w (i := 13) (x := 119182682645875) (by omega) (by decide)
  have w14 := w (i := 14) (x := 427071202675) (by omega) (by decide)
  have bad : (¬ ∃ i : Nat, 10 ≤ i ∧ i ≤ 14 ∧ sW B 400 N c i) → f_X0_readDeed H = ((f_X9_fail 1 H).1, (f_X9_fail 1 H).2) → bX B N T n (f_X0_readDeed H) (bkDeed m K) := by
    intro hno e
    have no : ∀ i : Nat, 10 ≤ i → i ≤ 14 → ¬ sW B 400 N c i := fun i h1 h2 q => hno ⟨i, h1, h2, q⟩
    left
    rw [e]
    unfold bkDeed
    rw [w10, if_neg (no 10 (by omega) (by omega)), if_pos rfl, w11, if_neg (no 11 (by omega) (by omega)), if_pos rfl, w12, if_neg (no 12 (by omega) (by omega)), if_pos rfl, w13, if_neg (no 13 (by omega) (by omega)), if_pos rfl, w14, if_neg (no 14 (by omega) (by omega)), if_pos rfl]
    exact ⟨rfl, rfl, pd_FL_fail h.1 h.2.1 (by omega)⟩
  by_cases h4 : (pd_tTok B 400 N c).1 = 4
  · have e10 : H.1 4 10 = 4 := by rw [hc.1, h4]; rfl
    have e11 : H.1 4 11 = (pd_tTok B 400 N c).2.1 := hc.2.1 (by omega)
    by_cases hr : 10 ≤ (pd_tTok B 400 N c).2.1 ∧ (pd_tTok B 400 N c).2.1 ≤ 14
    · have hwi : ¬ f_X11_isWithin (H.1 4 11) 10 14 = 0 := by
        rw [e11]
        unfold f_X11_isWithin
        rw [if_neg (by omega), if_neg (by omega)]
        omega
      have no : ∀ i : Nat, ¬ (pd_tTok B 400 N c).2.1 = (i : Int) → ¬ sW B 400 N c i := fun i q x => q x.2
      have hp : ∀ v, bI B N T (c + 1) n (bxPut H) (f_X12_next (upI K 33 (iMul 3 m).toNat v)) := fun v => bI_x (bI_x (bI_adv hN hb (bI_m h) (by omega)) (Or.inl rfl)) (Or.inr (Or.inr rfl))
      rw [bx_deed, if_pos e10, if_neg hwi, e11]
      unfold bkDeed
      have hcase : (pd_tTok B 400 N c).2.1 = 10 ∨ (pd_tTok B 400 N c).2.1 = 11 ∨ (pd_tTok B 400 N c).2.1 = 12 ∨ (pd_tTok B 400 N c).2.1 = 13 ∨ (pd_tTok B 400 N c).2.1 = 14 := by omega
      rcases hcase with e | e | e | e | e
      · rw [if_neg (by omega), if_neg (by omega), if_neg (by omega), w10, if_pos (show sW B 400 N c 10 from ⟨h4, e⟩), if_neg (show ¬ ((1 : Int) = 0) by omega)]
        exact bk_what hN hb (hp 0) m (s := 3) (by omega)
      · rw [if_neg (by omega), if_neg (by omega), if_neg (by omega), w10, if_neg (no 10 (by omega)), if_pos rfl, w11, if_pos (show sW B 400 N c 11 from ⟨h4, e⟩), if_neg (show ¬ ((1 : Int) = 0) by omega)]
        exact bk_what hN hb (hp 1) m (s := 3) (by omega)
      · rw [if_neg (by omega), if_neg (by omega), if_pos e, w10, if_neg (no 10 (by omega)), if_pos rfl, w11, if_neg (no 11 (by omega)), if_pos rfl, w12, if_pos (show sW B 400 N c 12 from ⟨h4, e⟩), if_neg (show ¬ ((1 : Int) = 0) by omega)]
        exact bk_what hN hb (hp 2) m (s := 0) (by omega)
      · rw [if_pos e, w10, if_neg (no 10 (by omega)), if_pos rfl, w11, if_neg (no 11 (by omega)), if_pos rfl, w12, if_neg (no 12 (by omega)), if_pos rfl, w13, if_pos (show sW B 400 N c 13 from ⟨h4, e⟩), if_neg (show ¬ ((1 : Int) = 0) by omega)]
        exact Or.inr ⟨by show ¬ (1 : Int) = 0; omega, by show ¬ (1 : Int) = 0; omega, c + 1, hp 3⟩
      · rw [if_neg (by omega), if_pos e, w10, if_neg (no 10 (by omega)), if_pos rfl, w11, if_neg (no 11 (by omega)), if_pos rfl, w12, if_neg (no 12 (by omega)), if_pos rfl, w13, if_neg (no 13 (by omega)), if_pos rfl, w14, if_pos (show sW B 400 N c 14 from ⟨h4, e⟩), if_neg (show ¬ ((1 : Int) = 0) by omega)]
        exact Or.inr ⟨by show ¬ (1 : Int) = 0; omega, by show ¬ (1 : Int) = 0; omega, c + 1, hp 4⟩
    · refine bad (fun ⟨i, h1, h2, q⟩ => hr (by rw [q.2]; omega)) ?_
      rw [bx_deed, if_pos e10, if_pos]
      rw [e11]
      unfold f_X11_isWithin
      by_cases q : (pd_tTok B 400 N c).2.1 < 10
      · rw [if_pos q]
      · rw [if_neg q, if_pos (by omega)]
  · refine bad (fun ⟨i, h1, h2, q⟩ => h4 q.1) ?_
    rw [bx_deed, if_neg]
    rw [hc.1]
    omega
def bkYear (m : Int) (K : hH) : Int × hH := if (f_X12_takes 1 60 K).1 = 0 then (0, (f_X12_takes 1 60 K).2) else (1, upI (f_X12_takes 1 60 K).2 33 (iAdd (iMul 3 m) 1).toNat ((f_X12_takes 1 60 K).2.1 29 18))
theorem bk_year (hN : N ≤ 940) (hb : pd_hB8 B) (h : bI B N T c n H K) (m : Int) : bX B N T n (f_X0_readYear H) (bkYear m K) := by
  unfold f_X0_readYear bkYear
  rcases pd_pNumber h.1 h.2.1 1 60 with ⟨a1, a2, a3⟩ | ⟨q, a1, a2, a3, a4, a5⟩
  · left
    rw [if_pos a1, if_pos a2]
    exact ⟨rfl, rfl, FL_x (FL_x a3 (by omega)) (by omega)⟩
  · right
    rw [a1, a2, if_neg (show ¬ (q = -1) by omega), if_neg (show ¬ ((1 : Int) = 0) by omega)]
    exact ⟨by show ¬ (1 : Int) = 0; omega, by show ¬ (1 : Int) = 0; omega, c + 1, bI_m (bI_x (bI_x (bI_adv hN hb (bI_18 h _) a5) (Or.inl rfl)) (Or.inr (Or.inr rfl)))⟩
/-- what both say of a line and its sign -/
def bL (B : Nat → Int) (N T n : Nat) (x y : Int × hH) : Prop :=
  (x.1 = 0 ∧ (y.1 = 0 ∧ pd_FL x.2 y.2 ∨ ¬ y.1 = 0 ∧ (f_X12_sign 59 y.2).1 = 0 ∧ pd_FL x.2 (f_X12_sign 59 y.2).2)) ∨ (¬ x.1 = 0 ∧ ¬ y.1 = 0 ∧ ¬ (f_X12_sign 59 y.2).1 = 0 ∧ n < 40 ∧ ∃ c', bI B N T c' (n + 1) x.2 (upI (f_X12_sign 59 y.2).2 29 42 (iAdd ((f_X12_sign 59 y.2).2.1 29 42) 1)))
def bxEnd (r : Int × hH) : Int × hH := if r.1 = 0 then (0, upI r.2 15 3 (iAdd (r.2.1 15 3) 1)) else if (f_X9_passSign 59 (upI r.2 15 3 (iAdd (r.2.1 15 3) 1))).1 = 0 then (0, (f_X9_passSign 59 (upI r.2 15 3 (iAdd (r.2.1 15 3) 1))).2) else (1, (f_X9_passSign 59 (upI r.2 15 3 (iAdd (r.2.1 15 3) 1))).2)
theorem bk_end (hN : N ≤ 940) (hb : pd_hB8 B) {x y : Int × hH} (h : bX B N T n x y) (hn : n < 40) : bL B N T n (bxEnd x) y := by
  unfold bxEnd
  rcases h with ⟨h1, h2, h3⟩ | ⟨h1, h2, c', h3⟩
  · left
    rw [if_pos h1]
    exact ⟨rfl, Or.inl ⟨h2, FL_x h3 (by omega)⟩⟩
  · rw [if_neg h1]
    have hx : pd_LC B 400 N T c' (upI x.2 15 3 (iAdd (x.2.1 15 3) 1)) := pd_LC_keep h3.1 (fun a b _ _ => pd_upI_ne (by omega)) (fun a b _ _ => rfl)
    rcases pd_pSign hx h3.2.1 59 with ⟨a1, a2, a3⟩ | ⟨a1, a2, a3⟩
    · left
      rw [if_pos a1]
      exact ⟨rfl, Or.inr ⟨h2, a2, a3⟩⟩
    · right
      rw [a1, a2, if_neg (show ¬ ((1 : Int) = 0) by omega)]
      refine ⟨by show ¬ (1 : Int) = 0; omega, h2, by show ¬ (1 : Int) = 0; omega, hn, c' + 1, ?_⟩
      obtain ⟨d1, d2, d3, d4, d5, d6⟩ := h3
      obtain ⟨p1, p2, p3, p4⟩ := pd_LC_adv hx a3
      obtain ⟨b1, b2, b3, b4⟩ := pd_LR_next hN hb d2
      refine ⟨p1, pd_LR_keep b1 (fun b => ?_) (fun b => pd_upI_ne (by omega)) (fun b => rfl) (fun b => rfl), sN_keep d3 (fun b => ?_) (fun b => ?_) (fun b _ => ?_) (fun b => b3 34 b (by omega)), ?_, ?_, ?_⟩
      · by_cases e : b = 42
        · right; omega
        · left; exact pd_upI_ne (by omega)
      · rw [p2 53 b (by omega), pd_upI_ne (by omega)]
      · rw [p3 54 b (by omega)]; rfl
      · show (upI (f_X12_next y.2) 29 42 _).1 31 b = _
        rw [pd_upI_ne (by omega), b2 31 b (by omega)]
      · rw [p2 15 3 (by omega), pd_upI_at, d4]
        exact pd_iad1 (by omega)
      · show (upI (f_X12_next y.2) 29 42 (iAdd ((f_X12_next y.2).1 29 42) 1)).1 29 42 = _
        rw [pd_upI_at, b2 29 42 (by omega), d5]
        exact pd_iad1 (by omega)
      · show (upI (f_X12_next y.2) 29 42 _).1 29 15 = _
        rw [pd_upI_ne (by omega), b2 29 15 (by omega)]
        exact d6
def bxGo (p : Int) (H : hH) : hH := upI (f_X9_advance H) 17 ((f_X9_advance H).1 15 3).toNat p
theorem bx_line (H : hH) : f_X0_readLine H = if f_X9_isAtWord 15 H = 0 then (if (f_Y9_named 2 H).1 = (-1) then (0, (f_Y9_named 2 H).2) else if (f_Y9_named 2 H).2.1 15 3 < 40 then (if f_X9_isAtWord 15 H = 0 then bxEnd (f_X0_readDeed (bxGo (f_Y9_named 2 H).1 (f_Y9_named 2 H).2)) else bxEnd (f_X0_readYear (bxGo (f_Y9_named 2 H).1 (f_Y9_named 2 H).2))) else ((f_X9_fail 4 (f_Y9_named 2 H).2).1, (f_X9_fail 4 (f_Y9_named 2 H).2).2)) else (if H.1 15 3 < 40 then (if f_X9_isAtWord 15 H = 0 then bxEnd (f_X0_readDeed (bxGo 0 H)) else bxEnd (f_X0_readYear (bxGo 0 H))) else ((f_X9_fail 4 H).1, (f_X9_fail 4 H).2)) := rfl
/-- the reference's line, with the place of its first number told -/
def bkGo2 (m : Int) (K : hH) : hH := f_X12_next (upI (upI K 33 (iMul 3 m).toNat 5) 33 (iAdd (iMul 3 m) 1).toNat (K.1 29 18))
theorem bk_line_eq (K : hH) : f_X12_bookLine K = if f_X12_isWord 2036687218 K = 0 then (if (f_X12_looksAt 7 (K.1 31 2) K).1 = 0 then (0, (f_X12_looksAt 7 (K.1 31 2) K).2) else if (f_X12_looksAt 7 (K.1 31 2) K).2.1 29 42 = 40 then ((f_X12_bad 4 (f_X12_looksAt 7 (K.1 31 2) K).2).1, (f_X12_bad 4 (f_X12_looksAt 7 (K.1 31 2) K).2).2) else if f_X12_isWord 2036687218 K = 0 then bkDeed (K.1 29 42) (bkGo2 (K.1 29 42) (f_X12_looksAt 7 (K.1 31 2) K).2) else bkYear (K.1 29 42) (bkGo2 (K.1 29 42) (f_X12_looksAt 7 (K.1 31 2) K).2)) else (if K.1 29 42 = 40 then ((f_X12_bad 4 K).1, (f_X12_bad 4 K).2) else if f_X12_isWord 2036687218 K = 0 then bkDeed (K.1 29 42) (bkGo2 (K.1 29 42) K) else bkYear (K.1 29 42) (bkGo2 (K.1 29 42) K)) := rfl
theorem bk_line (hN : N ≤ 940) (hb : pd_hB8 B) (h : bI B N T c n H K) (hn : n ≤ 40) : bL B N T n (f_X0_readLine H) (f_X12_bookLine K) := by
  have h0 := h
  obtain ⟨h1, h2, h3, h4, h5, h6⟩ := h
  have w := sn_wd h2 (i := 15) (w := 2036687218) (by omega) (by decide)
  have wc : f_X9_isAtWord 15 H = if sW B 400 N c 15 then 1 else 0 := sn_wc h1 15
  have go : ∀ (p : Int) (K' : hH), bI B N T c n H K' → 2 ≤ (pd_tTok B 400 N c).1 → bI B N T (c + 1) n (bxGo p H) (bkGo2 (K.1 29 42) K') := fun p K' hk ht => bI_x (bI_adv hN hb (bI_m (bI_m hk)) ht) (Or.inr (Or.inl rfl))
  rw [bx_line, bk_line_eq]
  by_cases h15 : sW B 400 N c 15
  · rw [w, wc, if_pos h15, if_neg (show ¬ ((1 : Int) = 0) by omega), if_neg (show ¬ ((1 : Int) = 0) by omega), if_neg (show ¬ ((1 : Int) = 0) by omega), if_neg (show ¬ ((1 : Int) = 0) by omega)]
    by_cases e : n = 40
    · rw [if_neg (by omega), if_pos (by omega)]
      exact Or.inl ⟨rfl, Or.inl ⟨rfl, pd_FL_fail h1 h2 (by omega)⟩⟩
    · rw [if_pos (by omega), if_neg (by omega)]
      exact bk_end hN hb (bk_year hN hb (go 0 K h0 (by have := h15.1; omega)) _) (by omega)
  · rw [w, wc, if_neg h15, if_pos rfl, if_pos rfl, if_pos rfl, if_pos rfl]
    rcases sn_named h1 h2 h3 (s := 2) (by omega) with ⟨a1, a2, a3⟩ | ⟨q, a1, a2, a3⟩
    · have a1 : (f_Y9_named 2 H).1 = -1 := a1
      have a2 : (f_X12_looksAt 7 (K.1 31 2) K).1 = 0 := a2
      rw [if_pos a1, if_pos a2]
      exact Or.inl ⟨rfl, Or.inl ⟨rfl, a3⟩⟩
    · have a1 : f_Y9_named 2 H = ((q : Int), H) := a1
      have a2 : f_X12_looksAt 7 (K.1 31 2) K = (1, upI K 29 18 (q : Int)) := a2
      rw [a1, a2, if_neg (show ¬ ((q : Int) = -1) by omega), if_neg (show ¬ ((1 : Int) = 0) by omega)]
      dsimp only
      rw [pd_upI_ne (show ¬ ((29 : Nat) = 29 ∧ (42 : Nat) = 18) by omega)]
      by_cases e : n = 40
      · rw [if_neg (by omega), if_pos (by omega)]
        exact Or.inl ⟨rfl, Or.inl ⟨rfl, pd_FL_fail h1 (pd_LR_18 h2 _) (by omega)⟩⟩
      · rw [if_pos (by omega), if_neg (by omega)]
        exact bk_end hN hb (bk_deed hN hb (go q _ (bI_18 h0 _) a3) _) (by omega)
/-- line by line: both tell the same fault, or none -/
theorem bk_main (hN : N ≤ 940) (hb : pd_hB8 B) : ∀ (k n c : Nat) (H K : hH), bI B N T c n H K → n ≤ 40 → 41 ≤ k + n → ∀ k', 41 ≤ k' + n → ∃ r, f_X12_bmain k K = some r ∧ r.1 29 15 = (f_X0_brl k' H).2.1 4 13
  | 0, n, c, H, K, _, hn, hk => by omega
  | k + 1, n, c, H, K, h, hn, hk => by
    intro k' hk'
    match k', hk' with
    | 0, hk' => omega
    | k' + 1, hk' =>
      unfold f_X12_bmain f_X0_brl
      have hc := h.1.2.2.2.2.2.2.1
      have hr := h.2.1.2.2.2.2.1
      have hok := pd_tTok_ok (B := B) (lim := 400) (N := N) c
      rw [hc.1]
      by_cases h1 : (pd_tTok B 400 N c).1 = 1
      · rw [if_pos (show (((pd_tTok B 400 N c).1 : Nat) : Int) = 1 by omega), if_pos ((pd_tR_kd hr hok).2.1.mpr h1)]
        exact ⟨_, rfl, by rw [h.2.2.2.2.2]; exact h.1.2.2.2.2.2.2.2.symm⟩
      · rw [if_neg (show ¬ (((pd_tTok B 400 N c).1 : Nat) : Int) = 1 by omega), if_neg (fun q => h1 ((pd_tR_kd hr hok).2.1.mp q))]
        rcases bk_line hN hb h hn with ⟨a1, ⟨a2, a3⟩ | ⟨a2, a3, a4⟩⟩ | ⟨a1, a2, a3, a4, c', a5⟩
        · rw [if_pos a1, if_pos a2]
          exact ⟨_, rfl, a3.1.symm⟩
        · rw [if_pos a1, if_neg a2, if_pos a3]
          exact ⟨_, rfl, a4.1.symm⟩
        · rw [if_neg a1, if_neg a2, if_neg a3]
          exact bk_main hN hb k (n + 1) c' _ _ a5 (by omega) (by omega) k' (by omega)
end BN
/-- both book() tell the same fault -/
theorem pBook {B : Nat → Int} {N : Nat} (hN : N ≤ 940) (hb : pd_hB8 B) {H K : hH} (hB : ∀ i, H.1 5 i = B i) (h2 : H.1 4 2 = (N : Int)) (hw5 : pd_hW5 H) (hB' : ∀ i, K.1 30 i = B i) (h2' : K.1 29 2 = (N : Int)) (hw8 : pd_hW8 K) (hn : sN H K) :
    ∃ k r, f_X12_book k K = some r ∧ r.1 29 15 = (f_X0_read H).2.1 4 13 := by
  obtain ⟨H0, hH0⟩ : ∃ H0, H0 = upI H 15 3 0 := ⟨_, rfl⟩
  have e1 : ∀ a b, ¬ (a = 15 ∧ b = 3) → H0.1 a b = H.1 a b := fun a b q => by rw [hH0]; exact pd_upI_ne q
  have e2 : H0.2.1 = H.2.1 := by rw [hH0]; rfl
  obtain ⟨T, b1, b2, b3, b4⟩ := pd_xBegin (B := B) (lim := 400) hN (H := H0) (fun i => by rw [e1 5 i (by omega)]; exact hB i) (by rw [e1 4 2 (by omega)]; exact h2) (fun i hi => by rw [e2]; exact hw5 i hi)
  have b1 : pd_LC B 400 N T 0 (f_X9_begin 400 H0) := b1
  have b2 : ∀ (a b : Nat), a < 4 ∨ 10 < a → (f_X9_begin 400 H0).1 a b = H0.1 a b := b2
  have b3 : ∀ (a b : Nat), a < 4 ∨ 10 < a → (f_X9_begin 400 H0).2.1 a b = H0.2.1 a b := b3
  obtain ⟨Z, hZ⟩ : ∃ Z, Z = upI (upI (f_X12_taken 400 (upI K 29 0 0)) 29 15 0) 29 42 0 := ⟨_, rfl⟩
  have z0 : ∀ a b, a ≠ 29 → Z.1 a b = K.1 a b := fun a b ha => by
    rw [hZ]
    unfold f_X12_taken
    simp only [upI]
    simp [ha]
  have z1 : Z.2.1 = K.2.1 := by rw [hZ]; rfl
  have z4 : Z.1 29 4 = ((0 : Nat) : Int) := by rw [hZ]; simp [upI, f_X12_taken]
  have z3 : Z.1 29 3 = (N : Int) := by rw [hZ]; simp [upI, f_X12_taken, h2']
  have z5 : Z.1 29 5 = ((400 : Nat) : Int) := by rw [hZ]; simp [upI, f_X12_taken]
  have z15 : Z.1 29 15 = 0 := by rw [hZ]; simp [upI, f_X12_taken]
  have z42 : Z.1 29 42 = ((0 : Nat) : Int) := by rw [hZ]; simp [upI, f_X12_taken]
  have zB : ∀ i, Z.1 30 i = B i := fun i => by rw [z0 30 i (by omega)]; exact hB' i
  obtain ⟨m1, m2, m3, m4, m5⟩ := pd_mNext (lim := 400) hN hb zB z3 z5 z4 (Nat.zero_le N)
  have hLR : pd_LR B 400 N 0 (f_X12_next Z) := by
    refine ⟨m1, ?_, ?_, fun i => ?_, m2, fun i hi => ?_⟩
    · rw [m3 29 3 (by omega)]; exact z3
    · rw [m3 29 5 (by omega)]; exact z5
    · rw [m3 30 i (by omega)]; exact zB i
    · rw [m4 35 i (by omega), z1]; exact hw8 i hi
  have hi : bI B N T 0 0 (f_X9_begin 400 H0) (f_X12_next Z) := ⟨b1, hLR, sN_keep hn (fun b => by rw [b2 53 b (by omega), e1 53 b (by omega)]) (fun b => by rw [b3 54 b (by omega), e2]) (fun b hb => by rw [m3 31 b (by omega), z0 31 b (by omega)]) (fun b => by rw [m4 34 b (by omega), z1]), by rw [b2 15 3 (by omega), hH0]; exact pd_upI_at _ _ _ _, by rw [m3 29 42 (by omega)]; exact z42, by rw [m3 29 15 (by omega)]; exact z15⟩
  obtain ⟨r, r1, r2⟩ := bk_main hN hb 41 0 0 _ _ hi (by omega) (by omega) 940 (by omega)
  refine ⟨41, r, ?_, ?_⟩
  · rw [hZ] at r1
    exact r1
  · rw [r2, hH0]
    rfl
