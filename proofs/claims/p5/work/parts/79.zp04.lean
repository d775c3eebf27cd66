/-! Both sides read a text alike (by hand), 4. -/
set_option maxRecDepth 100000
set_option linter.unusedSimpArgs false
theorem pd_filt_all (p : Int → Bool) : ∀ (r : List Int), r.all p = true → r.filter p = r
  | [], _ => rfl
  | b :: r, h => by
    simp only [List.all_cons, Bool.and_eq_true] at h
    rw [List.filter_cons_of_pos h.1, pd_filt_all p r h.2]
theorem pd_filt_none (p q : Int → Bool) (hpq : ∀ b, p b = true → q b = true → False) : ∀ (r : List Int), r.all p = true → r.filter q = []
  | [], _ => rfl
  | b :: r, h => by
    simp only [List.all_cons, Bool.and_eq_true] at h
    rw [List.filter_cons_of_neg (fun e => hpq b h.1 e), pd_filt_none p q hpq r h.2]
theorem pd_len_none (p q : Int → Bool) : ∀ (r : List Int), (∀ b ∈ r, p b = false → q b = true) → (r.filter q).length = 0 → r.all p = true
  | [], _, _ => rfl
  | b :: r, h, h0 => by
    cases hq : q b with
    | true => rw [List.filter_cons_of_pos hq] at h0; simp at h0
    | false =>
      rw [List.filter_cons_of_neg (by simp [hq])] at h0
      have hp : p b = true := by
        cases hp : p b with
        | true => rfl
        | false => have := h b (List.mem_cons_self ..) hp; rw [hq] at this; cases this
      simp only [List.all_cons, Bool.and_eq_true]
      exact ⟨hp, pd_len_none p q r (fun b hb => h b (List.mem_cons_of_mem _ hb)) h0⟩
theorem pd_dl_not {b : Int} (h : pd_tDg b = true) (h2 : pd_tLt b = true) : False := by
  have := pd_tDg_iff.mp h; have := pd_tLt_iff.mp h2; omega
/-- what the class has told of a token, at the row c -/
def pd_cRow (H : hH) (c : Nat) (t : pd_tT) : Prop := H.1 8 c = t.2.2.2 ∧ (t.1 = 2 ∨ t.1 = 3 ∨ t.1 = 4 → H.1 9 c = t.2.1) ∧ (t.1 = 5 → H.2.1 10 c = pd_tF5 t.2.2.1)
def pd_cFr (H H' : hH) (c : Nat) : Prop := (∀ a b, ¬ (a = 4 ∧ b = 8) → ¬ (a = 9 ∧ b = c) → ¬ (a = 8 ∧ b = c) → H'.1 a b = H.1 a b) ∧ (∀ a b, ¬ (a = 10 ∧ b = c) → H'.2.1 a b = H.2.1 a b) ∧ H'.2.2 = H.2.2
theorem pd_xRunEnd {B : Nat → Int} {N : Nat} (hN : N ≤ 940) {p c : Nat} {H : hH} (hB : ∀ i, H.1 5 i = B i) (h2 : H.1 4 2 = (N : Int)) (h8 : H.1 4 8 = (p : Int)) (h7 : H.1 4 7 = (c : Int)) (hw : pd_hW5 H) (hp : p < N) (ha : pd_tAn (B p) = true) (hs : H.1 8 c = (p : Int)) :
    (f_X9_scanRun H).1 = (((pd_tRT (pd_tRun B (N - p) p) p).1 : Nat) : Int) ∧ (f_X9_scanRun H).2.1 4 8 = ((p + (pd_tRun B (N - p) p).length : Nat) : Int) ∧ pd_cRow (f_X9_scanRun H).2 c (pd_tRT (pd_tRun B (N - p) p) p) ∧ pd_cFr H (f_X9_scanRun H).2 c := by
  unfold f_X9_scanRun
  have ek : (H.1 4 2 - H.1 4 8).toNat = N - p := by rw [h2, h8]; omega
  have e := pd_xRun (B := B) hN (N - p) p 0 0 0 0 H hB h2 h8 (by omega) (by omega) (by omega)
  rw [ek]
  have e' : f_X9_run (N - p) 0 0 0 0 H = _ := e
  rw [e']
  clear e e'
  simp only [Nat.zero_add]
  generalize hr : pd_tRun B (N - p) p = r
  have hne : 1 ≤ r.length := by
    rw [← hr]
    obtain ⟨k, hk⟩ : ∃ k, N - p = k + 1 := ⟨N - p - 1, by omega⟩
    rw [hk]
    show 1 ≤ (if pd_tAn (B p) = true then B p :: pd_tRun B k (p + 1) else [] : List Int).length
    rw [if_pos ha]
    simp
  have hle : r.length ≤ N - p := by rw [← hr]; exact pd_tRun_len _ _
  have han : ∀ b ∈ r, pd_tAn b = true := by rw [← hr]; exact pd_tRun_an _ _
  have c7 : (upI H 4 8 ((p + r.length : Nat) : Int)).1 4 7 = (c : Int) := by simp [upI, h7]
  unfold f_X9_runEnd pd_tRT
  rw [c7, Int.toNat_natCast]
  by_cases hd : r.all pd_tLt = true
  · -- letters alone
    have e1 : r.filter pd_tDg = [] := pd_filt_none pd_tLt pd_tDg (fun b a b => pd_dl_not b a) r hd
    have e2 : r.filter pd_tLt = r := pd_filt_all pd_tLt r hd
    rw [e1, e2]
    simp only [List.length_nil, List.foldl_nil]
    rw [if_pos (show ((0 : Nat) : Int) = 0 from rfl)]
    by_cases h7' : r.length ≤ 7
    · have hv : pd_vR r := ⟨h7', fun b hb => List.all_eq_true.mp hd b hb⟩
      have hwo : f_X9_wordOf (pd_tF5 r) (upI H 4 8 ((p + r.length : Nat) : Int)) = pd_tIdx r := pd_tWordOf (fun i hi => by show H.2.1 6 i = _; exact hw i hi) hv
      have hwo : f_X9_wordOf (List.foldl f_X9_withLetter 0 r) (upI H 4 8 ((p + r.length : Nat) : Int)) = pd_tIdx r := hwo
      rw [if_neg (show ¬ 7 < ((r.length : Nat) : Int) from by omega), hwo]
      rw [if_pos (show r.all pd_tLt = true ∧ r.length ≤ 7 from ⟨hd, h7'⟩)]
      have e3 : (upI (upL (upI H 4 8 ((p + r.length : Nat) : Int)) 10 c (List.foldl f_X9_withLetter 0 r)) 9 c (pd_tIdx r)).1 9 c = pd_tIdx r := by simp [upI]
      rw [e3]
      by_cases hi : pd_tIdx r = -1
      · rw [if_pos hi, if_pos hi]
        refine ⟨rfl, by simp [upI, upL], ⟨by simp [upI, upL, hs], by intro h; simp at h, fun _ => by simp [upI, upL, pd_tF5]⟩, fun a b n1 n2 n3 => by simp [upI, upL, n1, n2], fun a b n1 => by simp [upI, upL, n1], rfl⟩
      · rw [if_neg hi, if_neg hi]
        refine ⟨rfl, by simp [upI, upL], ⟨by simp [upI, upL, hs], fun _ => by simp [upI, upL], by intro h; simp at h⟩, fun a b n1 n2 n3 => by simp [upI, upL, n1, n2], fun a b n1 => by simp [upI, upL, n1], rfl⟩
    · rw [if_pos (show 7 < ((r.length : Nat) : Int) from by omega), if_neg (show ¬ ((r.length : Nat) : Int) = 0 from by omega)]
      have hnd : r.all pd_tDg = false := by
        cases hx : r.all pd_tDg with
        | false => rfl
        | true =>
          exfalso
          cases r with
          | nil => simp at hne
          | cons b r =>
            simp only [List.all_cons, Bool.and_eq_true] at hx hd
            exact pd_dl_not hx.1 hd.1
      rw [if_neg (show ¬ (r.all pd_tLt = true ∧ r.length ≤ 7) from fun q => h7' q.2), if_neg (show ¬ (r.all pd_tDg = true ∧ r.length ≤ 3) from fun q => by rw [hnd] at q; cases q.1)]
      refine ⟨rfl, by simp [upI, upL], ⟨by simp [upI, upL, hs], by intro h; simp at h, by intro h; simp at h⟩, fun a b n1 n2 n3 => by simp [upI, upL, n1, n2], fun a b n1 => rfl, rfl⟩
  · have hdn : ¬ ((r.filter pd_tDg).length : Int) = 0 := by
      intro q
      apply hd
      refine pd_len_none pd_tLt pd_tDg r (fun b hb hl => ?_) (by omega)
      rcases pd_tAn_or (han b hb) with ⟨a1, -⟩ | ⟨-, a2⟩
      · exact a1
      · rw [hl] at a2; cases a2
    rw [if_neg hdn, if_neg (show ¬ (r.all pd_tLt = true ∧ r.length ≤ 7) from fun q => hd q.1)]
    by_cases hg : r.all pd_tDg = true
    · have e1 : r.filter pd_tLt = [] := pd_filt_none pd_tDg pd_tLt (fun b a b => pd_dl_not a b) r hg
      have e2 : r.filter pd_tDg = r := pd_filt_all pd_tDg r hg
      rw [e1, e2]
      simp only [List.length_nil]
      rw [if_pos (show ((0 : Nat) : Int) = 0 from rfl)]
      by_cases h3 : r.length ≤ 3
      · rw [if_neg (show ¬ 3 < ((r.length : Nat) : Int) from by omega), if_pos (show r.all pd_tDg = true ∧ r.length ≤ 3 from ⟨hg, h3⟩)]
        refine ⟨rfl, by simp [upI, upL], ⟨by simp [upI, upL, hs], fun _ => by simp [upI, upL], by intro h; simp at h⟩, fun a b n1 n2 n3 => by simp [upI, upL, n1, n2], fun a b n1 => rfl, rfl⟩
      · rw [if_pos (show 3 < ((r.length : Nat) : Int) from by omega), if_neg (show ¬ (r.all pd_tDg = true ∧ r.length ≤ 3) from fun q => h3 q.2)]
        refine ⟨rfl, by simp [upI, upL], ⟨by simp [upI, upL, hs], by intro h; simp at h, by intro h; simp at h⟩, fun a b n1 n2 n3 => by simp [upI, upL, n1, n2], fun a b n1 => rfl, rfl⟩
    · have hln : ¬ ((r.filter pd_tLt).length : Int) = 0 := by
        intro q
        apply hg
        refine pd_len_none pd_tDg pd_tLt r (fun b hb hl => ?_) (by omega)
        rcases pd_tAn_or (han b hb) with ⟨a1, -⟩ | ⟨-, a2⟩
        · rw [hl] at a1; cases a1
        · exact a2
      rw [if_neg hln, if_neg (show ¬ (r.all pd_tDg = true ∧ r.length ≤ 3) from fun q => hg q.1)]
      refine ⟨rfl, by simp [upI, upL], ⟨by simp [upI, upL, hs], by intro h; simp at h, by intro h; simp at h⟩, fun a b n1 n2 n3 => by simp [upI, upL, n1, n2], fun a b n1 => rfl, rfl⟩
theorem pd_tRT_pl (r : List Int) (p : Int) : (pd_tRT r p).2.2.2 = p := by
  unfold pd_tRT; split
  · split <;> rfl
  · split <;> rfl
/-- the class scans a token -/
theorem pd_xTok {B : Nat → Int} {N lim : Nat} (hN : N ≤ 940) {p c : Nat} {H : hH} (hB : ∀ i, H.1 5 i = B i) (h2 : H.1 4 2 = (N : Int)) (h8 : H.1 4 8 = (p : Int)) (h7 : H.1 4 7 = (c : Int)) (hw : pd_hW5 H) (hp : p ≤ N) :
    (f_X9_tok lim H).1 = (((pd_tTk B lim N p).1.1 : Nat) : Int) ∧ (f_X9_tok lim H).2.1 4 8 = (((pd_tTk B lim N p).2 : Nat) : Int) ∧ pd_cRow (f_X9_tok lim H).2 c (pd_tTk B lim N p).1 ∧ pd_cFr H (f_X9_tok lim H).2 c := by
  have e7 : (H.1 4 7).toNat = c := by rw [h7]; omega
  have hrun : ¬ N ≤ p → pd_tAn (B p) = true → let H0 := upI (upL (upI H 9 c 0) 10 c 0) 8 c (p : Int); (f_X9_scanRun H0).1 = (((pd_tRT (pd_tRun B (N - p) p) p).1 : Nat) : Int) ∧ (f_X9_scanRun H0).2.1 4 8 = ((p + (pd_tRun B (N - p) p).length : Nat) : Int) ∧ pd_cRow (f_X9_scanRun H0).2 c (pd_tRT (pd_tRun B (N - p) p) p) ∧ pd_cFr H (f_X9_scanRun H0).2 c := by
    intro hp2 ha H0
    have e := pd_xRunEnd (B := B) hN (p := p) (c := c) (H := H0) (fun i => by simp [H0, upI, upL, hB]) (by simp [H0, upI, upL, h2]) (by simp [H0, upI, upL, h8]) (by simp [H0, upI, upL, h7]) (fun i hi => by simp only [H0, upI, upL]; rw [if_neg (by omega)]; exact hw i hi) (by omega) ha (by simp [H0, upI, upL])
    obtain ⟨q1, q2, q3, q4, q5, q6⟩ := e
    refine ⟨q1, q2, q3, fun a b n1 n2 n3 => ?_, fun a b n1 => ?_, q6⟩
    · rw [q4 a b n1 n2 n3]; simp only [H0, upI, upL]; rw [if_neg n3, if_neg n2]
    · rw [q5 a b n1]; simp only [H0, upI, upL]; rw [if_neg n1]
  unfold f_X9_tok pd_tTk
  rw [h2, h8, e7, Int.toNat_natCast, hB, pd_xDg, pd_xLt, pd_xSg]
  simp only [pd_if10]
  have core : ∀ (R : Int × hH), R = (if (p : Int) < (N : Int) then
        if pd_tDg (B p) = false then
          if pd_tLt (B p) = false then
            if pd_tSg (B p) = false then
              (0, (upI (upI (upI (upL (upI H 9 c 0) 10 c 0) 8 c (p : Int)) 4 8 (iAdd (p : Int) 1)) 9 c (B p)))
            else
              (2, (upI (upI (upI (upL (upI H 9 c 0) 10 c 0) 8 c (p : Int)) 4 8 (iAdd (p : Int) 1)) 9 c (B p)))
          else
            ((f_X9_scanRun (upI (upL (upI H 9 c 0) 10 c 0) 8 c (p : Int))).1, (f_X9_scanRun (upI (upL (upI H 9 c 0) 10 c 0) 8 c (p : Int))).2)
        else
          ((f_X9_scanRun (upI (upL (upI H 9 c 0) 10 c 0) 8 c (p : Int))).1, (f_X9_scanRun (upI (upL (upI H 9 c 0) 10 c 0) 8 c (p : Int))).2)
      else
        (1, (upI (upL (upI H 9 c 0) 10 c 0) 8 c (p : Int))) : Int × hH) →
      (let T : pd_tT × Nat := (if N ≤ p then ((1, 0, [], (p : Int)), p)
        else if pd_tAn (B p) = true then (pd_tRT (pd_tRun B (N - p) p) p, p + (pd_tRun B (N - p) p).length)
        else ((if pd_tSg (B p) = true then 2 else 0, B p, [], (p : Int)), p + 1)); R.1 = ((T.1.1 : Nat) : Int) ∧ R.2.1 4 8 = ((T.2 : Nat) : Int) ∧ pd_cRow R.2 c T.1 ∧ pd_cFr H R.2 c) := by
    intro R hR
    dsimp only
    by_cases hp2 : N ≤ p
    · rw [if_neg (by omega)] at hR
      rw [if_pos hp2, hR]
      exact ⟨rfl, by simp [upI, upL, h8], ⟨by simp [upI, upL], by intro h; simp at h, by intro h; simp at h⟩, fun a b n1 n2 n3 => by simp [upI, upL, n2, n3], fun a b n1 => by simp [upI, upL, n1], rfl⟩
    · rw [if_pos (by omega)] at hR
      rw [if_neg hp2]
      by_cases ha : pd_tAn (B p) = true
      · rw [if_pos ha]
        have hh := hrun hp2 ha
        dsimp only at hh
        rcases pd_tAn_or ha with ⟨a1, a2⟩ | ⟨a1, a2⟩
        · rw [if_neg (by simp [a1])] at hR
          rw [hR]; exact hh
        · rw [if_pos a1, if_neg (by simp [a2])] at hR
          rw [hR]; exact hh
      · have a1 : pd_tDg (B p) = false := by unfold pd_tAn at ha; cases h : pd_tDg (B p) <;> simp_all
        have a2 : pd_tLt (B p) = false := by unfold pd_tAn at ha; cases h : pd_tLt (B p) <;> simp_all
        rw [if_pos a1, if_pos a2, pd_iad1 (by omega)] at hR
        rw [if_neg ha]
        cases hs : pd_tSg (B p) with
        | false =>
          rw [if_pos hs] at hR
          rw [hR, if_neg (by simp)]
          exact ⟨rfl, by simp [upI, upL], ⟨by simp [upI, upL], by intro h; simp at h, by intro h; simp at h⟩, fun a b n1 n2 n3 => by simp [upI, upL, n1, n2, n3], fun a b n1 => by simp [upI, upL, n1], rfl⟩
        | true =>
          rw [if_neg (by simp [hs])] at hR
          rw [hR, if_pos rfl]
          exact ⟨rfl, by simp [upI, upL], ⟨by simp [upI, upL], fun _ => by simp [upI, upL], by intro h; simp at h⟩, fun a b n1 n2 n3 => by simp [upI, upL, n1, n2, n3], fun a b n1 => by simp [upI, upL, n1], rfl⟩
  by_cases hl : (lim : Int) < (N : Int)
  · rw [if_pos hl]
    by_cases hlp : (p : Int) < (lim : Int)
    · rw [if_pos hlp, if_neg (show ¬ (lim < N ∧ lim ≤ p) from by omega)]
      exact core _ rfl
    · rw [if_neg hlp, if_pos (show lim < N ∧ lim ≤ p from by omega)]
      exact ⟨rfl, by simp [upI, upL, h8], ⟨by simp [upI, upL], by intro h; simp at h, by intro h; simp at h⟩, fun a b n1 n2 n3 => by simp [upI, upL, n2, n3], fun a b n1 => by simp [upI, upL, n1], rfl⟩
  · rw [if_neg hl, if_neg (show ¬ (lim < N ∧ lim ≤ p) from by omega)]
    exact core _ rfl
