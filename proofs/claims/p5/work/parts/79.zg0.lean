/-! The district's readers, method by method: what exact runs of them answer (written by wip/p4/gen.py). -/
abbrev iAdd := iop (· + ·)
abbrev iSub := iop (· - ·)
abbrev iMul := iop (· * ·)
abbrev iAnd := iop (· &&& ·)
abbrev iOr := iop (· ||| ·)
abbrev iShl := iop (fun x y => x <<< (y &&& 31))
abbrev iShr := iop (fun x y => x >>> (y &&& 31))
abbrev iUshr := iop (fun x y => (x.toUInt32 >>> (y.toUInt32 &&& Int32.toUInt32 31)).toInt32)
/-- references that stay where they are -/
def rfL : List (Nat × Nat × Nat) := [(4, 0, 5), (4, 1, 6), (4, 3, 7), (4, 4, 8), (4, 5, 9), (4, 6, 10), (13, 0, 4), (13, 1, 60), (13, 2, 52), (29, 1, 30), (29, 6, 31), (29, 7, 32), (29, 8, 33), (29, 9, 34), (29, 10, 35), (52, 0, 60), (52, 6, 53), (52, 7, 54), (52, 8, 55), (52, 9, 56), (52, 10, 57), (53, 1000, 10), (54, 1000, 3), (55, 1000, 12), (56, 1000, 10), (57, 1000, 36), (60, 0, 61), (60, 1, 62), (60, 2, 63), (60, 3, 64), (60, 4, 65), (60, 5, 66), (60, 6, 67)]
def RF (r : Nat → Nat → Option Nat) : Prop := ∀ q ∈ rfL, r q.1 q.2.1 = some q.2.2
theorem RFa {r : Nat → Nat → Option Nat} (h : RF r) {p f k : Nat} (hm : rfL.elem (p, f, k) = true) : r p f = some k := h (p, f, k) (List.elem_iff.mp hm)
/-- the reference's own references -/
def rmL : List (Nat × Nat × Nat) := [(29, 1, 30), (29, 6, 31), (29, 7, 32), (29, 8, 33), (29, 9, 34), (29, 10, 35)]
def RM (r : Nat → Nat → Option Nat) : Prop := ∀ q ∈ rmL, r q.1 q.2.1 = some q.2.2
theorem RMa {r : Nat → Nat → Option Nat} (h : RM r) {p f k : Nat} (hm : rmL.elem (p, f, k) = true) : r p f = some k := h (p, f, k) (List.elem_iff.mp hm)

def f_X9_isBlank (a1 : Int) : Int :=
  if a1 = 32 then
    1
  else
    if a1 = 10 then
      1
    else
      0
set_option maxHeartbeats 16000000 in
set_option maxRecDepth 100000 in
theorem sp_X9_isBlank {g : Nat → Nat} (a1 : Int) (H : hH) : SP g rvTab rvInf rvRet 316 rvMth 146 [pt a1] H (some (pt (f_X9_isBlank a1))) H := by
  have hj : 146 < 316 := by decide
  refine J_SP hj (Nat.le_of_ble_eq_true rfl) ?_
  show J g rvTab rvInf rvRet 316 rvMth 146 _ 0 [pt a1] [] H
  refine J_ld 1 jw hj rfl rfl rfl rfl ?_
  refine J_cst 3 jw hj rfl rfl rfl ?_
  refine J_icmp (t := 12) jw hj rfl (evn rfl) rfl (fun (h0 : a1 = 32) => ?_) (fun (h0 : ¬ a1 = 32) => ?_)
  · refine J_cst 13 jw hj rfl rfl rfl ?_
    refine J_goto 17 jw hj rfl rfl ?_
    exact J_ret rfl (Or.inl rfl) (fun aw hR => by show _ ∧ _; unfold f_X9_isBlank; rw [if_pos h0]; exact ⟨rfl, hR⟩)
  · refine J_ld 7 jw hj rfl rfl rfl rfl ?_
    refine J_cst 9 jw hj rfl rfl rfl ?_
    refine J_icmp (t := 16) jw hj rfl (evn rfl) rfl (fun (h1 : ¬ a1 = 10) => ?_) (fun (h1 : a1 = 10) => ?_)
    · refine J_cst 17 jw hj rfl rfl rfl ?_
      exact J_ret rfl (Or.inl rfl) (fun aw hR => by show _ ∧ _; unfold f_X9_isBlank; rw [if_neg h0, if_neg h1]; exact ⟨rfl, hR⟩)
    · refine J_cst 13 jw hj rfl rfl rfl ?_
      refine J_goto 17 jw hj rfl rfl ?_
      exact J_ret rfl (Or.inl rfl) (fun aw hR => by show _ ∧ _; unfold f_X9_isBlank; rw [if_neg h0, if_pos h1]; exact ⟨rfl, hR⟩)
def f_X9_isDigit (a1 : Int) : Int :=
  if a1 < 48 then
    0
  else
    if 57 < a1 then
      0
    else
      1
set_option maxHeartbeats 16000000 in
set_option maxRecDepth 100000 in
theorem sp_X9_isDigit {g : Nat → Nat} (a1 : Int) (H : hH) : SP g rvTab rvInf rvRet 316 rvMth 143 [pt a1] H (some (pt (f_X9_isDigit a1))) H := by
  have hj : 143 < 316 := by decide
  refine J_SP hj (Nat.le_of_ble_eq_true rfl) ?_
  show J g rvTab rvInf rvRet 316 rvMth 143 _ 0 [pt a1] [] H
  refine J_ld 1 jw hj rfl rfl rfl rfl ?_
  refine J_cst 3 jw hj rfl rfl rfl ?_
  refine J_icmp (t := 16) jw hj rfl (evn rfl) rfl (fun (h0 : a1 < 48) => ?_) (fun (h0 : ¬ a1 < 48) => ?_)
  · refine J_cst 17 jw hj rfl rfl rfl ?_
    exact J_ret rfl (Or.inl rfl) (fun aw hR => by show _ ∧ _; unfold f_X9_isDigit; rw [if_pos h0]; exact ⟨rfl, hR⟩)
  · refine J_ld 7 jw hj rfl rfl rfl rfl ?_
    refine J_cst 9 jw hj rfl rfl rfl ?_
    refine J_icmp (t := 16) jw hj rfl (evn rfl) rfl (fun (h1 : 57 < a1) => ?_) (fun (h1 : ¬ 57 < a1) => ?_)
    · refine J_cst 17 jw hj rfl rfl rfl ?_
      exact J_ret rfl (Or.inl rfl) (fun aw hR => by show _ ∧ _; unfold f_X9_isDigit; rw [if_neg h0, if_pos h1]; exact ⟨rfl, hR⟩)
    · refine J_cst 13 jw hj rfl rfl rfl ?_
      refine J_goto 17 jw hj rfl rfl ?_
      exact J_ret rfl (Or.inl rfl) (fun aw hR => by show _ ∧ _; unfold f_X9_isDigit; rw [if_neg h0, if_neg h1]; exact ⟨rfl, hR⟩)
def f_X9_isLetter (a1 : Int) : Int :=
  if a1 < 97 then
    0
  else
    if 122 < a1 then
      0
    else
      1
set_option maxHeartbeats 16000000 in
set_option maxRecDepth 100000 in
theorem sp_X9_isLetter {g : Nat → Nat} (a1 : Int) (H : hH) : SP g rvTab rvInf rvRet 316 rvMth 144 [pt a1] H (some (pt (f_X9_isLetter a1))) H := by
  have hj : 144 < 316 := by decide
  refine J_SP hj (Nat.le_of_ble_eq_true rfl) ?_
  show J g rvTab rvInf rvRet 316 rvMth 144 _ 0 [pt a1] [] H
  refine J_ld 1 jw hj rfl rfl rfl rfl ?_
  refine J_cst 3 jw hj rfl rfl rfl ?_
  refine J_icmp (t := 16) jw hj rfl (evn rfl) rfl (fun (h0 : a1 < 97) => ?_) (fun (h0 : ¬ a1 < 97) => ?_)
  · refine J_cst 17 jw hj rfl rfl rfl ?_
    exact J_ret rfl (Or.inl rfl) (fun aw hR => by show _ ∧ _; unfold f_X9_isLetter; rw [if_pos h0]; exact ⟨rfl, hR⟩)
  · refine J_ld 7 jw hj rfl rfl rfl rfl ?_
    refine J_cst 9 jw hj rfl rfl rfl ?_
    refine J_icmp (t := 16) jw hj rfl (evn rfl) rfl (fun (h1 : 122 < a1) => ?_) (fun (h1 : ¬ 122 < a1) => ?_)
    · refine J_cst 17 jw hj rfl rfl rfl ?_
      exact J_ret rfl (Or.inl rfl) (fun aw hR => by show _ ∧ _; unfold f_X9_isLetter; rw [if_neg h0, if_pos h1]; exact ⟨rfl, hR⟩)
    · refine J_cst 13 jw hj rfl rfl rfl ?_
      refine J_goto 17 jw hj rfl rfl ?_
      exact J_ret rfl (Or.inl rfl) (fun aw hR => by show _ ∧ _; unfold f_X9_isLetter; rw [if_neg h0, if_neg h1]; exact ⟨rfl, hR⟩)
def f_X9_isSignByte (a1 : Int) : Int :=
  if a1 = 59 then
    1
  else
    if a1 = 60 then
      1
    else
      if a1 = 61 then
        1
      else
        if a1 = 62 then
          1
        else
          if a1 = 40 then
            1
          else
            if a1 = 41 then
              1
            else
              0
set_option maxHeartbeats 16000000 in
set_option maxRecDepth 100000 in
theorem sp_X9_isSignByte {g : Nat → Nat} (a1 : Int) (H : hH) : SP g rvTab rvInf rvRet 316 rvMth 145 [pt a1] H (some (pt (f_X9_isSignByte a1))) H := by
  have hj : 145 < 316 := by decide
  refine J_SP hj (Nat.le_of_ble_eq_true rfl) ?_
  show J g rvTab rvInf rvRet 316 rvMth 145 _ 0 [pt a1] [] H
  refine J_ld 1 jw hj rfl rfl rfl rfl ?_
  refine J_cst 3 jw hj rfl rfl rfl ?_
  refine J_icmp (t := 36) jw hj rfl (evn rfl) rfl (fun (h0 : a1 = 59) => ?_) (fun (h0 : ¬ a1 = 59) => ?_)
  · refine J_cst 37 jw hj rfl rfl rfl ?_
    refine J_goto 41 jw hj rfl rfl ?_
    exact J_ret rfl (Or.inl rfl) (fun aw hR => by show _ ∧ _; unfold f_X9_isSignByte; rw [if_pos h0]; exact ⟨rfl, hR⟩)
  · refine J_ld 7 jw hj rfl rfl rfl rfl ?_
    refine J_cst 9 jw hj rfl rfl rfl ?_
    refine J_icmp (t := 36) jw hj rfl (evn rfl) rfl (fun (h1 : a1 = 60) => ?_) (fun (h1 : ¬ a1 = 60) => ?_)
    · refine J_cst 37 jw hj rfl rfl rfl ?_
      refine J_goto 41 jw hj rfl rfl ?_
      exact J_ret rfl (Or.inl rfl) (fun aw hR => by show _ ∧ _; unfold f_X9_isSignByte; rw [if_neg h0, if_pos h1]; exact ⟨rfl, hR⟩)
    · refine J_ld 13 jw hj rfl rfl rfl rfl ?_
      refine J_cst 15 jw hj rfl rfl rfl ?_
      refine J_icmp (t := 36) jw hj rfl (evn rfl) rfl (fun (h2 : a1 = 61) => ?_) (fun (h2 : ¬ a1 = 61) => ?_)
      · refine J_cst 37 jw hj rfl rfl rfl ?_
        refine J_goto 41 jw hj rfl rfl ?_
        exact J_ret rfl (Or.inl rfl) (fun aw hR => by show _ ∧ _; unfold f_X9_isSignByte; rw [if_neg h0, if_neg h1, if_pos h2]; exact ⟨rfl, hR⟩)
      · refine J_ld 19 jw hj rfl rfl rfl rfl ?_
        refine J_cst 21 jw hj rfl rfl rfl ?_
        refine J_icmp (t := 36) jw hj rfl (evn rfl) rfl (fun (h3 : a1 = 62) => ?_) (fun (h3 : ¬ a1 = 62) => ?_)
        · refine J_cst 37 jw hj rfl rfl rfl ?_
          refine J_goto 41 jw hj rfl rfl ?_
          exact J_ret rfl (Or.inl rfl) (fun aw hR => by show _ ∧ _; unfold f_X9_isSignByte; rw [if_neg h0, if_neg h1, if_neg h2, if_pos h3]; exact ⟨rfl, hR⟩)
        · refine J_ld 25 jw hj rfl rfl rfl rfl ?_
          refine J_cst 27 jw hj rfl rfl rfl ?_
          refine J_icmp (t := 36) jw hj rfl (evn rfl) rfl (fun (h4 : a1 = 40) => ?_) (fun (h4 : ¬ a1 = 40) => ?_)
          · refine J_cst 37 jw hj rfl rfl rfl ?_
            refine J_goto 41 jw hj rfl rfl ?_
            exact J_ret rfl (Or.inl rfl) (fun aw hR => by show _ ∧ _; unfold f_X9_isSignByte; rw [if_neg h0, if_neg h1, if_neg h2, if_neg h3, if_pos h4]; exact ⟨rfl, hR⟩)
          · refine J_ld 31 jw hj rfl rfl rfl rfl ?_
            refine J_cst 33 jw hj rfl rfl rfl ?_
            refine J_icmp (t := 40) jw hj rfl (evn rfl) rfl (fun (h5 : ¬ a1 = 41) => ?_) (fun (h5 : a1 = 41) => ?_)
            · refine J_cst 41 jw hj rfl rfl rfl ?_
              exact J_ret rfl (Or.inl rfl) (fun aw hR => by show _ ∧ _; unfold f_X9_isSignByte; rw [if_neg h0, if_neg h1, if_neg h2, if_neg h3, if_neg h4, if_neg h5]; exact ⟨rfl, hR⟩)
            · refine J_cst 37 jw hj rfl rfl rfl ?_
              refine J_goto 41 jw hj rfl rfl ?_
              exact J_ret rfl (Or.inl rfl) (fun aw hR => by show _ ∧ _; unfold f_X9_isSignByte; rw [if_neg h0, if_neg h1, if_neg h2, if_neg h3, if_neg h4, if_pos h5]; exact ⟨rfl, hR⟩)
def f_X9_withLetter (a1 : Int64) (a2 : Int) : Int64 :=
  (a1 <<< ((Int32.ofInt 5).toInt64 &&& 63)) ||| ((Int32.ofInt (iAdd (iSub a2 97) 1)).toInt64)
set_option maxHeartbeats 16000000 in
set_option maxRecDepth 100000 in
theorem sp_X9_withLetter {g : Nat → Nat} (a1 : Int64) (a2 : Int) (H : hH) : SP g rvTab rvInf rvRet 316 rvMth 147 [lg a1, pt a2] H (some (lg (f_X9_withLetter a1 a2))) H := by
  have hj : 147 < 316 := by decide
  refine J_SP hj (Nat.le_of_ble_eq_true rfl) ?_
  show J g rvTab rvInf rvRet 316 rvMth 147 _ 0 [lg a1, rvU, pt a2] [] H
  refine J_ld 1 jw hj rfl rfl rfl rfl ?_
  refine J_cst 2 jw hj rfl rfl rfl ?_
  refine J_lshl jw hj rfl (evn rfl) ?_
  refine J_ld 4 jw hj rfl rfl rfl rfl ?_
  refine J_cst 6 jw hj rfl rfl rfl ?_
  refine J_bin jw hj rfl rfl ?_
  refine J_cst 8 jw hj rfl rfl rfl ?_
  refine J_bin jw hj rfl rfl ?_
  refine J_i2l jw hj rfl (evn rfl) ?_
  refine J_lb jw hj rfl (Or.inl ⟨rfl, rfl⟩) ?_
  exact J_ret rfl (Or.inr (Or.inl rfl)) (fun aw hR => by show _ ∧ _; unfold f_X9_withLetter; exact ⟨rfl, hR⟩)
def f_X11_isWithin (a1 : Int) (a2 : Int) (a3 : Int) : Int :=
  if a1 < a2 then
    0
  else
    if a3 < a1 then
      0
    else
      1
set_option maxHeartbeats 16000000 in
set_option maxRecDepth 100000 in
theorem sp_X11_isWithin {g : Nat → Nat} (a1 : Int) (a2 : Int) (a3 : Int) (H : hH) : SP g rvTab rvInf rvRet 316 rvMth 149 [pt a1, pt a2, pt a3] H (some (pt (f_X11_isWithin a1 a2 a3))) H := by
  have hj : 149 < 316 := by decide
  refine J_SP hj (Nat.le_of_ble_eq_true rfl) ?_
  show J g rvTab rvInf rvRet 316 rvMth 149 _ 0 [pt a1, pt a2, pt a3] [] H
  refine J_ld 1 jw hj rfl rfl rfl rfl ?_
  refine J_ld 2 jw hj rfl rfl rfl rfl ?_
  refine J_icmp (t := 14) jw hj rfl (evn rfl) rfl (fun (h0 : a1 < a2) => ?_) (fun (h0 : ¬ a1 < a2) => ?_)
  · refine J_cst 15 jw hj rfl rfl rfl ?_
    exact J_ret rfl (Or.inl rfl) (fun aw hR => by show _ ∧ _; unfold f_X11_isWithin; rw [if_pos h0]; exact ⟨rfl, hR⟩)
  · refine J_ld 6 jw hj rfl rfl rfl rfl ?_
    refine J_ld 7 jw hj rfl rfl rfl rfl ?_
    refine J_icmp (t := 14) jw hj rfl (evn rfl) rfl (fun (h1 : a3 < a1) => ?_) (fun (h1 : ¬ a3 < a1) => ?_)
    · refine J_cst 15 jw hj rfl rfl rfl ?_
      exact J_ret rfl (Or.inl rfl) (fun aw hR => by show _ ∧ _; unfold f_X11_isWithin; rw [if_neg h0, if_pos h1]; exact ⟨rfl, hR⟩)
    · refine J_cst 11 jw hj rfl rfl rfl ?_
      refine J_goto 15 jw hj rfl rfl ?_
      exact J_ret rfl (Or.inl rfl) (fun aw hR => by show _ ∧ _; unfold f_X11_isWithin; rw [if_neg h0, if_neg h1]; exact ⟨rfl, hR⟩)
def f_X11_isIn (a1 : Int) (a2 : Int) : Int :=
  if iAnd (iUshr a1 a2) 1 = 0 then
    0
  else
    1
set_option maxHeartbeats 16000000 in
set_option maxRecDepth 100000 in
theorem sp_X11_isIn {g : Nat → Nat} (a1 : Int) (a2 : Int) (H : hH) : SP g rvTab rvInf rvRet 316 rvMth 141 [pt a1, pt a2] H (some (pt (f_X11_isIn a1 a2))) H := by
  have hj : 141 < 316 := by decide
  refine J_SP hj (Nat.le_of_ble_eq_true rfl) ?_
  show J g rvTab rvInf rvRet 316 rvMth 141 _ 0 [pt a1, pt a2] [] H
  refine J_ld 1 jw hj rfl rfl rfl rfl ?_
  refine J_ld 2 jw hj rfl rfl rfl rfl ?_
  refine J_bin jw hj rfl rfl ?_
  refine J_cst 4 jw hj rfl rfl rfl ?_
  refine J_bin jw hj rfl rfl ?_
  refine J_ifc (t := 12) jw hj rfl (evn rfl) rfl (fun (h0 : iAnd (iUshr a1 a2) 1 = 0) => ?_) (fun (h0 : ¬ iAnd (iUshr a1 a2) 1 = 0) => ?_)
  · refine J_cst 13 jw hj rfl rfl rfl ?_
    exact J_ret rfl (Or.inl rfl) (fun aw hR => by show _ ∧ _; unfold f_X11_isIn; rw [if_pos h0]; exact ⟨rfl, hR⟩)
  · refine J_cst 9 jw hj rfl rfl rfl ?_
    refine J_goto 13 jw hj rfl rfl ?_
    exact J_ret rfl (Or.inl rfl) (fun aw hR => by show _ ∧ _; unfold f_X11_isIn; rw [if_neg h0]; exact ⟨rfl, hR⟩)
def f_X9_advance  (H : hH) : hH :=
  if iAdd (H.1 4 9) 1 < H.1 4 7 then
    (upL (upI (upI (upI H 4 9 (iAdd (H.1 4 9) 1)) 4 10 (H.1 7 ((iAdd (H.1 4 9) 1)).toNat)) 4 11 (H.1 9 ((iAdd (H.1 4 9) 1)).toNat)) 4 12 (H.2.1 10 ((iAdd (H.1 4 9) 1)).toNat))
  else
    H
set_option maxHeartbeats 16000000 in
set_option maxRecDepth 100000 in
theorem sp_X9_advance {g : Nat → Nat}  (H : hH) (hr : RF H.2.2.1) : SP g rvTab rvInf rvRet 316 rvMth 5 [rf (g 4)] H (none) (f_X9_advance H) := by
  have hj : 5 < 316 := by decide
  refine J_SP hj (Nat.le_of_ble_eq_true rfl) ?_
  show J g rvTab rvInf rvRet 316 rvMth 5 _ 0 [rf (g 4)] [] H
  refine J_ld 1 jw hj rfl rfl rfl rfl ?_
  refine J_gfI jw hj rfl (evn rfl) (by decide) rfl (fun r0 => ?_)
  refine J_cst 5 jw hj rfl rfl rfl ?_
  refine J_bin jw hj rfl rfl ?_
  refine J_ld 7 jw hj rfl rfl rfl rfl ?_
  refine J_gfI jw hj rfl (evn rfl) (by decide) rfl (fun r1 => ?_)
  refine J_icmp (t := 62) jw hj rfl (evn rfl) rfl (fun (h0 : ¬ iAdd (H.1 4 9) 1 < H.1 4 7) => ?_) (fun (h0 : iAdd (H.1 4 9) 1 < H.1 4 7) => ?_)
  · exact J_ret rfl (Or.inr (Or.inr rfl)) (fun aw hR => by show _ ∧ _; unfold f_X9_advance; rw [if_neg h0]; exact ⟨rfl, hR⟩)
  · refine J_ld 14 jw hj rfl rfl rfl rfl ?_
    refine J_dup 15 jw hj rfl rfl ?_
    refine J_gfI jw hj rfl (evn rfl) (by decide) rfl (fun r2 => ?_)
    refine J_cst 19 jw hj rfl rfl rfl ?_
    refine J_bin jw hj rfl rfl ?_
    refine J_pfI jw hj rfl (evn rfl) rfl ?_
    refine J_ld 24 jw hj rfl rfl rfl rfl ?_
    refine J_ld 25 jw hj rfl rfl rfl rfl ?_
    refine J_gfR (k := 7) jw hj rfl (evn rfl) (by decide) (by decide) (RFa hr rfl) ?_
    refine J_ld 29 jw hj rfl rfl rfl rfl ?_
    refine J_gfI jw hj rfl (evn rfl) (by decide) rfl (fun r3 => ?_)
    refine J_iald jw hj rfl (Or.inr rfl) (fun z4 r4 => ?_)
    refine J_pfI jw hj rfl (evn rfl) rfl ?_
    refine J_ld 37 jw hj rfl rfl rfl rfl ?_
    refine J_ld 38 jw hj rfl rfl rfl rfl ?_
    refine J_gfR (k := 9) jw hj rfl (evn rfl) (by decide) (by decide) (RFa hr rfl) ?_
    refine J_ld 42 jw hj rfl rfl rfl rfl ?_
    refine J_gfI jw hj rfl (evn rfl) (by decide) rfl (fun r5 => ?_)
    refine J_iald jw hj rfl (Or.inl rfl) (fun z6 r6 => ?_)
    refine J_pfI jw hj rfl (evn rfl) rfl ?_
    refine J_ld 50 jw hj rfl rfl rfl rfl ?_
    refine J_ld 51 jw hj rfl rfl rfl rfl ?_
    refine J_gfR (k := 10) jw hj rfl (evn rfl) (by decide) (by decide) (RFa hr rfl) ?_
    refine J_ld 55 jw hj rfl rfl rfl rfl ?_
    refine J_gfI jw hj rfl (evn rfl) (by decide) rfl (fun r7 => ?_)
    refine J_lald jw hj rfl (evn rfl) (fun _ => ?_)
    refine J_pfL jw hj rfl (evn rfl) rfl ?_
    exact J_ret rfl (Or.inr (Or.inr rfl)) (fun aw hR => by show _ ∧ _; unfold f_X9_advance; rw [if_pos h0]; exact ⟨rfl, hR⟩)
theorem rf_X9_advance  (H : hH) (hr : RF H.2.2.1) : RF (f_X9_advance H).2.2.1 := by
  unfold f_X9_advance
  by_cases q1 : iAdd (H.1 4 9) 1 < H.1 4 7
  · rw [if_pos q1]
    exact hr
  · rw [if_neg q1]
    exact hr
def f_X9_fail (a1 : Int) (H : hH) : Int × hH :=
  (0, (upI (upI H 4 13 a1) 4 14 (H.1 8 (H.1 4 9).toNat)))
set_option maxHeartbeats 16000000 in
set_option maxRecDepth 100000 in
theorem sp_X9_fail {g : Nat → Nat} (a1 : Int) (H : hH) (hr : RF H.2.2.1) : SP g rvTab rvInf rvRet 316 rvMth 9 [rf (g 4), pt a1] H (some (pt (f_X9_fail a1 H).1)) (f_X9_fail a1 H).2 := by
  have hj : 9 < 316 := by decide
  refine J_SP hj (Nat.le_of_ble_eq_true rfl) ?_
  show J g rvTab rvInf rvRet 316 rvMth 9 _ 0 [rf (g 4), pt a1] [] H
  refine J_ld 1 jw hj rfl rfl rfl rfl ?_
  refine J_ld 2 jw hj rfl rfl rfl rfl ?_
  refine J_pfI jw hj rfl (evn rfl) rfl ?_
  refine J_ld 6 jw hj rfl rfl rfl rfl ?_
  refine J_ld 7 jw hj rfl rfl rfl rfl ?_
  refine J_gfR (k := 8) jw hj rfl (evn rfl) (by decide) (by decide) (RFa hr rfl) ?_
  refine J_ld 11 jw hj rfl rfl rfl rfl ?_
  refine J_gfI jw hj rfl (evn rfl) (by decide) rfl (fun r0 => ?_)
  refine J_iald jw hj rfl (Or.inl rfl) (fun z1 r1 => ?_)
  refine J_pfI jw hj rfl (evn rfl) rfl ?_
  refine J_cst 19 jw hj rfl rfl rfl ?_
  exact J_ret rfl (Or.inl rfl) (fun aw hR => by show _ ∧ _; unfold f_X9_fail; exact ⟨rfl, hR⟩)
theorem rf_X9_fail (a1 : Int) (H : hH) (hr : RF H.2.2.1) : RF (f_X9_fail a1 H).2.2.2.1 := by
  unfold f_X9_fail
  exact hr
def f_X9_isAtSign (a1 : Int) (H : hH) : Int :=
  if H.1 4 10 = 2 then
    if H.1 4 11 = a1 then
      1
    else
      0
  else
    0
set_option maxHeartbeats 16000000 in
set_option maxRecDepth 100000 in
theorem sp_X9_isAtSign {g : Nat → Nat} (a1 : Int) (H : hH) : SP g rvTab rvInf rvRet 316 rvMth 148 [rf (g 4), pt a1] H (some (pt (f_X9_isAtSign a1 H))) H := by
  have hj : 148 < 316 := by decide
  refine J_SP hj (Nat.le_of_ble_eq_true rfl) ?_
  show J g rvTab rvInf rvRet 316 rvMth 148 _ 0 [rf (g 4), pt a1] [] H
  refine J_ld 1 jw hj rfl rfl rfl rfl ?_
  refine J_gfI jw hj rfl (evn rfl) (by decide) rfl (fun r0 => ?_)
  refine J_cst 5 jw hj rfl rfl rfl ?_
  refine J_icmp (t := 20) jw hj rfl (evn rfl) rfl (fun (h0 : ¬ H.1 4 10 = 2) => ?_) (fun (h0 : H.1 4 10 = 2) => ?_)
  · refine J_cst 21 jw hj rfl rfl rfl ?_
    exact J_ret rfl (Or.inl rfl) (fun aw hR => by show _ ∧ _; unfold f_X9_isAtSign; rw [if_neg h0]; exact ⟨rfl, hR⟩)
  · refine J_ld 9 jw hj rfl rfl rfl rfl ?_
    refine J_gfI jw hj rfl (evn rfl) (by decide) rfl (fun r1 => ?_)
    refine J_ld 13 jw hj rfl rfl rfl rfl ?_
    refine J_icmp (t := 20) jw hj rfl (evn rfl) rfl (fun (h1 : ¬ H.1 4 11 = a1) => ?_) (fun (h1 : H.1 4 11 = a1) => ?_)
    · refine J_cst 21 jw hj rfl rfl rfl ?_
      exact J_ret rfl (Or.inl rfl) (fun aw hR => by show _ ∧ _; unfold f_X9_isAtSign; rw [if_pos h0, if_neg h1]; exact ⟨rfl, hR⟩)
    · refine J_cst 17 jw hj rfl rfl rfl ?_
      refine J_goto 21 jw hj rfl rfl ?_
      exact J_ret rfl (Or.inl rfl) (fun aw hR => by show _ ∧ _; unfold f_X9_isAtSign; rw [if_pos h0, if_pos h1]; exact ⟨rfl, hR⟩)
def f_X9_isAtWord (a1 : Int) (H : hH) : Int :=
  if H.1 4 10 = 4 then
    if H.1 4 11 = a1 then
      1
    else
      0
  else
    0
set_option maxHeartbeats 16000000 in
set_option maxRecDepth 100000 in
theorem sp_X9_isAtWord {g : Nat → Nat} (a1 : Int) (H : hH) : SP g rvTab rvInf rvRet 316 rvMth 136 [rf (g 4), pt a1] H (some (pt (f_X9_isAtWord a1 H))) H := by
  have hj : 136 < 316 := by decide
  refine J_SP hj (Nat.le_of_ble_eq_true rfl) ?_
  show J g rvTab rvInf rvRet 316 rvMth 136 _ 0 [rf (g 4), pt a1] [] H
  refine J_ld 1 jw hj rfl rfl rfl rfl ?_
  refine J_gfI jw hj rfl (evn rfl) (by decide) rfl (fun r0 => ?_)
  refine J_cst 5 jw hj rfl rfl rfl ?_
  refine J_icmp (t := 20) jw hj rfl (evn rfl) rfl (fun (h0 : ¬ H.1 4 10 = 4) => ?_) (fun (h0 : H.1 4 10 = 4) => ?_)
  · refine J_cst 21 jw hj rfl rfl rfl ?_
    exact J_ret rfl (Or.inl rfl) (fun aw hR => by show _ ∧ _; unfold f_X9_isAtWord; rw [if_neg h0]; exact ⟨rfl, hR⟩)
  · refine J_ld 9 jw hj rfl rfl rfl rfl ?_
    refine J_gfI jw hj rfl (evn rfl) (by decide) rfl (fun r1 => ?_)
    refine J_ld 13 jw hj rfl rfl rfl rfl ?_
    refine J_icmp (t := 20) jw hj rfl (evn rfl) rfl (fun (h1 : ¬ H.1 4 11 = a1) => ?_) (fun (h1 : H.1 4 11 = a1) => ?_)
    · refine J_cst 21 jw hj rfl rfl rfl ?_
      exact J_ret rfl (Or.inl rfl) (fun aw hR => by show _ ∧ _; unfold f_X9_isAtWord; rw [if_pos h0, if_neg h1]; exact ⟨rfl, hR⟩)
    · refine J_cst 17 jw hj rfl rfl rfl ?_
      refine J_goto 21 jw hj rfl rfl ?_
      exact J_ret rfl (Or.inl rfl) (fun aw hR => by show _ ∧ _; unfold f_X9_isAtWord; rw [if_pos h0, if_pos h1]; exact ⟨rfl, hR⟩)
def f_X9_passSign (a1 : Int) (H : hH) : Int × hH :=
  if f_X9_isAtSign a1 H = 0 then
    ((f_X9_fail 1 H).1, (f_X9_fail 1 H).2)
  else
    (1, (f_X9_advance H))
set_option maxHeartbeats 16000000 in
set_option maxRecDepth 100000 in
theorem sp_X9_passSign {g : Nat → Nat} (a1 : Int) (H : hH) (hr : RF H.2.2.1) : SP g rvTab rvInf rvRet 316 rvMth 10 [rf (g 4), pt a1] H (some (pt (f_X9_passSign a1 H).1)) (f_X9_passSign a1 H).2 := by
  have hj : 10 < 316 := by decide
  refine J_SP hj (Nat.le_of_ble_eq_true rfl) ?_
  show J g rvTab rvInf rvRet 316 rvMth 10 _ 0 [rf (g 4), pt a1] [] H
  refine J_ld 1 jw hj rfl rfl rfl rfl ?_
  refine J_ld 2 jw hj rfl rfl rfl rfl ?_
  refine J_callV1 jw rfl (Or.inl ⟨_, rfl⟩) rfl rfl (sp_X9_isAtSign (g := g) a1 H) ?_
  refine J_ifc (t := 14) jw hj rfl (evn rfl) rfl (fun (h0 : ¬ f_X9_isAtSign a1 H = 0) => ?_) (fun (h0 : f_X9_isAtSign a1 H = 0) => ?_)
  · refine J_ld 15 jw hj rfl rfl rfl rfl ?_
    refine J_callV0 jw rfl (Or.inl ⟨_, rfl⟩) rfl rfl (sp_X9_advance (g := g) H hr) ?_
    refine J_cst 19 jw hj rfl rfl rfl ?_
    exact J_ret rfl (Or.inl rfl) (fun aw hR => by show _ ∧ _; unfold f_X9_passSign; rw [if_neg h0]; exact ⟨rfl, hR⟩)
  · refine J_ld 9 jw hj rfl rfl rfl rfl ?_
    refine J_cst 10 jw hj rfl rfl rfl ?_
    refine J_callV1 jw rfl (Or.inl ⟨_, rfl⟩) rfl rfl (sp_X9_fail (g := g) 1 H hr) ?_
    exact J_ret rfl (Or.inl rfl) (fun aw hR => by show _ ∧ _; unfold f_X9_passSign; rw [if_pos h0]; exact ⟨rfl, hR⟩)
theorem rf_X9_passSign (a1 : Int) (H : hH) (hr : RF H.2.2.1) : RF (f_X9_passSign a1 H).2.2.2.1 := by
  unfold f_X9_passSign
  by_cases q1 : f_X9_isAtSign a1 H = 0
  · rw [if_pos q1]
    exact (rf_X9_fail 1 H hr)
  · rw [if_neg q1]
    exact (rf_X9_advance H hr)
def f_X9_passNumber (a1 : Int) (a2 : Int) (H : hH) : Int × hH :=
  if H.1 4 10 = 3 then
    if f_X11_isWithin (H.1 4 11) a1 a2 = 0 then
      ((-1), (f_X9_fail 2 H).2)
    else
      (H.1 4 11, (f_X9_advance H))
  else
    ((-1), (f_X9_fail 1 H).2)
set_option maxHeartbeats 16000000 in
set_option maxRecDepth 100000 in
theorem sp_X9_passNumber {g : Nat → Nat} (a1 : Int) (a2 : Int) (H : hH) (hr : RF H.2.2.1) : SP g rvTab rvInf rvRet 316 rvMth 12 [rf (g 4), pt a1, pt a2] H (some (pt (f_X9_passNumber a1 a2 H).1)) (f_X9_passNumber a1 a2 H).2 := by
  have hj : 12 < 316 := by decide
  refine J_SP hj (Nat.le_of_ble_eq_true rfl) ?_
  show J g rvTab rvInf rvRet 316 rvMth 12 _ 0 [rf (g 4), pt a1, pt a2, rvU] [] H
  refine J_ld 1 jw hj rfl rfl rfl rfl ?_
  refine J_gfI jw hj rfl (evn rfl) (by decide) rfl (fun r0 => ?_)
  refine J_cst 5 jw hj rfl rfl rfl ?_
  refine J_icmp (t := 16) jw hj rfl (evn rfl) rfl (fun (h0 : H.1 4 10 = 3) => ?_) (fun (h0 : ¬ H.1 4 10 = 3) => ?_)
  · refine J_ld 17 jw hj rfl rfl rfl rfl ?_
    refine J_gfI jw hj rfl (evn rfl) (by decide) rfl (fun r1 => ?_)
    refine J_st 21 [rf (g 4), pt a1, pt a2, pt (H.1 4 11)] (k := 3) jw hj rfl (Or.inr (Or.inr (Or.inl ⟨_, rfl, rfl, rfl⟩))) rfl ?_
    refine J_ld 22 jw hj rfl rfl rfl rfl ?_
    refine J_ld 23 jw hj rfl rfl rfl rfl ?_
    refine J_ld 24 jw hj rfl rfl rfl rfl ?_
    refine J_callS1 jw rfl rfl rfl rfl (sp_X11_isWithin (g := g) (H.1 4 11) a1 a2 H) ?_
    refine J_ifc (t := 38) jw hj rfl (evn rfl) rfl (fun (h1 : ¬ f_X11_isWithin (H.1 4 11) a1 a2 = 0) => ?_) (fun (h1 : f_X11_isWithin (H.1 4 11) a1 a2 = 0) => ?_)
    · refine J_ld 39 jw hj rfl rfl rfl rfl ?_
      refine J_callV0 jw rfl (Or.inl ⟨_, rfl⟩) rfl rfl (sp_X9_advance (g := g) H hr) ?_
      refine J_ld 43 jw hj rfl rfl rfl rfl ?_
      exact J_ret rfl (Or.inl rfl) (fun aw hR => by show _ ∧ _; unfold f_X9_passNumber; rw [if_pos h0, if_neg h1]; exact ⟨rfl, hR⟩)
    · refine J_ld 31 jw hj rfl rfl rfl rfl ?_
      refine J_cst 32 jw hj rfl rfl rfl ?_
      refine J_callV1 jw rfl (Or.inl ⟨_, rfl⟩) rfl rfl (sp_X9_fail (g := g) 2 H hr) ?_
      refine J_pop 36 jw hj rfl rfl ?_
      refine J_cst 37 jw hj rfl rfl rfl ?_
      exact J_ret rfl (Or.inl rfl) (fun aw hR => by show _ ∧ _; unfold f_X9_passNumber; rw [if_pos h0, if_pos h1]; exact ⟨rfl, hR⟩)
  · refine J_ld 9 jw hj rfl rfl rfl rfl ?_
    refine J_cst 10 jw hj rfl rfl rfl ?_
    refine J_callV1 jw rfl (Or.inl ⟨_, rfl⟩) rfl rfl (sp_X9_fail (g := g) 1 H hr) ?_
    refine J_pop 14 jw hj rfl rfl ?_
    refine J_cst 15 jw hj rfl rfl rfl ?_
    exact J_ret rfl (Or.inl rfl) (fun aw hR => by show _ ∧ _; unfold f_X9_passNumber; rw [if_neg h0]; exact ⟨rfl, hR⟩)
theorem rf_X9_passNumber (a1 : Int) (a2 : Int) (H : hH) (hr : RF H.2.2.1) : RF (f_X9_passNumber a1 a2 H).2.2.2.1 := by
  unfold f_X9_passNumber
  by_cases q1 : H.1 4 10 = 3
  · rw [if_pos q1]
    by_cases q2 : f_X11_isWithin (H.1 4 11) a1 a2 = 0
    · rw [if_pos q2]
      exact (rf_X9_fail 2 H hr)
    · rw [if_neg q2]
      exact (rf_X9_advance H hr)
  · rw [if_neg q1]
    exact (rf_X9_fail 1 H hr)
def f_X10_addName (a1 : Int64) (a2 : Int) (H : hH) : Int × hH :=
  (H.1 61 (a2).toNat, (upI (upL H 62 (iAdd (iMul a2 10) (H.1 61 (a2).toNat)).toNat a1) 61 (a2).toNat (iAdd (H.1 61 (a2).toNat) 1)))
set_option maxHeartbeats 16000000 in
set_option maxRecDepth 100000 in
theorem sp_X10_addName {g : Nat → Nat} (a1 : Int64) (a2 : Int) (H : hH) (hr : RF H.2.2.1) : SP g rvTab rvInf rvRet 316 rvMth 134 [rf (g 60), lg a1, pt a2] H (some (pt (f_X10_addName a1 a2 H).1)) (f_X10_addName a1 a2 H).2 := by
  have hj : 134 < 316 := by decide
  refine J_SP hj (Nat.le_of_ble_eq_true rfl) ?_
  show J g rvTab rvInf rvRet 316 rvMth 134 _ 0 [rf (g 60), lg a1, rvU, pt a2, rvU] [] H
  refine J_ld 1 jw hj rfl rfl rfl rfl ?_
  refine J_gfR (k := 61) jw hj rfl (evn rfl) (by decide) (by decide) (RFa hr rfl) ?_
  refine J_ld 5 jw hj rfl rfl rfl rfl ?_
  refine J_iald jw hj rfl (Or.inl rfl) (fun z0 r0 => ?_)
  refine J_st 8 [rf (g 60), lg a1, rvU, pt a2, pt (H.1 61 (a2).toNat)] (k := 4) jw hj rfl (Or.inl ⟨rfl, rfl⟩) rfl ?_
  refine J_ld 9 jw hj rfl rfl rfl rfl ?_
  refine J_gfR (k := 62) jw hj rfl (evn rfl) (by decide) (by decide) (RFa hr rfl) ?_
  refine J_ld 13 jw hj rfl rfl rfl rfl ?_
  refine J_cst 15 jw hj rfl rfl rfl ?_
  refine J_bin jw hj rfl rfl ?_
  refine J_ld 18 jw hj rfl rfl rfl rfl ?_
  refine J_bin jw hj rfl rfl ?_
  refine J_ld 20 jw hj rfl rfl rfl rfl ?_
  refine J_last jw hj rfl (evn rfl) (fun _ => ?_)
  refine J_ld 22 jw hj rfl rfl rfl rfl ?_
  refine J_gfR (k := 61) jw hj rfl (evn rfl) (by decide) (by decide) (RFa hr rfl) ?_
  refine J_ld 26 jw hj rfl rfl rfl rfl ?_
  refine J_ld 28 jw hj rfl rfl rfl rfl ?_
  refine J_cst 29 jw hj rfl rfl rfl ?_
  refine J_bin jw hj rfl rfl ?_
  refine J_iast jw hj rfl (Or.inl rfl) (fun _ => ?_)
  refine J_ld 33 jw hj rfl rfl rfl rfl ?_
  exact J_ret rfl (Or.inl rfl) (fun aw hR => by show _ ∧ _; unfold f_X10_addName; exact ⟨rfl, hR⟩)
theorem rf_X10_addName (a1 : Int64) (a2 : Int) (H : hH) (hr : RF H.2.2.1) : RF (f_X10_addName a1 a2 H).2.2.2.1 := by
  unfold f_X10_addName
  exact hr
def f_X12_isSmall (a1 : Int) : Int :=
  if a1 < 97 then
    0
  else
    if 122 < a1 then
      0
    else
      1
set_option maxHeartbeats 16000000 in
set_option maxRecDepth 100000 in
theorem sp_X12_isSmall {g : Nat → Nat} (a1 : Int) (H : hH) : SP g rvTab rvInf rvRet 316 rvMth 169 [pt a1] H (some (pt (f_X12_isSmall a1))) H := by
  have hj : 169 < 316 := by decide
  refine J_SP hj (Nat.le_of_ble_eq_true rfl) ?_
  show J g rvTab rvInf rvRet 316 rvMth 169 _ 0 [pt a1] [] H
  refine J_ld 1 jw hj rfl rfl rfl rfl ?_
  refine J_cst 3 jw hj rfl rfl rfl ?_
  refine J_icmp (t := 16) jw hj rfl (evn rfl) rfl (fun (h0 : a1 < 97) => ?_) (fun (h0 : ¬ a1 < 97) => ?_)
  · refine J_cst 17 jw hj rfl rfl rfl ?_
    exact J_ret rfl (Or.inl rfl) (fun aw hR => by show _ ∧ _; unfold f_X12_isSmall; rw [if_pos h0]; exact ⟨rfl, hR⟩)
  · refine J_ld 7 jw hj rfl rfl rfl rfl ?_
    refine J_cst 9 jw hj rfl rfl rfl ?_
    refine J_icmp (t := 16) jw hj rfl (evn rfl) rfl (fun (h1 : 122 < a1) => ?_) (fun (h1 : ¬ 122 < a1) => ?_)
    · refine J_cst 17 jw hj rfl rfl rfl ?_
      exact J_ret rfl (Or.inl rfl) (fun aw hR => by show _ ∧ _; unfold f_X12_isSmall; rw [if_neg h0, if_pos h1]; exact ⟨rfl, hR⟩)
    · refine J_cst 13 jw hj rfl rfl rfl ?_
      refine J_goto 17 jw hj rfl rfl ?_
      exact J_ret rfl (Or.inl rfl) (fun aw hR => by show _ ∧ _; unfold f_X12_isSmall; rw [if_neg h0, if_neg h1]; exact ⟨rfl, hR⟩)
def f_X12_isDigit (a1 : Int) : Int :=
  if a1 < 48 then
    0
  else
    if 57 < a1 then
      0
    else
      1
set_option maxHeartbeats 16000000 in
set_option maxRecDepth 100000 in
theorem sp_X12_isDigit {g : Nat → Nat} (a1 : Int) (H : hH) : SP g rvTab rvInf rvRet 316 rvMth 170 [pt a1] H (some (pt (f_X12_isDigit a1))) H := by
  have hj : 170 < 316 := by decide
  refine J_SP hj (Nat.le_of_ble_eq_true rfl) ?_
  show J g rvTab rvInf rvRet 316 rvMth 170 _ 0 [pt a1] [] H
  refine J_ld 1 jw hj rfl rfl rfl rfl ?_
  refine J_cst 3 jw hj rfl rfl rfl ?_
  refine J_icmp (t := 16) jw hj rfl (evn rfl) rfl (fun (h0 : a1 < 48) => ?_) (fun (h0 : ¬ a1 < 48) => ?_)
  · refine J_cst 17 jw hj rfl rfl rfl ?_
    exact J_ret rfl (Or.inl rfl) (fun aw hR => by show _ ∧ _; unfold f_X12_isDigit; rw [if_pos h0]; exact ⟨rfl, hR⟩)
  · refine J_ld 7 jw hj rfl rfl rfl rfl ?_
    refine J_cst 9 jw hj rfl rfl rfl ?_
    refine J_icmp (t := 16) jw hj rfl (evn rfl) rfl (fun (h1 : 57 < a1) => ?_) (fun (h1 : ¬ 57 < a1) => ?_)
    · refine J_cst 17 jw hj rfl rfl rfl ?_
      exact J_ret rfl (Or.inl rfl) (fun aw hR => by show _ ∧ _; unfold f_X12_isDigit; rw [if_neg h0, if_pos h1]; exact ⟨rfl, hR⟩)
    · refine J_cst 13 jw hj rfl rfl rfl ?_
      refine J_goto 17 jw hj rfl rfl ?_
      exact J_ret rfl (Or.inl rfl) (fun aw hR => by show _ ∧ _; unfold f_X12_isDigit; rw [if_neg h0, if_neg h1]; exact ⟨rfl, hR⟩)
def f_X12_isIn (a1 : Int) (a2 : Int) (a3 : Int) : Int :=
  if a1 < a2 then
    0
  else
    if a3 < a1 then
      0
    else
      1
set_option maxHeartbeats 16000000 in
set_option maxRecDepth 100000 in
theorem sp_X12_isIn {g : Nat → Nat} (a1 : Int) (a2 : Int) (a3 : Int) (H : hH) : SP g rvTab rvInf rvRet 316 rvMth 160 [pt a1, pt a2, pt a3] H (some (pt (f_X12_isIn a1 a2 a3))) H := by
  have hj : 160 < 316 := by decide
  refine J_SP hj (Nat.le_of_ble_eq_true rfl) ?_
  show J g rvTab rvInf rvRet 316 rvMth 160 _ 0 [pt a1, pt a2, pt a3] [] H
  refine J_ld 1 jw hj rfl rfl rfl rfl ?_
  refine J_ld 2 jw hj rfl rfl rfl rfl ?_
  refine J_icmp (t := 14) jw hj rfl (evn rfl) rfl (fun (h0 : a1 < a2) => ?_) (fun (h0 : ¬ a1 < a2) => ?_)
  · refine J_cst 15 jw hj rfl rfl rfl ?_
    exact J_ret rfl (Or.inl rfl) (fun aw hR => by show _ ∧ _; unfold f_X12_isIn; rw [if_pos h0]; exact ⟨rfl, hR⟩)
  · refine J_ld 6 jw hj rfl rfl rfl rfl ?_
    refine J_ld 7 jw hj rfl rfl rfl rfl ?_
    refine J_icmp (t := 14) jw hj rfl (evn rfl) rfl (fun (h1 : a3 < a1) => ?_) (fun (h1 : ¬ a3 < a1) => ?_)
    · refine J_cst 15 jw hj rfl rfl rfl ?_
      exact J_ret rfl (Or.inl rfl) (fun aw hR => by show _ ∧ _; unfold f_X12_isIn; rw [if_neg h0, if_pos h1]; exact ⟨rfl, hR⟩)
    · refine J_cst 11 jw hj rfl rfl rfl ?_
      refine J_goto 15 jw hj rfl rfl ?_
      exact J_ret rfl (Or.inl rfl) (fun aw hR => by show _ ∧ _; unfold f_X12_isIn; rw [if_neg h0, if_neg h1]; exact ⟨rfl, hR⟩)
def f_X12_bitOf (a1 : Int) (a2 : Int) : Int :=
  if iAnd (iShr a1 a2) 1 = 1 then
    1
  else
    0
set_option maxHeartbeats 16000000 in
set_option maxRecDepth 100000 in
theorem sp_X12_bitOf {g : Nat → Nat} (a1 : Int) (a2 : Int) (H : hH) : SP g rvTab rvInf rvRet 316 rvMth 162 [pt a1, pt a2] H (some (pt (f_X12_bitOf a1 a2))) H := by
  have hj : 162 < 316 := by decide
  refine J_SP hj (Nat.le_of_ble_eq_true rfl) ?_
  show J g rvTab rvInf rvRet 316 rvMth 162 _ 0 [pt a1, pt a2] [] H
  refine J_ld 1 jw hj rfl rfl rfl rfl ?_
  refine J_ld 2 jw hj rfl rfl rfl rfl ?_
  refine J_bin jw hj rfl rfl ?_
  refine J_cst 4 jw hj rfl rfl rfl ?_
  refine J_bin jw hj rfl rfl ?_
  refine J_cst 6 jw hj rfl rfl rfl ?_
  refine J_icmp (t := 13) jw hj rfl (evn rfl) rfl (fun (h0 : ¬ iAnd (iShr a1 a2) 1 = 1) => ?_) (fun (h0 : iAnd (iShr a1 a2) 1 = 1) => ?_)
  · refine J_cst 14 jw hj rfl rfl rfl ?_
    exact J_ret rfl (Or.inl rfl) (fun aw hR => by show _ ∧ _; unfold f_X12_bitOf; rw [if_neg h0]; exact ⟨rfl, hR⟩)
  · refine J_cst 10 jw hj rfl rfl rfl ?_
    refine J_goto 14 jw hj rfl rfl ?_
    exact J_ret rfl (Or.inl rfl) (fun aw hR => by show _ ∧ _; unfold f_X12_bitOf; rw [if_pos h0]; exact ⟨rfl, hR⟩)
def f_X12_greater (a1 : Int) (a2 : Int) : Int :=
  if a2 < a1 then
    a1
  else
    a2
set_option maxHeartbeats 16000000 in
set_option maxRecDepth 100000 in
theorem sp_X12_greater {g : Nat → Nat} (a1 : Int) (a2 : Int) (H : hH) : SP g rvTab rvInf rvRet 316 rvMth 164 [pt a1, pt a2] H (some (pt (f_X12_greater a1 a2))) H := by
  have hj : 164 < 316 := by decide
  refine J_SP hj (Nat.le_of_ble_eq_true rfl) ?_
  show J g rvTab rvInf rvRet 316 rvMth 164 _ 0 [pt a1, pt a2] [] H
  refine J_ld 1 jw hj rfl rfl rfl rfl ?_
  refine J_ld 2 jw hj rfl rfl rfl rfl ?_
  refine J_icmp (t := 9) jw hj rfl (evn rfl) rfl (fun (h0 : ¬ a2 < a1) => ?_) (fun (h0 : a2 < a1) => ?_)
  · refine J_ld 10 jw hj rfl rfl rfl rfl ?_
    exact J_ret rfl (Or.inl rfl) (fun aw hR => by show _ ∧ _; unfold f_X12_greater; rw [if_neg h0]; exact ⟨rfl, hR⟩)
  · refine J_ld 6 jw hj rfl rfl rfl rfl ?_
    refine J_goto 10 jw hj rfl rfl ?_
    exact J_ret rfl (Or.inl rfl) (fun aw hR => by show _ ∧ _; unfold f_X12_greater; rw [if_pos h0]; exact ⟨rfl, hR⟩)
def f_X12_peek  (H : hH) : Int :=
  if H.1 29 4 < H.1 29 3 then
    iAnd (H.1 30 (H.1 29 4).toNat) 255
  else
    (-1)
set_option maxHeartbeats 16000000 in
set_option maxRecDepth 100000 in
theorem sp_X12_peek {g : Nat → Nat}  (H : hH) (hr : RM H.2.2.1) : SP g rvTab rvInf rvRet 316 rvMth 168 [rf (g 29)] H (some (pt (f_X12_peek H))) H := by
  have hj : 168 < 316 := by decide
  refine J_SP hj (Nat.le_of_ble_eq_true rfl) ?_
  show J g rvTab rvInf rvRet 316 rvMth 168 _ 0 [rf (g 29)] [] H
  refine J_ld 1 jw hj rfl rfl rfl rfl ?_
  refine J_gfI jw hj rfl (evn rfl) (by decide) rfl (fun r0 => ?_)
  refine J_ld 5 jw hj rfl rfl rfl rfl ?_
  refine J_gfI jw hj rfl (evn rfl) (by decide) rfl (fun r1 => ?_)
  refine J_icmp (t := 27) jw hj rfl (evn rfl) rfl (fun (h0 : ¬ H.1 29 4 < H.1 29 3) => ?_) (fun (h0 : H.1 29 4 < H.1 29 3) => ?_)
  · refine J_cst 28 jw hj rfl rfl rfl ?_
    exact J_ret rfl (Or.inl rfl) (fun aw hR => by show _ ∧ _; unfold f_X12_peek; rw [if_neg h0]; exact ⟨rfl, hR⟩)
  · refine J_ld 12 jw hj rfl rfl rfl rfl ?_
    refine J_gfR (k := 30) jw hj rfl (evn rfl) (by decide) (by decide) (RMa hr rfl) ?_
    refine J_ld 16 jw hj rfl rfl rfl rfl ?_
    refine J_gfI jw hj rfl (evn rfl) (by decide) rfl (fun r2 => ?_)
    refine J_iald jw hj rfl (Or.inr rfl) (fun z3 r3 => ?_)
    refine J_cst 23 jw hj rfl rfl rfl ?_
    refine J_bin jw hj rfl rfl ?_
    refine J_goto 28 jw hj rfl rfl ?_
    exact J_ret rfl (Or.inl rfl) (fun aw hR => by show _ ∧ _; unfold f_X12_peek; rw [if_pos h0]; exact ⟨rfl, hR⟩)
def f_X12_bad (a1 : Int) (H : hH) : Int × hH :=
  (0, (upI (upI H 29 15 a1) 29 16 (H.1 29 12)))
set_option maxHeartbeats 16000000 in
set_option maxRecDepth 100000 in
theorem sp_X12_bad {g : Nat → Nat} (a1 : Int) (H : hH) : SP g rvTab rvInf rvRet 316 rvMth 19 [rf (g 29), pt a1] H (some (pt (f_X12_bad a1 H).1)) (f_X12_bad a1 H).2 := by
  have hj : 19 < 316 := by decide
  refine J_SP hj (Nat.le_of_ble_eq_true rfl) ?_
  show J g rvTab rvInf rvRet 316 rvMth 19 _ 0 [rf (g 29), pt a1] [] H
  refine J_ld 1 jw hj rfl rfl rfl rfl ?_
  refine J_ld 2 jw hj rfl rfl rfl rfl ?_
  refine J_pfI jw hj rfl (evn rfl) rfl ?_
  refine J_ld 6 jw hj rfl rfl rfl rfl ?_
  refine J_ld 7 jw hj rfl rfl rfl rfl ?_
  refine J_gfI jw hj rfl (evn rfl) (by decide) rfl (fun r0 => ?_)
  refine J_pfI jw hj rfl (evn rfl) rfl ?_
  refine J_cst 14 jw hj rfl rfl rfl ?_
  exact J_ret rfl (Or.inl rfl) (fun aw hR => by show _ ∧ _; unfold f_X12_bad; exact ⟨rfl, hR⟩)
theorem rf_X12_bad (a1 : Int) (H : hH) (hr : RM H.2.2.1) : RM (f_X12_bad a1 H).2.2.2.1 := by
  unfold f_X12_bad
  exact hr
def f_X12_isWord (a1 : Int64) (H : hH) : Int :=
  if H.1 29 11 = 1 then
    if ((lg_cmp (H.2.1 29 17) a1).toInt) = 0 then
      1
    else
      0
  else
    0
set_option maxHeartbeats 16000000 in
set_option maxRecDepth 100000 in
theorem sp_X12_isWord {g : Nat → Nat} (a1 : Int64) (H : hH) : SP g rvTab rvInf rvRet 316 rvMth 155 [rf (g 29), lg a1] H (some (pt (f_X12_isWord a1 H))) H := by
  have hj : 155 < 316 := by decide
  refine J_SP hj (Nat.le_of_ble_eq_true rfl) ?_
  show J g rvTab rvInf rvRet 316 rvMth 155 _ 0 [rf (g 29), lg a1, rvU] [] H
  refine J_ld 1 jw hj rfl rfl rfl rfl ?_
  refine J_gfI jw hj rfl (evn rfl) (by decide) rfl (fun r0 => ?_)
  refine J_cst 5 jw hj rfl rfl rfl ?_
  refine J_icmp (t := 21) jw hj rfl (evn rfl) rfl (fun (h0 : ¬ H.1 29 11 = 1) => ?_) (fun (h0 : H.1 29 11 = 1) => ?_)
  · refine J_cst 22 jw hj rfl rfl rfl ?_
    exact J_ret rfl (Or.inl rfl) (fun aw hR => by show _ ∧ _; unfold f_X12_isWord; rw [if_neg h0]; exact ⟨rfl, hR⟩)
  · refine J_ld 9 jw hj rfl rfl rfl rfl ?_
    refine J_gfL jw hj rfl (evn rfl) (by decide) rfl ?_
    refine J_ld 13 jw hj rfl rfl rfl rfl ?_
    refine J_lcmp jw hj rfl (evn rfl) ?_
    refine J_ifc (t := 21) jw hj rfl (evn rfl) rfl (fun (h1 : ¬ ((lg_cmp (H.2.1 29 17) a1).toInt) = 0) => ?_) (fun (h1 : ((lg_cmp (H.2.1 29 17) a1).toInt) = 0) => ?_)
    · refine J_cst 22 jw hj rfl rfl rfl ?_
      exact J_ret rfl (Or.inl rfl) (fun aw hR => by show _ ∧ _; unfold f_X12_isWord; rw [if_pos h0, if_neg h1]; exact ⟨rfl, hR⟩)
    · refine J_cst 18 jw hj rfl rfl rfl ?_
      refine J_goto 22 jw hj rfl rfl ?_
      exact J_ret rfl (Or.inl rfl) (fun aw hR => by show _ ∧ _; unfold f_X12_isWord; rw [if_pos h0, if_pos h1]; exact ⟨rfl, hR⟩)
def f_X12_isSign (a1 : Int) (H : hH) : Int :=
  if H.1 29 11 = 3 then
    if H.1 29 14 = a1 then
      1
    else
      0
  else
    0
set_option maxHeartbeats 16000000 in
set_option maxRecDepth 100000 in
theorem sp_X12_isSign {g : Nat → Nat} (a1 : Int) (H : hH) : SP g rvTab rvInf rvRet 316 rvMth 167 [rf (g 29), pt a1] H (some (pt (f_X12_isSign a1 H))) H := by
  have hj : 167 < 316 := by decide
  refine J_SP hj (Nat.le_of_ble_eq_true rfl) ?_
  show J g rvTab rvInf rvRet 316 rvMth 167 _ 0 [rf (g 29), pt a1] [] H
  refine J_ld 1 jw hj rfl rfl rfl rfl ?_
  refine J_gfI jw hj rfl (evn rfl) (by decide) rfl (fun r0 => ?_)
  refine J_cst 5 jw hj rfl rfl rfl ?_
  refine J_icmp (t := 20) jw hj rfl (evn rfl) rfl (fun (h0 : ¬ H.1 29 11 = 3) => ?_) (fun (h0 : H.1 29 11 = 3) => ?_)
  · refine J_cst 21 jw hj rfl rfl rfl ?_
    exact J_ret rfl (Or.inl rfl) (fun aw hR => by show _ ∧ _; unfold f_X12_isSign; rw [if_neg h0]; exact ⟨rfl, hR⟩)
  · refine J_ld 9 jw hj rfl rfl rfl rfl ?_
    refine J_gfI jw hj rfl (evn rfl) (by decide) rfl (fun r1 => ?_)
    refine J_ld 13 jw hj rfl rfl rfl rfl ?_
    refine J_icmp (t := 20) jw hj rfl (evn rfl) rfl (fun (h1 : ¬ H.1 29 14 = a1) => ?_) (fun (h1 : H.1 29 14 = a1) => ?_)
    · refine J_cst 21 jw hj rfl rfl rfl ?_
      exact J_ret rfl (Or.inl rfl) (fun aw hR => by show _ ∧ _; unfold f_X12_isSign; rw [if_pos h0, if_neg h1]; exact ⟨rfl, hR⟩)
    · refine J_cst 17 jw hj rfl rfl rfl ?_
      refine J_goto 21 jw hj rfl rfl ?_
      exact J_ret rfl (Or.inl rfl) (fun aw hR => by show _ ∧ _; unfold f_X12_isSign; rw [if_pos h0, if_pos h1]; exact ⟨rfl, hR⟩)
def f_X12_taken (a1 : Int) (H : hH) : hH :=
  (upI (upI (upI (upI H 29 3 (H.1 29 2)) 29 2 0) 29 4 0) 29 5 a1)
set_option maxHeartbeats 16000000 in
set_option maxRecDepth 100000 in
theorem sp_X12_taken {g : Nat → Nat} (a1 : Int) (H : hH) : SP g rvTab rvInf rvRet 316 rvMth 153 [rf (g 29), pt a1] H (none) (f_X12_taken a1 H) := by
  have hj : 153 < 316 := by decide
  refine J_SP hj (Nat.le_of_ble_eq_true rfl) ?_
  show J g rvTab rvInf rvRet 316 rvMth 153 _ 0 [rf (g 29), pt a1] [] H
  refine J_ld 1 jw hj rfl rfl rfl rfl ?_
  refine J_ld 2 jw hj rfl rfl rfl rfl ?_
  refine J_gfI jw hj rfl (evn rfl) (by decide) rfl (fun r0 => ?_)
  refine J_pfI jw hj rfl (evn rfl) rfl ?_
  refine J_ld 9 jw hj rfl rfl rfl rfl ?_
  refine J_cst 10 jw hj rfl rfl rfl ?_
  refine J_pfI jw hj rfl (evn rfl) rfl ?_
  refine J_ld 14 jw hj rfl rfl rfl rfl ?_
  refine J_cst 15 jw hj rfl rfl rfl ?_
  refine J_pfI jw hj rfl (evn rfl) rfl ?_
  refine J_ld 19 jw hj rfl rfl rfl rfl ?_
  refine J_ld 20 jw hj rfl rfl rfl rfl ?_
  refine J_pfI jw hj rfl (evn rfl) rfl ?_
  exact J_ret rfl (Or.inr (Or.inr rfl)) (fun aw hR => by show _ ∧ _; unfold f_X12_taken; exact ⟨rfl, hR⟩)
theorem rf_X12_taken (a1 : Int) (H : hH) (hr : RM H.2.2.1) : RM (f_X12_taken a1 H).2.2.1 := by
  unfold f_X12_taken
  exact hr
