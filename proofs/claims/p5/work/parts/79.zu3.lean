/-! The class's sentence, whole (written by wip/p42/xs.py). -/
def rzL : List (Nat × Nat × Nat) := rsL ++ [(0, 0, 4), (0, 8, 14), (0, 1, 56), (56, 0, 52)]
def RZ (r : Nat → Nat → Option Nat) : Prop := ∀ q ∈ rzL, r q.1 q.2.1 = some q.2.2
theorem RZa {r : Nat → Nat → Option Nat} (h : RZ r) {p f k : Nat} (hm : rzL.elem (p, f, k) = true) : r p f = some k := h (p, f, k) (List.elem_iff.mp hm)
theorem RZs {r : Nat → Nat → Option Nat} (h : RZ r) : RS r := fun q hq => h q (List.mem_append_left _ hq)
theorem up2_414 (R : hH) (v : Int) : (upI (upI R 0 14 v) 4 2 0).1 4 14 = R.1 4 14 := by
  unfold upI
  rfl
def f_X11_snt (a1 : Int) (H : hH) : Int × hH :=
  if (H.1 4 13) = 0 then
    (a1, (upR (upI (upI H 0 14 (H.1 4 13)) 4 2 0) 0 13 (some 60)))
  else
    (iSub (-1) (H.1 4 14), (upI (upI H 0 14 (H.1 4 13)) 4 2 0))
set_option maxHeartbeats 16000000 in
set_option maxRecDepth 100000 in
theorem jx_X11_snt {g : Nat → Nat} (a1 : Int) (H : hH) (hr : RZ H.2.2.1) : J g rvTab rvInf rvRet 316 rvMth 307 (fun res => res.1 = some (pt (f_X11_snt a1 H).1) ∧ RH g res.2 (f_X11_snt a1 H).2) 24 [rf (g 0), rf (g 60), pt a1] [] H := by
  have hj : 307 < 316 := by decide
  refine J_ld 25 jw hj rfl rfl rfl rfl ?_
  refine J_ld 26 jw hj rfl rfl rfl rfl ?_
  refine J_gfR (k := 4) jw hj rfl (evn rfl) (by decide) (by decide) (RZa (p := 0) (f := 0) (k := 4) hr rfl) ?_
  refine J_gfI jw hj rfl (evn rfl) (by decide) rfl (fun r0 => ?_)
  refine J_pfI jw hj rfl (evn rfl) rfl ?_
  refine J_ld 36 jw hj rfl rfl rfl rfl ?_
  refine J_gfR (k := 4) jw hj rfl (evn rfl) (by decide) (by decide) (RZa (p := 0) (f := 0) (k := 4) hr rfl) ?_
  refine J_cst 40 jw hj rfl rfl rfl ?_
  refine J_pfI jw hj rfl (evn rfl) rfl ?_
  refine J_ld 44 jw hj rfl rfl rfl rfl ?_
  refine J_gfI jw hj rfl (evn rfl) (by decide) rfl (fun r1 => ?_)
  refine J_ifc (t := 60) jw hj rfl (evn rfl) rfl (fun (h0 : (H.1 4 13) = 0) => ?_) (fun (h0 : ¬ (H.1 4 13) = 0) => ?_)
  · refine J_ld 61 jw hj rfl rfl rfl rfl ?_
    refine J_ld 62 jw hj rfl rfl rfl rfl ?_
    refine J_pfR jw hj rfl (evn rfl) (by decide) ?_
    refine J_ld 66 jw hj rfl rfl rfl rfl ?_
    exact J_ret rfl (Or.inl rfl) (fun aw hR => by show _ ∧ _; unfold f_X11_snt; rw [if_pos h0]; exact ⟨rfl, hR⟩)
  · refine J_cst 51 jw hj rfl rfl rfl ?_
    refine J_ld 52 jw hj rfl rfl rfl rfl ?_
    refine J_gfR (k := 4) jw hj rfl (evn rfl) (by decide) (by decide) (RZa (p := 0) (f := 0) (k := 4) hr rfl) ?_
    refine J_gfI jw hj rfl (evn rfl) (by decide) rfl (fun r2 => ?_)
    refine J_bin jw hj rfl rfl ?_
    refine J_ret rfl (Or.inl rfl) (fun aw hR => ?_)
    have e9 : f_X11_snt a1 H = (iSub (-1) (H.1 4 14), upI (upI H 0 14 (H.1 4 13)) 4 2 0) := if_neg h0
    have e8 : (upI (upI H 0 14 (H.1 4 13)) 4 2 0).1 4 14 = H.1 4 14 := up2_414 H _
    rw [e9]
    refine ⟨?_, hR⟩
    dsimp only [List.head?_cons]
    rw [e8]
def f_X11_sentence (H : hH) : Int × hH := f_X11_snt (f_X7_read (f_X6_init (upN H))).1 (f_X7_read (f_X6_init (upN H))).2
set_option maxHeartbeats 16000000 in
theorem sp_X11_sentence {g : Nat → Nat} (H : hH) (hn : H.2.2.2 = 60) (hg : ∀ n, 60 ≤ n → g (n + 1) = g n + 1) (hr : RZ (upR (upR (f_X6_init (upN H)) 14 1 (some 52)) 14 2 (some 60)).2.2.1) : SP g rvTab rvInf rvRet 316 rvMth 307 [rf (g 0)] H (some (pt (f_X11_sentence H).1)) (f_X11_sentence H).2 := by
  have hj : 307 < 316 := by decide
  refine J_SP hj (Nat.le_of_ble_eq_true rfl) ?_
  show J g rvTab rvInf rvRet 316 rvMth 307 _ 0 [rf (g 0), rvU, rvU] [] H
  refine J_new 3 (n := 60) jw hj rfl hn (hg _ (by decide)) rfl ?_
  refine J_dup 4 jw hj rfl rfl ?_
  refine J_callV0 jw rfl (Or.inr ⟨⟨_, rfl⟩, rfl⟩) rfl rfl (sp_X6_init (g := g) (upN H) (upN_n hn) hg) ?_
  refine J_st 8 [rf (g 0), rf (g 60), rvU] (k := 1) jw hj rfl (Or.inr (Or.inr (Or.inr ⟨_, rfl, rfl, rfl⟩))) rfl ?_
  refine J_ld 9 jw hj rfl rfl rfl rfl ?_
  refine J_gfR (k := 14) jw hj rfl (evn rfl) (by decide) (by decide) (RZa (p := 0) (f := 8) (k := 14) hr rfl) ?_
  refine J_ld 13 jw hj rfl rfl rfl rfl ?_
  refine J_ld 14 jw hj rfl rfl rfl rfl ?_
  refine J_gfR (k := 56) jw hj rfl (evn rfl) (by decide) (by decide) (RZa (p := 0) (f := 1) (k := 56) hr rfl) ?_
  refine J_gfR (k := 52) jw hj rfl (evn rfl) (by decide) (by decide) (RZa (p := 56) (f := 0) (k := 52) hr rfl) ?_
  refine J_callV1 jw rfl (Or.inl ⟨_, rfl⟩) rfl rfl (sp_X7_read (g := g) (f_X6_init (upN H)) (RZs hr)) ?_
  refine J_st 24 [rf (g 0), rf (g 60), pt ((f_X7_read (f_X6_init (upN H))).1)] (k := 2) jw hj rfl (Or.inr (Or.inr (Or.inl ⟨_, rfl, rfl, rfl⟩))) rfl ?_
  exact jx_X11_snt _ _ (rp_X7_read _ hr)
