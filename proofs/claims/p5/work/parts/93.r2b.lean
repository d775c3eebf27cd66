/-! What the lists of what is written leave (by hand). -/
def pjNo (ms : List Nat) : Bool := ghNo ms 66 && (ghNo ms 95 && (ghNo ms 65 && ghNo ms 90))
theorem pj_M : pjNo xlM = true := by decide +kernel
theorem pj_M2 : pjNo xlM2 = true := by decide +kernel
theorem pj_M3 : pjNo xlM3 = true := by decide +kernel
theorem pj_MS : pjNo xlMS = true := by decide +kernel
theorem pj_MI : pjNo xlMI = true := by decide +kernel
theorem pj_MR : pjNo xlMR = true := by decide +kernel
theorem pj_MX : pjNo xlMX = true := by decide +kernel
theorem mt_M : msT xlM = true := by decide +kernel
theorem mt_MA : msT xlMA = true := by decide +kernel
theorem no_MA : (ghNo xlMA 66 && ghNo xlMA 95) = true := by decide +kernel
theorem no_M2 : (ghNo xlM2 89 && (ghNo xlM2 90 && (ghNo xlM2 95 && (ghNo xlM2 91 && ghNo xlM2 108)))) = true := by decide +kernel
theorem no_M3 : (ghNo xlM3 7 && (ghNo xlM3 9 && (ghNo xlM3 10 && ghNo xlM3 108))) = true := by decide +kernel
theorem no_MS : (ghNo xlMS 7 && (ghNo xlMS 9 && (ghNo xlMS 10 && ghNo xlMS 108))) = true := by decide +kernel
theorem no_MI : (ghNo xlMI 7 && (ghNo xlMI 9 && (ghNo xlMI 10 && ghLt xlMI 91 91))) = true := by decide +kernel
theorem no_MR : (ghNo xlMR 7 && (ghNo xlMR 9 && (ghNo xlMR 10 && ghNo xlMR 108))) = true := by decide +kernel
theorem no_MX : (ghNo xlMX 110 && frSub xlMX xlMR) = true := by decide +kernel
theorem lw_f339 : lwF 339 = false := by decide +kernel
theorem lw_f1034 : lwF 1034 = false := by decide +kernel
theorem lw_f1409 : lwF 1409 = false := by decide +kernel
theorem mn_M : msN xlM = true := by decide +kernel
theorem mn_MA : msN xlMA = true := by decide +kernel
theorem no2_M2 : (ghNo xlM2 94 && ghNo xlM2 109) = true := by decide +kernel
theorem no2_M3 : (ghNo xlM3 8 && ghNo xlM3 109) = true := by decide +kernel
theorem no2_MS : (ghNo xlMS 8 && (ghNo xlMS 94 && (ghNo xlMS 109 && (ghLt xlMS 91 24 && ghNo xlMS 108)))) = true := by decide +kernel
theorem no2_MI : (ghNo xlMI 8 && ghNo xlMI 94) = true := by decide +kernel
theorem no2_MR : (ghNo xlMR 8 && ghNo xlMR 109) = true := by decide +kernel
theorem no2_MX : (ghNo xlMX 94 && ghNo xlMX 109) = true := by decide +kernel
theorem PI_keepJ {ms T pl T1 pl1 : List Nat} {aw aw1 : rvH} (h : gS T pl aw) (hP : PI pl aw) (hf : lwFr ms T pl aw T1 pl1 aw1) (hj : pjNo ms = true) (hx : exH aw1) : PI pl1 aw1 := by
  obtain ⟨m1, hj⟩ := rv_and hj
  obtain ⟨m2, hj⟩ := rv_and hj
  obtain ⟨m3, m4⟩ := rv_and hj
  exact PI_keepG h hP hf m1 m2 m3 m4 hx
/-- the life's town is one -/
theorem hf_one {t t' : Nat} {aw : rvH} (h : HF t aw) (h' : HF t' aw) : t' = t := rf_inj (hV_one h'.2.2.2.2.1 h.2.2.2.2.1)
theorem mn_MW : msN xlMW = true := by decide +kernel
theorem mt_MW : msT xlMW = true := by decide +kernel
theorem pj_MW : pjNo xlMW = true := by decide +kernel
theorem fk_M : fkNo xlM = true := by decide +kernel
theorem fk_MA : fkNo xlMA = true := by decide +kernel
theorem fk_MI : fkNo xlMI = true := by decide +kernel
theorem fk_MR : fkNo xlMR = true := by decide +kernel
theorem fk_MS : fkNo xlMS = true := by decide +kernel
theorem fk_MX : fkNo xlMX = true := by decide +kernel
theorem fk_M3 : ghAt xlM3 60 14 = true := by decide +kernel
theorem fk_MZ : ghAt xlMZ 60 14 = true := by decide +kernel
