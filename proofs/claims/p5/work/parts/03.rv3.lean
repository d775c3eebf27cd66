/-- the words that every method is given -/
def rvWl : List Cond := lw_tbl.filter goodWord
def rvNl : List Cond := lw_tbl.filter (fun w => match w with
  | .methodLinkNest _ _ _ _ => true
  | .fieldLinkNest _ _ _ _ _ _ => true
  | _ => false)
theorem rvWl_good : ∀ w ∈ rvWl, goodWord w = true := fun w h => (List.mem_filter.mp h).2
def rvW (i : Nat) (w : Cond) : Bool := decide (lw_tbl[i]? = some w) && goodWord w
theorem rvW_ok {i : Nat} {w : Cond} (h : rvW i w = true) : w ∈ rvWl := by
  obtain ⟨h1, h2⟩ := rv_and h
  exact List.mem_filter.mpr ⟨List.mem_of_getElem? (of_decide_eq_true h1), h2⟩
def rvTy : Nat → Nat → FieldType := fun n => (bif Nat.ble 6 n then (bif Nat.ble 9 n then (bif Nat.ble 11 n then (bif Nat.ble 12 n then (bif Nat.beq n 12 then tyX12 else (fun _ => .int)) else (bif Nat.beq n 11 then tyX11 else (fun _ => .int))) else (bif Nat.ble 10 n then (bif Nat.beq n 10 then tyX10 else (fun _ => .int)) else (bif Nat.beq n 9 then tyX9 else (fun _ => .int)))) else (bif Nat.ble 7 n then (bif Nat.ble 8 n then (bif Nat.beq n 8 then tyX8 else (fun _ => .int)) else (bif Nat.beq n 7 then tyX7 else (fun _ => .int))) else (bif Nat.beq n 6 then tyX6 else (fun _ => .int)))) else (bif Nat.ble 3 n then (bif Nat.ble 4 n then (bif Nat.ble 5 n then (bif Nat.beq n 5 then tyX5 else (fun _ => .int)) else (bif Nat.beq n 4 then tyX4 else (fun _ => .int))) else (bif Nat.beq n 3 then tyX3 else (fun _ => .int))) else (bif Nat.ble 1 n then (bif Nat.ble 2 n then (bif Nat.beq n 2 then tyX2 else (fun _ => .int)) else (bif Nat.beq n 1 then tyX1 else (fun _ => .int))) else (bif Nat.beq n 0 then tyX0 else (fun _ => .int)))))
def rvNf : Nat → Nat := fun n => (bif Nat.ble 6 n then (bif Nat.ble 9 n then (bif Nat.ble 11 n then (bif Nat.ble 12 n then (bif Nat.beq n 12 then 55 else 0) else (bif Nat.beq n 11 then 15 else 0)) else (bif Nat.ble 10 n then (bif Nat.beq n 10 then 8 else 0) else (bif Nat.beq n 9 then 15 else 0))) else (bif Nat.ble 7 n then (bif Nat.ble 8 n then (bif Nat.beq n 8 then 5 else 0) else (bif Nat.beq n 7 then 4 else 0)) else (bif Nat.beq n 6 then 5 else 0))) else (bif Nat.ble 3 n then (bif Nat.ble 4 n then (bif Nat.ble 5 n then (bif Nat.beq n 5 then 10 else 0) else (bif Nat.beq n 4 then 2 else 0)) else (bif Nat.beq n 3 then 2 else 0)) else (bif Nat.ble 1 n then (bif Nat.ble 2 n then (bif Nat.beq n 2 then 11 else 0) else (bif Nat.beq n 1 then 3 else 0)) else (bif Nat.beq n 0 then 9 else 0))))
def rvCn : Nat → String := fun n => (bif Nat.ble 6 n then (bif Nat.ble 9 n then (bif Nat.ble 11 n then (bif Nat.ble 12 n then (bif Nat.beq n 12 then RX12 else "") else (bif Nat.beq n 11 then RX11 else "")) else (bif Nat.ble 10 n then (bif Nat.beq n 10 then RX10 else "") else (bif Nat.beq n 9 then RX9 else ""))) else (bif Nat.ble 7 n then (bif Nat.ble 8 n then (bif Nat.beq n 8 then RX8 else "") else (bif Nat.beq n 7 then RX7 else "")) else (bif Nat.beq n 6 then RX6 else ""))) else (bif Nat.ble 3 n then (bif Nat.ble 4 n then (bif Nat.ble 5 n then (bif Nat.beq n 5 then RX5 else "") else (bif Nat.beq n 4 then RX4 else "")) else (bif Nat.beq n 3 then RX3 else "")) else (bif Nat.ble 1 n then (bif Nat.ble 2 n then (bif Nat.beq n 2 then RX2 else "") else (bif Nat.beq n 1 then RX1 else "")) else (bif Nat.beq n 0 then RX0 else ""))))
def rvFt : Nat → u_T := fun n => (bif Nat.ble 6 n then (bif Nat.ble 9 n then (bif Nat.ble 11 n then (bif Nat.ble 12 n then (bif Nat.beq n 12 then TX12 else (fun _ => ("", "", "", false))) else (bif Nat.beq n 11 then TX11 else (fun _ => ("", "", "", false)))) else (bif Nat.ble 10 n then (bif Nat.beq n 10 then TX10 else (fun _ => ("", "", "", false))) else (bif Nat.beq n 9 then TX9 else (fun _ => ("", "", "", false))))) else (bif Nat.ble 7 n then (bif Nat.ble 8 n then (bif Nat.beq n 8 then TX8 else (fun _ => ("", "", "", false))) else (bif Nat.beq n 7 then TX7 else (fun _ => ("", "", "", false)))) else (bif Nat.beq n 6 then TX6 else (fun _ => ("", "", "", false))))) else (bif Nat.ble 3 n then (bif Nat.ble 4 n then (bif Nat.ble 5 n then (bif Nat.beq n 5 then TX5 else (fun _ => ("", "", "", false))) else (bif Nat.beq n 4 then TX4 else (fun _ => ("", "", "", false)))) else (bif Nat.beq n 3 then TX3 else (fun _ => ("", "", "", false)))) else (bif Nat.ble 1 n then (bif Nat.ble 2 n then (bif Nat.beq n 2 then TX2 else (fun _ => ("", "", "", false))) else (bif Nat.beq n 1 then TX1 else (fun _ => ("", "", "", false)))) else (bif Nat.beq n 0 then TX0 else (fun _ => ("", "", "", false))))))
def rvTx0 : List Int := [115, 116, 114, 101, 101, 116, 32, 116, 114, 97, 109, 32, 112, 101, 114, 115, 111, 110, 32, 109, 97, 114, 107, 32, 114, 105, 100, 101, 115, 32, 104, 97, 115, 32, 104, 97, 116, 101, 115, 32, 109, 97, 110, 32, 119, 111, 109, 97, 110, 32, 97, 119, 97, 121, 32, 103, 101, 116, 115, 32, 108, 111, 115, 101, 115, 32, 109, 111, 118, 101, 115, 32, 108, 101, 97, 118, 101, 115, 32, 99, 111, 109, 101, 115, 32, 121, 101, 97, 114, 32, 111, 114, 32, 97, 110, 100, 32, 110, 111, 116, 32, 105, 110, 32, 109, 105, 110, 100, 115, 32, 109, 97, 114, 107, 115, 32, 110, 117, 109, 98, 101, 114, 32]
def rvTx1 : List Int := [32, 105, 115, 32, 97, 119, 97, 121]
def rvTx2 : List Int := [32, 104, 97, 115, 32, 110, 111, 110, 101]
def rvTx3 : List Int := [32, 104, 97, 115, 32]
def rvTx4 : List Int := []
def rvTx5 : List Int := [32, 97, 110, 100, 32]
def rvTx6 : List Int := [4, 3, 10, 3]
def rvTx7 : List Int := [1431655765, 858993459, 252645135, 16711935, 65535]
def rvTxt : Nat → List Int := fun n => (bif Nat.beq n 0 then rvTx0 else (bif Nat.beq n 1 then rvTx1 else (bif Nat.beq n 2 then rvTx2 else (bif Nat.beq n 3 then rvTx3 else (bif Nat.beq n 4 then rvTx4 else (bif Nat.beq n 5 then rvTx5 else (bif Nat.beq n 10 then rvTx6 else (bif Nat.beq n 11 then rvTx7 else []))))))))
def rvTo : Nat → String := fun n => (bif Nat.beq n 0 then "OboeDistrict$Tape" else (bif Nat.beq n 1 then "OboeDistrict$Plate" else (bif Nat.beq n 2 then "OboeDistrict$Plate" else (bif Nat.beq n 3 then "OboeDistrict$Plate" else (bif Nat.beq n 4 then "OboeDistrict$Plate" else (bif Nat.beq n 5 then "OboeDistrict$Plate" else ""))))))
def rvTi : Nat → Nat := fun n => (bif Nat.beq n 0 then 32 else (bif Nat.beq n 1 then 42 else (bif Nat.beq n 2 then 52 else (bif Nat.beq n 3 then 54 else (bif Nat.beq n 4 then 59 else (bif Nat.beq n 5 then 61 else 0))))))
def rvTs : Nat → String := fun n => (bif Nat.beq n 0 then "street tram person mark rides has hates man woman away gets loses moves leaves comes year or and not in minds marks number " else (bif Nat.beq n 1 then " is away" else (bif Nat.beq n 2 then " has none" else (bif Nat.beq n 3 then " has " else (bif Nat.beq n 4 then "" else (bif Nat.beq n 5 then " and " else ""))))))
def rvSn : Nat → String := fun n => bif Nat.beq n 0 then "MOST_OF" else "LACKS_BIT"
theorem rvTxt_in : ∀ j, j < 12 → (rvTxt j).length < 1000 ∧ ∀ z ∈ rvTxt j, (Int32.ofInt z).toInt = z := by decide +kernel
def rvTyOk (ty : FieldType) : Bool := match ty with
  | .int => true
  | .boolean => true
  | .long => true
  | .object _ => true
  | .array _ => true
  | _ => false
def rvClOk (ci : Nat) (ps : List Nat) (i1 i2 : Nat) : Bool := rvW i1 (.instantiable (rvCn ci) (rvNf ci)) && (rvW i2 (.initialized (rvCn ci)) && (decide (u_ws (rvCn ci) (rvFt ci) (rvNf ci) = ps.filterMap (fun i => lw_tbl[i]?)) && ((u_ws (rvCn ci) (rvFt ci) (rvNf ci)).all goodWord && ((List.range (rvNf ci)).all fun k => rvTyOk (rvTy ci k) && decide (parseFieldDescriptor (rvFt ci k).2.2.1 = some (rvTy ci k))))))
def rvClP (ci : Nat) : Prop := Cond.instantiable (rvCn ci) (rvNf ci) ∈ rvWl ∧ Cond.initialized (rvCn ci) ∈ rvWl ∧ (∀ w ∈ u_ws (rvCn ci) (rvFt ci) (rvNf ci), w ∈ rvWl) ∧ (∀ k, k < rvNf ci → rvTyOk (rvTy ci k) = true ∧ parseFieldDescriptor (rvFt ci k).2.2.1 = some (rvTy ci k))
theorem rvCl_of {ci i1 i2 : Nat} {ps : List Nat} (h : rvClOk ci ps i1 i2 = true) : rvClP ci := by
  obtain ⟨h1, h⟩ := rv_and h
  obtain ⟨h2, h⟩ := rv_and h
  obtain ⟨h3, h⟩ := rv_and h
  obtain ⟨h4, h5⟩ := rv_and h
  have e := of_decide_eq_true h3
  refine ⟨rvW_ok h1, rvW_ok h2, fun w hw => ?_, fun k hk => ?_⟩
  · have g := List.all_eq_true.mp h4 w hw
    rw [e] at hw
    obtain ⟨i, -, hi⟩ := List.mem_filterMap.mp hw
    exact List.mem_filter.mpr ⟨List.mem_of_getElem? hi, g⟩
  · obtain ⟨g1, g2⟩ := rv_and (List.all_eq_true.mp h5 k (List.mem_range.mpr hk))
    exact ⟨g1, of_decide_eq_true g2⟩
theorem rvCl_0 : rvClP 0 := rvCl_of (ps := [327, 329, 331, 333, 335, 337, 339, 341, 343]) (i1 := 313) (i2 := 128) (by decide +kernel)
theorem rvCl_1 : rvClP 1 := rvCl_of (ps := [285, 287, 289]) (i1 := 277) (i2 := 126) (by decide +kernel)
theorem rvCl_2 : rvClP 2 := rvCl_of (ps := [515, 517, 519, 521, 523, 525, 527, 529, 531, 533, 535]) (i1 := 475) (i2 := 133) (by decide +kernel)
theorem rvCl_3 : rvClP 3 := rvCl_of (ps := [548, 550]) (i1 := 539) (i2 := 134) (by decide +kernel)
theorem rvCl_4 : rvClP 4 := rvCl_of (ps := [421, 423]) (i1 := 412) (i2 := 131) (by decide +kernel)
theorem rvCl_5 : rvClP 5 := rvCl_of (ps := [366, 368, 370, 372, 374, 376, 378, 380, 382, 384]) (i1 := 347) (i2 := 129) (by decide +kernel)
theorem rvCl_6 : rvClP 6 := rvCl_of (ps := [899, 901, 903, 905, 907]) (i1 := 889) (i2 := 144) (by decide +kernel)
theorem rvCl_7 : rvClP 7 := rvCl_of (ps := [303, 305, 307, 309]) (i1 := 294) (i2 := 127) (by decide +kernel)
theorem rvCl_8 : rvClP 8 := rvCl_of (ps := [400, 402, 404, 406, 408]) (i1 := 388) (i2 := 130) (by decide +kernel)
theorem rvCl_9 : rvClP 9 := rvCl_of (ps := [238, 240, 242, 244, 246, 248, 250, 252, 254, 256, 258, 260, 262, 264, 266]) (i1 := 154) (i2 := 121) (by decide +kernel)
theorem rvCl_10 : rvClP 10 := rvCl_of (ps := [458, 460, 462, 464, 466, 468, 470, 472]) (i1 := 427) (i2 := 132) (by decide +kernel)
theorem rvCl_11 : rvClP 11 := rvCl_of (ps := [568, 570, 572, 574, 576, 578, 580, 582, 584, 586, 588, 590, 592, 594, 596]) (i1 := 146) (i2 := 120) (by decide +kernel)
theorem rvCl_12 : rvClP 12 := rvCl_of (ps := [1486, 1488, 1490, 1492, 1494, 1496, 1498, 1500, 1502, 1504, 1506, 1508, 1510, 1512, 1514, 1516, 1518, 1520, 1522, 1524, 1526, 1528, 1530, 1532, 1534, 1536, 1538, 1540, 1542, 1544, 1546, 1548, 1550, 1552, 1554, 1556, 1558, 1560, 1562, 1564, 1566, 1568, 1570, 1572, 1574, 1576, 1578, 1580, 1582, 1584, 1586, 1588, 1590, 1592, 1594]) (i1 := 1397) (i2 := 135) (by decide +kernel)
theorem rvCl (ci : Nat) (h : ci < 13) : rvClP ci ∧ vwCl[ci]? = some (rvCn ci, rvFt ci, rvNf ci) ∧ ∀ a, a < rvNf ci → ∀ b, b < rvNf ci → a ≠ b → (rvFt ci a).2.1 ≠ (rvFt ci b).2.1 := by
  match ci, h with
  | 0, _ => exact ⟨rvCl_0, rfl, nmX0⟩
  | 1, _ => exact ⟨rvCl_1, rfl, nmX1⟩
  | 2, _ => exact ⟨rvCl_2, rfl, nmX2⟩
  | 3, _ => exact ⟨rvCl_3, rfl, nmX3⟩
  | 4, _ => exact ⟨rvCl_4, rfl, nmX4⟩
  | 5, _ => exact ⟨rvCl_5, rfl, nmX5⟩
  | 6, _ => exact ⟨rvCl_6, rfl, nmX6⟩
  | 7, _ => exact ⟨rvCl_7, rfl, nmX7⟩
  | 8, _ => exact ⟨rvCl_8, rfl, nmX8⟩
  | 9, _ => exact ⟨rvCl_9, rfl, nmX9⟩
  | 10, _ => exact ⟨rvCl_10, rfl, nmX10⟩
  | 11, _ => exact ⟨rvCl_11, rfl, nmX11⟩
  | 12, _ => exact ⟨rvCl_12, rfl, nmX12⟩
  | n + 13, h => exact absurd h (by omega)
theorem rvCl_none {ci : Nat} (h : ¬ ci < 13) : vwCl[ci]? = none := List.getElem?_eq_none (by simp; omega)
