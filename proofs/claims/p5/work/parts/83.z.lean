theorem lw_all : lwAllK := by
  refine ⟨fun w hw h4 h0 h2 h28 h42 h43 h3 h40 h38 => ?_, ⟨_, _, xlK_4⟩, ⟨_, _, xlK_45⟩, ⟨_, _, xlK_100⟩, ⟨_, _, xlK_0⟩, ⟨_, _, xlK_3⟩, ⟨_, _, xlK_38⟩, ⟨_, _, xlK_42⟩⟩
  match w, hw, h4, h0, h2, h28, h42, h43, h3, h40, h38 with
  | 0, _, _, h, _, _, _, _, _, _, _ => exact absurd rfl h
  | 1, _, _, _, _, _, _, _, _, _, _ => exact ⟨_, _, xlK_1⟩
  | 2, _, _, _, h, _, _, _, _, _, _ => exact absurd rfl h
  | 3, _, _, _, _, _, _, _, h, _, _ => exact absurd rfl h
  | 4, _, h, _, _, _, _, _, _, _, _ => exact absurd rfl h
  | 5, _, _, _, _, _, _, _, _, _, _ => exact ⟨_, _, xlK_5⟩
  | 6, _, _, _, _, _, _, _, _, _, _ => exact ⟨_, _, xlK_6⟩
  | 7, _, _, _, _, _, _, _, _, _, _ => exact ⟨_, _, xlK_7⟩
  | 8, _, _, _, _, _, _, _, _, _, _ => exact ⟨_, _, xlK_8⟩
  | 9, _, _, _, _, _, _, _, _, _, _ => exact ⟨_, _, xlK_9⟩
  | 10, _, _, _, _, _, _, _, _, _, _ => exact ⟨_, _, xlK_10⟩
  | 11, _, _, _, _, _, _, _, _, _, _ => exact ⟨_, _, xlK_11⟩
  | 12, _, _, _, _, _, _, _, _, _, _ => exact ⟨_, _, xlK_12⟩
  | 13, _, _, _, _, _, _, _, _, _, _ => exact ⟨_, _, xlK_13⟩
  | 14, _, _, _, _, _, _, _, _, _, _ => exact ⟨_, _, xlK_14⟩
  | 15, _, _, _, _, _, _, _, _, _, _ => exact ⟨_, _, xlK_15⟩
  | 16, _, _, _, _, _, _, _, _, _, _ => exact ⟨_, _, xlK_16⟩
  | 17, _, _, _, _, _, _, _, _, _, _ => exact ⟨_, _, xlK_17⟩
  | 18, _, _, _, _, _, _, _, _, _, _ => exact ⟨_, _, xlK_18⟩
  | 19, _, _, _, _, _, _, _, _, _, _ => exact ⟨_, _, xlK_19⟩
  | 20, _, _, _, _, _, _, _, _, _, _ => exact ⟨_, _, xlK_20⟩
  | 21, _, _, _, _, _, _, _, _, _, _ => exact ⟨_, _, xlK_21⟩
  | 22, _, _, _, _, _, _, _, _, _, _ => exact ⟨_, _, xlK_22⟩
  | 23, _, _, _, _, _, _, _, _, _, _ => exact ⟨_, _, xlK_23⟩
  | 24, _, _, _, _, _, _, _, _, _, _ => exact ⟨_, _, xlK_24⟩
  | 25, _, _, _, _, _, _, _, _, _, _ => exact ⟨_, _, xlK_25⟩
  | 26, _, _, _, _, _, _, _, _, _, _ => exact ⟨_, _, xlK_26⟩
  | 27, _, _, _, _, _, _, _, _, _, _ => exact ⟨_, _, xlK_27⟩
  | 28, _, _, _, _, h, _, _, _, _, _ => exact absurd rfl h
  | 29, _, _, _, _, _, _, _, _, _, _ => exact ⟨_, _, xlK_29⟩
  | 30, _, _, _, _, _, _, _, _, _, _ => exact ⟨_, _, xlK_30⟩
  | 31, _, _, _, _, _, _, _, _, _, _ => exact ⟨_, _, xlK_31⟩
  | 32, _, _, _, _, _, _, _, _, _, _ => exact ⟨_, _, xlK_32⟩
  | 33, _, _, _, _, _, _, _, _, _, _ => exact ⟨_, _, xlK_33⟩
  | 34, _, _, _, _, _, _, _, _, _, _ => exact ⟨_, _, xlK_34⟩
  | 35, _, _, _, _, _, _, _, _, _, _ => exact ⟨_, _, xlK_35⟩
  | 36, _, _, _, _, _, _, _, _, _, _ => exact ⟨_, _, xlK_36⟩
  | 37, _, _, _, _, _, _, _, _, _, _ => exact ⟨_, _, xlK_37⟩
  | 38, _, _, _, _, _, _, _, _, _, h => exact absurd rfl h
  | 39, _, _, _, _, _, _, _, _, _, _ => exact ⟨_, _, xlK_39⟩
  | 40, _, _, _, _, _, _, _, _, h, _ => exact absurd rfl h
  | 41, _, _, _, _, _, _, _, _, _, _ => exact ⟨_, _, xlK_41⟩
  | 42, _, _, _, _, _, h, _, _, _, _ => exact absurd rfl h
  | 43, _, _, _, _, _, _, h, _, _, _ => exact absurd rfl h
  | 44, _, _, _, _, _, _, _, _, _, _ => exact ⟨_, _, xlK_44⟩
  | n + 45, h, _, _, _, _, _, _, _, _, _ => exact absurd h (by omega)
theorem lw_m9 : rvMth 316 = some 9 := rfl
theorem lw_inf : (rvInf 316).2.2.1 = 20 ∧ (rvInf 316).2.2.2.1 = 400 ∧ (rvInf 316).1 = 12 := ⟨rfl, rfl, rfl⟩
theorem lwRows_ok2 (h : ∀ k, k < 44 → (tb_316[k]?.map (fun ch => ch.2.all lwRow)) = some true) (hl : tb_316.length = 44) (he : rvEn 316 = tb_316) : lwRows := by
  intro pc e hf
  have hf : rvFind2 (rvEn 316) pc = some e := hf
  rw [he] at hf
  obtain ⟨ch, h1, h2⟩ := rvFind2_mem hf
  obtain ⟨k, hk⟩ := List.getElem?_of_mem h1
  have := h k (by have := (List.getElem?_eq_some_iff.mp hk).1; omega)
  rw [hk] at this
  exact List.all_eq_true.mp (Option.some.inj this) _ h2
theorem lw_rows : lwRows := lwRows_ok2 (fun k hk => by
  match k, hk with
  | 0, _ => exact lwr_0
  | 1, _ => exact lwr_1
  | 2, _ => exact lwr_2
  | 3, _ => exact lwr_3
  | 4, _ => exact lwr_4
  | 5, _ => exact lwr_5
  | 6, _ => exact lwr_6
  | 7, _ => exact lwr_7
  | 8, _ => exact lwr_8
  | 9, _ => exact lwr_9
  | 10, _ => exact lwr_10
  | 11, _ => exact lwr_11
  | 12, _ => exact lwr_12
  | 13, _ => exact lwr_13
  | 14, _ => exact lwr_14
  | 15, _ => exact lwr_15
  | 16, _ => exact lwr_16
  | 17, _ => exact lwr_17
  | 18, _ => exact lwr_18
  | 19, _ => exact lwr_19
  | 20, _ => exact lwr_20
  | 21, _ => exact lwr_21
  | 22, _ => exact lwr_22
  | 23, _ => exact lwr_23
  | 24, _ => exact lwr_24
  | 25, _ => exact lwr_25
  | 26, _ => exact lwr_26
  | 27, _ => exact lwr_27
  | 28, _ => exact lwr_28
  | 29, _ => exact lwr_29
  | 30, _ => exact lwr_30
  | 31, _ => exact lwr_31
  | 32, _ => exact lwr_32
  | 33, _ => exact lwr_33
  | 34, _ => exact lwr_34
  | 35, _ => exact lwr_35
  | 36, _ => exact lwr_36
  | 37, _ => exact lwr_37
  | 38, _ => exact lwr_38
  | 39, _ => exact lwr_39
  | 40, _ => exact lwr_40
  | 41, _ => exact lwr_41
  | 42, _ => exact lwr_42
  | 43, _ => exact lwr_43
  | n + 44, h => exact absurd h (by omega)) rfl rfl
