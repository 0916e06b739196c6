theorem am_lay_good {C : String} {F : u_T} {N : Nat} {w : Cond} (h : w ∈ u_ws C F N) : goodWord w = true := by
  obtain ⟨k, -, rfl⟩ := List.mem_map.mp h
  unfold u_lay
  split <;> rfl
theorem am_inl_0 : ∀ w ∈ u_ws RX0 TX0 14, w ∈ am_Tc0.flatten := by
  intro w hw
  rw [wsX0_at] at hw
  obtain ⟨i, -, hi⟩ := List.mem_filterMap.mp hw
  exact am_at_mem hi
theorem am_inl_1 : ∀ w ∈ u_ws RX1 TX1 9, w ∈ am_Tc0.flatten := by
  intro w hw
  rw [wsX1_at] at hw
  obtain ⟨i, -, hi⟩ := List.mem_filterMap.mp hw
  exact am_at_mem hi
theorem am_inl_2 : ∀ w ∈ u_ws RX2 TX2 25, w ∈ am_Tc0.flatten := by
  intro w hw
  rw [wsX2_at] at hw
  obtain ⟨i, -, hi⟩ := List.mem_filterMap.mp hw
  exact am_at_mem hi
theorem am_inl_3 : ∀ w ∈ u_ws RX3 TX3 6, w ∈ am_Tc0.flatten := by
  intro w hw
  rw [wsX3_at] at hw
  obtain ⟨i, -, hi⟩ := List.mem_filterMap.mp hw
  exact am_at_mem hi
theorem am_inl_4 : ∀ w ∈ u_ws RX4 TX4 19, w ∈ am_Tc0.flatten := by
  intro w hw
  rw [wsX4_at] at hw
  obtain ⟨i, -, hi⟩ := List.mem_filterMap.mp hw
  exact am_at_mem hi
theorem am_inl_5 : ∀ w ∈ u_ws RX6 TX6 24, w ∈ am_Tc0.flatten := by
  intro w hw
  rw [wsX6_at] at hw
  obtain ⟨i, -, hi⟩ := List.mem_filterMap.mp hw
  exact am_at_mem hi
theorem am_inl_6 : ∀ w ∈ u_ws RX7 TX7 5, w ∈ am_Tc0.flatten := by
  intro w hw
  rw [wsX7_at] at hw
  obtain ⟨i, -, hi⟩ := List.mem_filterMap.mp hw
  exact am_at_mem hi
theorem am_inl_7 : ∀ w ∈ u_ws RX8 TX8 7, w ∈ am_Tc0.flatten := by
  intro w hw
  rw [wsX8_at] at hw
  obtain ⟨i, -, hi⟩ := List.mem_filterMap.mp hw
  exact am_at_mem hi
theorem am_inl_8 : ∀ w ∈ u_ws RX9 TX9 8, w ∈ am_Tc0.flatten := by
  intro w hw
  rw [wsX9_at] at hw
  obtain ⟨i, -, hi⟩ := List.mem_filterMap.mp hw
  exact am_at_mem hi
theorem am_inl_9 : ∀ w ∈ u_ws RX10 TX10 17, w ∈ am_Tc0.flatten := by
  intro w hw
  rw [wsX10_at] at hw
  obtain ⟨i, -, hi⟩ := List.mem_filterMap.mp hw
  exact am_at_mem hi
theorem am_inl_10 : ∀ w ∈ u_ws RX11 TX11 13, w ∈ am_Tc0.flatten := by
  intro w hw
  rw [wsX11_at] at hw
  obtain ⟨i, -, hi⟩ := List.mem_filterMap.mp hw
  exact am_at_mem hi
theorem am_inl_11 : ∀ w ∈ u_ws RX12 TX12 106, w ∈ am_Tc0.flatten := by
  intro w hw
  rw [wsX12_at] at hw
  obtain ⟨i, -, hi⟩ := List.mem_filterMap.mp hw
  exact am_at_mem hi
theorem am_CL0 (z : Value) (sc : Option (Nat × (Nat → Int32))) : am_CL am_G0 am_cls0 (am_E0 z sc).1 := by
  intro ci C F N h
  match ci, h with
  | 0, h =>
    cases h
    refine ⟨fun w hw => am_gin (am_inl_0 w hw) (am_lay_good hw), ⟨tyX0, tyX0_ok, fun fs hfs => ?_⟩, nmX0⟩
    cases hfs
    exact ⟨rfl, by decide +kernel, fun b sa => rfl⟩
  | 1, h =>
    cases h
    refine ⟨fun w hw => am_gin (am_inl_1 w hw) (am_lay_good hw), ⟨tyX1, tyX1_ok, fun fs hfs => ?_⟩, nmX1⟩
    cases hfs
    exact ⟨rfl, by decide +kernel, fun b sa => rfl⟩
  | 2, h =>
    cases h
    refine ⟨fun w hw => am_gin (am_inl_2 w hw) (am_lay_good hw), ⟨tyX2, tyX2_ok, fun fs hfs => ?_⟩, nmX2⟩
    cases hfs
    exact ⟨rfl, by decide +kernel, fun b sa => rfl⟩
  | 3, h =>
    cases h
    refine ⟨fun w hw => am_gin (am_inl_3 w hw) (am_lay_good hw), ⟨tyX3, tyX3_ok, fun fs hfs => ?_⟩, nmX3⟩
    cases hfs
    exact ⟨rfl, by decide +kernel, fun b sa => rfl⟩
  | 4, h =>
    cases h
    refine ⟨fun w hw => am_gin (am_inl_4 w hw) (am_lay_good hw), ⟨tyX4, tyX4_ok, fun fs hfs => ?_⟩, nmX4⟩
    cases hfs
    exact ⟨rfl, by decide +kernel, fun b sa => rfl⟩
  | 5, h =>
    cases h
    refine ⟨fun w hw => am_gin (am_inl_5 w hw) (am_lay_good hw), ⟨tyX6, tyX6_ok, fun fs hfs => ?_⟩, nmX6⟩
    cases hfs
    exact ⟨rfl, by decide +kernel, fun b sa => rfl⟩
  | 6, h =>
    cases h
    refine ⟨fun w hw => am_gin (am_inl_6 w hw) (am_lay_good hw), ⟨tyX7, tyX7_ok, fun fs hfs => ?_⟩, nmX7⟩
    cases hfs
    exact ⟨rfl, by decide +kernel, fun b sa => rfl⟩
  | 7, h =>
    cases h
    refine ⟨fun w hw => am_gin (am_inl_7 w hw) (am_lay_good hw), ⟨tyX8, tyX8_ok, fun fs hfs => ?_⟩, nmX8⟩
    cases hfs
    exact ⟨rfl, by decide +kernel, fun b sa => rfl⟩
  | 8, h =>
    cases h
    refine ⟨fun w hw => am_gin (am_inl_8 w hw) (am_lay_good hw), ⟨tyX9, tyX9_ok, fun fs hfs => ?_⟩, nmX9⟩
    cases hfs
    exact ⟨rfl, by decide +kernel, fun b sa => rfl⟩
  | 9, h =>
    cases h
    refine ⟨fun w hw => am_gin (am_inl_9 w hw) (am_lay_good hw), ⟨tyX10, tyX10_ok, fun fs hfs => ?_⟩, nmX10⟩
    cases hfs
    exact ⟨rfl, by decide +kernel, fun b sa => rfl⟩
  | 10, h =>
    cases h
    refine ⟨fun w hw => am_gin (am_inl_10 w hw) (am_lay_good hw), ⟨tyX11, tyX11_ok, fun fs hfs => ?_⟩, nmX11⟩
    cases hfs
    exact ⟨rfl, by decide +kernel, fun b sa => rfl⟩
  | 11, h =>
    cases h
    refine ⟨fun w hw => am_gin (am_inl_11 w hw) (am_lay_good hw), ⟨tyX12, tyX12_ok, fun fs hfs => ?_⟩, nmX12⟩
    cases hfs
    exact ⟨rfl, by decide +kernel, fun b sa => rfl⟩
  | k + 12, h => simp [am_cls0] at h
theorem am_OK0 (z : Value) (sc : Option (Nat × (Nat → Int32))) : am_OK (am_E0 z sc) am_T0 am_cls0 am_Tc0 am_G0 am_Ns0 am_Rs0 am_Zs0 := by
  refine ⟨fun w h g => am_gin h g, fun w h => (List.mem_filter.mp h).2, by decide +kernel, am_CL0 z sc, by decide, ⟨am_gin (am_at_mem (p := 3098) rfl) rfl, am_gin (am_at_mem (p := 3099) rfl) rfl⟩, ?_, ?_⟩
  · intro j M hj hM
    match j, hM with
    | 0, _ => exact absurd hj (Nat.lt_irrefl 0)
    | k + 1, hM => exact am_TB_w M (List.mem_of_getElem? (show am_TB[k]? = some M from hM))
  · intro j M hM q hq
    match j, hM with
    | 0, hM => cases hM; exact List.all_eq_true.mp tk_0 q hq
    | k + 1, hM => exact am_TB_q M (List.mem_of_getElem? (show am_TB[k]? = some M from hM)) q hq
