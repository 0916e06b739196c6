theorem am_lay_good {C : String} {F : u_T} {N : Nat} {w : Cond} (h : w ∈ u_ws C F N) : goodWord w = true := by
  obtain ⟨k, -, rfl⟩ := List.mem_map.mp h
  unfold u_lay
  split <;> rfl
theorem am_CL0 (z : Value) (sc : Option (Nat × (Nat → Int32))) : am_CL am_G0 am_cls0 (am_E0 z sc).1 := by
  intro ci C F N h
  match ci, h with
  | 0, h =>
    cases h
    refine ⟨fun w hw => ?_, ⟨tyX0, tyX0_ok, fun fs hfs => ?_⟩, nmX0⟩
    · rw [wsX0_at] at hw
      obtain ⟨i, -, hi⟩ := List.mem_filterMap.mp hw
      rw [← wsX0_at] at hw
      exact List.mem_filter.mpr ⟨List.mem_of_getElem? hi, am_lay_good hw⟩
    · cases hfs
      exact ⟨rfl, by decide +kernel, fun b sa => rfl⟩
  | 1, h =>
    cases h
    refine ⟨fun w hw => ?_, ⟨tyX1, tyX1_ok, fun fs hfs => ?_⟩, nmX1⟩
    · rw [wsX1_at] at hw
      obtain ⟨i, -, hi⟩ := List.mem_filterMap.mp hw
      rw [← wsX1_at] at hw
      exact List.mem_filter.mpr ⟨List.mem_of_getElem? hi, am_lay_good hw⟩
    · cases hfs
      exact ⟨rfl, by decide +kernel, fun b sa => rfl⟩
  | 2, h =>
    cases h
    refine ⟨fun w hw => ?_, ⟨tyX2, tyX2_ok, fun fs hfs => ?_⟩, nmX2⟩
    · rw [wsX2_at] at hw
      obtain ⟨i, -, hi⟩ := List.mem_filterMap.mp hw
      rw [← wsX2_at] at hw
      exact List.mem_filter.mpr ⟨List.mem_of_getElem? hi, am_lay_good hw⟩
    · cases hfs
      exact ⟨rfl, by decide +kernel, fun b sa => rfl⟩
  | 3, h =>
    cases h
    refine ⟨fun w hw => ?_, ⟨tyX3, tyX3_ok, fun fs hfs => ?_⟩, nmX3⟩
    · rw [wsX3_at] at hw
      obtain ⟨i, -, hi⟩ := List.mem_filterMap.mp hw
      rw [← wsX3_at] at hw
      exact List.mem_filter.mpr ⟨List.mem_of_getElem? hi, am_lay_good hw⟩
    · cases hfs
      exact ⟨rfl, by decide +kernel, fun b sa => rfl⟩
  | 4, h =>
    cases h
    refine ⟨fun w hw => ?_, ⟨tyX4, tyX4_ok, fun fs hfs => ?_⟩, nmX4⟩
    · rw [wsX4_at] at hw
      obtain ⟨i, -, hi⟩ := List.mem_filterMap.mp hw
      rw [← wsX4_at] at hw
      exact List.mem_filter.mpr ⟨List.mem_of_getElem? hi, am_lay_good hw⟩
    · cases hfs
      exact ⟨rfl, by decide +kernel, fun b sa => rfl⟩
  | 5, h =>
    cases h
    refine ⟨fun w hw => ?_, ⟨tyX6, tyX6_ok, fun fs hfs => ?_⟩, nmX6⟩
    · rw [wsX6_at] at hw
      obtain ⟨i, -, hi⟩ := List.mem_filterMap.mp hw
      rw [← wsX6_at] at hw
      exact List.mem_filter.mpr ⟨List.mem_of_getElem? hi, am_lay_good hw⟩
    · cases hfs
      exact ⟨rfl, by decide +kernel, fun b sa => rfl⟩
  | 6, h =>
    cases h
    refine ⟨fun w hw => ?_, ⟨tyX7, tyX7_ok, fun fs hfs => ?_⟩, nmX7⟩
    · rw [wsX7_at] at hw
      obtain ⟨i, -, hi⟩ := List.mem_filterMap.mp hw
      rw [← wsX7_at] at hw
      exact List.mem_filter.mpr ⟨List.mem_of_getElem? hi, am_lay_good hw⟩
    · cases hfs
      exact ⟨rfl, by decide +kernel, fun b sa => rfl⟩
  | 7, h =>
    cases h
    refine ⟨fun w hw => ?_, ⟨tyX8, tyX8_ok, fun fs hfs => ?_⟩, nmX8⟩
    · rw [wsX8_at] at hw
      obtain ⟨i, -, hi⟩ := List.mem_filterMap.mp hw
      rw [← wsX8_at] at hw
      exact List.mem_filter.mpr ⟨List.mem_of_getElem? hi, am_lay_good hw⟩
    · cases hfs
      exact ⟨rfl, by decide +kernel, fun b sa => rfl⟩
  | 8, h =>
    cases h
    refine ⟨fun w hw => ?_, ⟨tyX9, tyX9_ok, fun fs hfs => ?_⟩, nmX9⟩
    · rw [wsX9_at] at hw
      obtain ⟨i, -, hi⟩ := List.mem_filterMap.mp hw
      rw [← wsX9_at] at hw
      exact List.mem_filter.mpr ⟨List.mem_of_getElem? hi, am_lay_good hw⟩
    · cases hfs
      exact ⟨rfl, by decide +kernel, fun b sa => rfl⟩
  | 9, h =>
    cases h
    refine ⟨fun w hw => ?_, ⟨tyX10, tyX10_ok, fun fs hfs => ?_⟩, nmX10⟩
    · rw [wsX10_at] at hw
      obtain ⟨i, -, hi⟩ := List.mem_filterMap.mp hw
      rw [← wsX10_at] at hw
      exact List.mem_filter.mpr ⟨List.mem_of_getElem? hi, am_lay_good hw⟩
    · cases hfs
      exact ⟨rfl, by decide +kernel, fun b sa => rfl⟩
  | 10, h =>
    cases h
    refine ⟨fun w hw => ?_, ⟨tyX11, tyX11_ok, fun fs hfs => ?_⟩, nmX11⟩
    · rw [wsX11_at] at hw
      obtain ⟨i, -, hi⟩ := List.mem_filterMap.mp hw
      rw [← wsX11_at] at hw
      exact List.mem_filter.mpr ⟨List.mem_of_getElem? hi, am_lay_good hw⟩
    · cases hfs
      exact ⟨rfl, by decide +kernel, fun b sa => rfl⟩
  | 11, h =>
    cases h
    refine ⟨fun w hw => ?_, ⟨tyX12, tyX12_ok, fun fs hfs => ?_⟩, nmX12⟩
    · rw [wsX12_at] at hw
      obtain ⟨i, -, hi⟩ := List.mem_filterMap.mp hw
      rw [← wsX12_at] at hw
      exact List.mem_filter.mpr ⟨List.mem_of_getElem? hi, am_lay_good hw⟩
    · cases hfs
      exact ⟨rfl, by decide +kernel, fun b sa => rfl⟩
  | k + 12, h => simp [am_cls0] at h
theorem am_OK0 (z : Value) (sc : Option (Nat × (Nat → Int32))) : am_OK (am_E0 z sc) am_T0 am_cls0 lw_tbl am_G0 am_Ns0 am_Rs0 am_Zs0 := by
  refine ⟨fun w h g => List.mem_filter.mpr ⟨h, g⟩, fun w h => (List.mem_filter.mp h).2, by decide +kernel, am_CL0 z sc, by decide, ⟨List.mem_filter.mpr ⟨am_in_1 (List.mem_of_getElem? (i := 26) rfl), rfl⟩, List.mem_filter.mpr ⟨am_in_1 (List.mem_of_getElem? (i := 27) rfl), rfl⟩⟩, ?_, ?_⟩
  · intro j M hj hM
    match j, hM with
    | 0, _ => exact absurd hj (Nat.lt_irrefl 0)
    | 1, hM => cases hM; exact tw_1
    | 2, hM => cases hM; exact tw_2
    | 3, hM => cases hM; exact tw_3
    | 4, hM => cases hM; exact tw_4
    | 5, hM => cases hM; exact tw_5
    | 6, hM => cases hM; exact tw_6
    | 7, hM => cases hM; exact tw_7
    | 8, hM => cases hM; exact tw_8
    | 9, hM => cases hM; exact tw_9
    | 10, hM => cases hM; exact tw_10
    | 11, hM => cases hM; exact tw_11
    | 12, hM => cases hM; exact tw_12
    | 13, hM => cases hM; exact tw_13
    | 14, hM => cases hM; exact tw_14
    | 15, hM => cases hM; exact tw_15
    | 16, hM => cases hM; exact tw_16
    | 17, hM => cases hM; exact tw_17
    | 18, hM => cases hM; exact tw_18
    | 19, hM => cases hM; exact tw_19
    | 20, hM => cases hM; exact tw_20
    | 21, hM => cases hM; exact tw_21
    | 22, hM => cases hM; exact tw_22
    | 23, hM => cases hM; exact tw_23
    | 24, hM => cases hM; exact tw_24
    | 25, hM => cases hM; exact tw_25
    | 26, hM => cases hM; exact tw_26
    | 27, hM => cases hM; exact tw_27
    | 28, hM => cases hM; exact tw_28
    | 29, hM => cases hM; exact tw_29
    | 30, hM => cases hM; exact tw_30
    | 31, hM => cases hM; exact tw_31
    | 32, hM => cases hM; exact tw_32
    | 33, hM => cases hM; exact tw_33
    | 34, hM => cases hM; exact tw_34
    | 35, hM => cases hM; exact tw_35
    | 36, hM => cases hM; exact tw_36
    | 37, hM => cases hM; exact tw_37
    | 38, hM => cases hM; exact tw_38
    | 39, hM => cases hM; exact tw_39
    | 40, hM => cases hM; exact tw_40
    | 41, hM => cases hM; exact tw_41
    | 42, hM => cases hM; exact tw_42
    | 43, hM => cases hM; exact tw_43
    | 44, hM => cases hM; exact tw_44
    | 45, hM => cases hM; exact tw_45
    | 46, hM => cases hM; exact tw_46
    | 47, hM => cases hM; exact tw_47
    | 48, hM => cases hM; exact tw_48
    | 49, hM => cases hM; exact tw_49
    | 50, hM => cases hM; exact tw_50
    | 51, hM => cases hM; exact tw_51
    | 52, hM => cases hM; exact tw_52
    | 53, hM => cases hM; exact tw_53
    | 54, hM => cases hM; exact tw_54
    | 55, hM => cases hM; exact tw_55
    | 56, hM => cases hM; exact tw_56
    | 57, hM => cases hM; exact tw_57
    | 58, hM => cases hM; exact tw_58
    | 59, hM => cases hM; exact tw_59
    | 60, hM => cases hM; exact tw_60
    | 61, hM => cases hM; exact tw_61
    | 62, hM => cases hM; exact tw_62
    | 63, hM => cases hM; exact tw_63
    | 64, hM => cases hM; exact tw_64
    | 65, hM => cases hM; exact tw_65
    | 66, hM => cases hM; exact tw_66
    | 67, hM => cases hM; exact tw_67
    | 68, hM => cases hM; exact tw_68
    | 69, hM => cases hM; exact tw_69
    | 70, hM => cases hM; exact tw_70
    | 71, hM => cases hM; exact tw_71
    | 72, hM => cases hM; exact tw_72
    | 73, hM => cases hM; exact tw_73
    | 74, hM => cases hM; exact tw_74
    | 75, hM => cases hM; exact tw_75
    | 76, hM => cases hM; exact tw_76
    | k + 77, hM => exact absurd hM (by simp [am_T0])
  · intro j M hM q hq
    match j, hM with
    | 0, hM => cases hM; exact List.all_eq_true.mp tk_0 q hq
    | 1, hM => cases hM; exact List.all_eq_true.mp tk_1 q hq
    | 2, hM => cases hM; exact List.all_eq_true.mp tk_2 q hq
    | 3, hM => cases hM; exact List.all_eq_true.mp tk_3 q hq
    | 4, hM => cases hM; exact List.all_eq_true.mp tk_4 q hq
    | 5, hM => cases hM; exact List.all_eq_true.mp tk_5 q hq
    | 6, hM => cases hM; exact List.all_eq_true.mp tk_6 q hq
    | 7, hM => cases hM; exact List.all_eq_true.mp tk_7 q hq
    | 8, hM => cases hM; exact List.all_eq_true.mp tk_8 q hq
    | 9, hM => cases hM; exact List.all_eq_true.mp tk_9 q hq
    | 10, hM => cases hM; exact List.all_eq_true.mp tk_10 q hq
    | 11, hM => cases hM; exact List.all_eq_true.mp tk_11 q hq
    | 12, hM => cases hM; exact List.all_eq_true.mp tk_12 q hq
    | 13, hM => cases hM; exact List.all_eq_true.mp tk_13 q hq
    | 14, hM => cases hM; exact List.all_eq_true.mp tk_14 q hq
    | 15, hM => cases hM; exact List.all_eq_true.mp tk_15 q hq
    | 16, hM => cases hM; exact List.all_eq_true.mp tk_16 q hq
    | 17, hM => cases hM; exact List.all_eq_true.mp tk_17 q hq
    | 18, hM => cases hM; exact List.all_eq_true.mp tk_18 q hq
    | 19, hM => cases hM; exact List.all_eq_true.mp tk_19 q hq
    | 20, hM => cases hM; exact List.all_eq_true.mp tk_20 q hq
    | 21, hM => cases hM; exact List.all_eq_true.mp tk_21 q hq
    | 22, hM => cases hM; exact List.all_eq_true.mp tk_22 q hq
    | 23, hM => cases hM; exact List.all_eq_true.mp tk_23 q hq
    | 24, hM => cases hM; exact List.all_eq_true.mp tk_24 q hq
    | 25, hM => cases hM; exact List.all_eq_true.mp tk_25 q hq
    | 26, hM => cases hM; exact List.all_eq_true.mp tk_26 q hq
    | 27, hM => cases hM; exact List.all_eq_true.mp tk_27 q hq
    | 28, hM => cases hM; exact List.all_eq_true.mp tk_28 q hq
    | 29, hM => cases hM; exact List.all_eq_true.mp tk_29 q hq
    | 30, hM => cases hM; exact List.all_eq_true.mp tk_30 q hq
    | 31, hM => cases hM; exact List.all_eq_true.mp tk_31 q hq
    | 32, hM => cases hM; exact List.all_eq_true.mp tk_32 q hq
    | 33, hM => cases hM; exact List.all_eq_true.mp tk_33 q hq
    | 34, hM => cases hM; exact List.all_eq_true.mp tk_34 q hq
    | 35, hM => cases hM; exact List.all_eq_true.mp tk_35 q hq
    | 36, hM => cases hM; exact List.all_eq_true.mp tk_36 q hq
    | 37, hM => cases hM; exact List.all_eq_true.mp tk_37 q hq
    | 38, hM => cases hM; exact List.all_eq_true.mp tk_38 q hq
    | 39, hM => cases hM; exact List.all_eq_true.mp tk_39 q hq
    | 40, hM => cases hM; exact List.all_eq_true.mp tk_40 q hq
    | 41, hM => cases hM; exact List.all_eq_true.mp tk_41 q hq
    | 42, hM => cases hM; exact List.all_eq_true.mp tk_42 q hq
    | 43, hM => cases hM; exact List.all_eq_true.mp tk_43 q hq
    | 44, hM => cases hM; exact List.all_eq_true.mp tk_44 q hq
    | 45, hM => cases hM; exact List.all_eq_true.mp tk_45 q hq
    | 46, hM => cases hM; exact List.all_eq_true.mp tk_46 q hq
    | 47, hM => cases hM; exact List.all_eq_true.mp tk_47 q hq
    | 48, hM => cases hM; exact List.all_eq_true.mp tk_48 q hq
    | 49, hM => cases hM; exact List.all_eq_true.mp tk_49 q hq
    | 50, hM => cases hM; exact List.all_eq_true.mp tk_50 q hq
    | 51, hM => cases hM; exact List.all_eq_true.mp tk_51 q hq
    | 52, hM => cases hM; exact List.all_eq_true.mp tk_52 q hq
    | 53, hM => cases hM; exact List.all_eq_true.mp tk_53 q hq
    | 54, hM => cases hM; exact List.all_eq_true.mp tk_54 q hq
    | 55, hM => cases hM; exact List.all_eq_true.mp tk_55 q hq
    | 56, hM => cases hM; exact List.all_eq_true.mp tk_56 q hq
    | 57, hM => cases hM; exact List.all_eq_true.mp tk_57 q hq
    | 58, hM => cases hM; exact List.all_eq_true.mp tk_58 q hq
    | 59, hM => cases hM; exact List.all_eq_true.mp tk_59 q hq
    | 60, hM => cases hM; exact List.all_eq_true.mp tk_60 q hq
    | 61, hM => cases hM; exact List.all_eq_true.mp tk_61 q hq
    | 62, hM => cases hM; exact List.all_eq_true.mp tk_62 q hq
    | 63, hM => cases hM; exact List.all_eq_true.mp tk_63 q hq
    | 64, hM => cases hM; exact List.all_eq_true.mp tk_64 q hq
    | 65, hM => cases hM; exact List.all_eq_true.mp tk_65 q hq
    | 66, hM => cases hM; exact List.all_eq_true.mp tk_66 q hq
    | 67, hM => cases hM; exact List.all_eq_true.mp tk_67 q hq
    | 68, hM => cases hM; exact List.all_eq_true.mp tk_68 q hq
    | 69, hM => cases hM; exact List.all_eq_true.mp tk_69 q hq
    | 70, hM => cases hM; exact List.all_eq_true.mp tk_70 q hq
    | 71, hM => cases hM; exact List.all_eq_true.mp tk_71 q hq
    | 72, hM => cases hM; exact List.all_eq_true.mp tk_72 q hq
    | 73, hM => cases hM; exact List.all_eq_true.mp tk_73 q hq
    | 74, hM => cases hM; exact List.all_eq_true.mp tk_74 q hq
    | 75, hM => cases hM; exact List.all_eq_true.mp tk_75 q hq
    | 76, hM => cases hM; exact List.all_eq_true.mp tk_76 q hq
    | k + 77, hM => exact absurd hM (by simp [am_T0])
