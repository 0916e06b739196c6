/-! THE START: the tables, the texts, the statics, the script, as the machine asks them. -/
theorem am_htsT {s : State} {args : Array Value} (hts : ∀ w ∈ lw_tbl, w.before args s = true) : ∀ w ∈ am_Tc0.flatten, w.before args s = true := fun w hw => (am_Tc_in w hw).elim (hts w) (am_sx_ok hts w)
theorem am_classes {s : State} {args : Array Value} (hts : ∀ w ∈ lw_tbl, w.before args s = true) : ∃ D : va_G, ∀ (c : Nat) (q : vw_C), am_cls0[c]? = some q → u_Kn s q.1 q.2.1 q.2.2 (D.1 c) (D.2 c) := by
  have h0 : ∀ ci : Nat, ∃ y : ClassId × (Nat → Nat), ∀ q, am_cls0[ci]? = some q → u_Kn s q.1 q.2.1 q.2.2 y.1 y.2 := by
    intro ci
    match ci with
    | 0 =>
      obtain ⟨c0, i0, hk⟩ := u_known (C := RX0) (T := TX0) (N := 14) (n := 14) (am_htsT hts) am_inl_0 (hts _ (am_in_2 (List.mem_of_getElem? (i := 89) rfl)))
      exact ⟨(c0, i0), fun q hq => by cases hq; exact hk⟩
    | 1 =>
      obtain ⟨c0, i0, hk⟩ := u_known (C := RX1) (T := TX1) (N := 9) (n := 9) (am_htsT hts) am_inl_1 (hts _ (am_in_1 (List.mem_of_getElem? (i := 130) rfl)))
      exact ⟨(c0, i0), fun q hq => by cases hq; exact hk⟩
    | 2 =>
      obtain ⟨c0, i0, hk⟩ := u_known (C := RX2) (T := TX2) (N := 25) (n := 25) (am_htsT hts) am_inl_2 (hts _ (am_in_3 (List.mem_of_getElem? (i := 59) rfl)))
      exact ⟨(c0, i0), fun q hq => by cases hq; exact hk⟩
    | 3 =>
      obtain ⟨c0, i0, hk⟩ := u_known (C := RX3) (T := TX3) (N := 6) (n := 6) (am_htsT hts) am_inl_3 (hts _ (am_in_2 (List.mem_of_getElem? (i := 151) rfl)))
      exact ⟨(c0, i0), fun q hq => by cases hq; exact hk⟩
    | 4 =>
      obtain ⟨c0, i0, hk⟩ := u_known (C := RX4) (T := TX4) (N := 19) (n := 19) (am_htsT hts) am_inl_4 (hts _ (am_in_3 (List.mem_of_getElem? (i := 65) rfl)))
      exact ⟨(c0, i0), fun q hq => by cases hq; exact hk⟩
    | 5 =>
      obtain ⟨c0, i0, hk⟩ := u_known (C := RX6) (T := TX6) (N := 24) (n := 24) (am_htsT hts) am_inl_5 (hts _ (am_in_2 (List.mem_of_getElem? (i := 139) rfl)))
      exact ⟨(c0, i0), fun q hq => by cases hq; exact hk⟩
    | 6 =>
      obtain ⟨c0, i0, hk⟩ := u_known (C := RX7) (T := TX7) (N := 5) (n := 5) (am_htsT hts) am_inl_6 (hts _ (am_in_1 (List.mem_of_getElem? (i := 216) rfl)))
      exact ⟨(c0, i0), fun q hq => by cases hq; exact hk⟩
    | 7 =>
      obtain ⟨c0, i0, hk⟩ := u_known (C := RX8) (T := TX8) (N := 7) (n := 7) (am_htsT hts) am_inl_7 (hts _ (am_in_1 (List.mem_of_getElem? (i := 179) rfl)))
      exact ⟨(c0, i0), fun q hq => by cases hq; exact hk⟩
    | 8 =>
      obtain ⟨c0, i0, hk⟩ := u_known (C := RX9) (T := TX9) (N := 8) (n := 8) (am_htsT hts) am_inl_8 (hts _ (am_in_1 (List.mem_of_getElem? (i := 222) rfl)))
      exact ⟨(c0, i0), fun q hq => by cases hq; exact hk⟩
    | 9 =>
      obtain ⟨c0, i0, hk⟩ := u_known (C := RX10) (T := TX10) (N := 17) (n := 17) (am_htsT hts) am_inl_9 (hts _ (am_in_1 (List.mem_of_getElem? (i := 29) rfl)))
      exact ⟨(c0, i0), fun q hq => by cases hq; exact hk⟩
    | 10 =>
      obtain ⟨c0, i0, hk⟩ := u_known (C := RX11) (T := TX11) (N := 13) (n := 13) (am_htsT hts) am_inl_10 (hts _ (am_in_1 (List.mem_of_getElem? (i := 21) rfl)))
      exact ⟨(c0, i0), fun q hq => by cases hq; exact hk⟩
    | 11 =>
      obtain ⟨c0, i0, hk⟩ := u_known (C := RX12) (T := TX12) (N := 106) (n := 106) (am_htsT hts) am_inl_11 (hts _ (am_in_7 (List.mem_of_getElem? (i := 180) rfl)))
      exact ⟨(c0, i0), fun q hq => by cases hq; exact hk⟩
    | k + 12 => exact ⟨(0, fun _ => 0), fun q hq => by simp [am_cls0] at hq⟩
  obtain ⟨f, hf⟩ := Classical.axiomOfChoice h0
  exact ⟨(fun k => (f k).1, fun k => (f k).2), fun c q hq => hf c q hq⟩
theorem am_arrays {s : State} {args : Array Value} (hts : ∀ w ∈ lw_tbl, w.before args s = true) : ∃ K : Nat → ClassId, ∀ (k : Nat) (q : ClassId × FieldType), (am_tys K)[k]? = some q → ArrOfT s q.1 q.2 ∧ va_RA s q.1 q.2 := by
  obtain ⟨cI, kI, mI, hI1, hI2, hI3⟩ := Cond.arrayClass_spec (hts _ (am_in_1 (List.mem_of_getElem? (i := 127) rfl)))
  obtain ⟨cB, kB, mB, hB1, hB2, hB3⟩ := Cond.arrayClass_spec (hts _ (am_in_1 (List.mem_of_getElem? (i := 126) rfl)))
  obtain ⟨cJ, kJ, mJ, hJ1, hJ2, hJ3⟩ := Cond.arrayClass_spec (hts _ (am_in_1 (List.mem_of_getElem? (i := 128) rfl)))
  obtain ⟨cZ, kZ, mZ, hZ1, hZ2, hZ3⟩ := Cond.arrayClass_spec (hts _ (am_in_9 (List.mem_of_getElem? (i := 29) rfl)))
  refine ⟨fun t => if t = 0 then cI else if t = 1 then cB else if t = 2 then cJ else cZ, fun k q hq => ?_⟩
  match k, hq with
  | 0, hq => cases hq; exact ⟨fun n z => ⟨fun k h => (by cases h), kI, hI2, mI, hI3⟩, hI1⟩
  | 1, hq => cases hq; exact ⟨fun n z => ⟨fun k h => (by cases h), kB, hB2, mB, hB3⟩, hB1⟩
  | 2, hq => cases hq; exact ⟨fun n z => ⟨fun k h => (by cases h), kJ, hJ2, mJ, hJ3⟩, hJ1⟩
  | 3, hq => cases hq; exact ⟨fun n z => ⟨fun k h => (by cases h), kZ, hZ2, mZ, hZ3⟩, hZ1⟩
  | k + 4, hq => simp [am_tys] at hq
theorem am_Ns_at : am_Ns0 = [3102, 3203, 3252, 3364, 3367, 3650, 3843, 3955, 3956, 3971, 3979, 4004, 4005, 4010, 4067, 4079, 4100, 4101, 4106, 4116, 4129, 4196, 4205, 4221, 4222, 4225, 4230, 4248, 4257, 4270, 4298, 4310, 4315, 4327, 4328, 4358, 4365, 4387, 4401, 4410, 4424, 4430, 4449, 4458, 4471, 4476, 4484, 4490, 4499, 4508, 4517, 4526, 4535, 4542, 4544, 4561, 4566, 4569, 4575, 4576, 4582, 4638, 4647, 4656, 4681, 4699, 4714, 4727, 4744].filterMap (fun i => am_at am_Tc0 i) := by decide +kernel
theorem am_Ns_ok {s : State} {args : Array Value} (hts : ∀ w ∈ lw_tbl, w.before args s = true) : ∀ w ∈ am_Ns0, va_Nw w s := by
  intro w hw
  have hn : am_nw w = true := List.all_eq_true.mp (show am_Ns0.all am_nw = true by decide +kernel) w hw
  rw [am_Ns_at] at hw
  obtain ⟨i, -, hi⟩ := List.mem_filterMap.mp hw
  exact va_Nw.of (am_nw_on hn) (am_htsT hts w (am_at_mem hi))
def p_tm (i : Nat) : Term := if i = 0 then .string "NestedVectors$Tokens" 19 else .string "NestedVectors$Tokens" 71
theorem am_texts {s : State} {args : Array Value} (hs : ∀ c ∈ flatC (Jvm.Cond.and given_1 narrow_1), c.before args s = true) : ∃ adK adV : Nat → Nat, vk_S am_tx0.length (am_tx0.map List.length) am_tx0 adK adV (fun q => s.heap.size ≤ q) s s.heap ∧ ∀ i : Nat, i < 2 → (p_tm i).eval args s none [] s = some (.ref (adK i)) := by
  refine vk_Sof (N := 2) (tm := p_tm) (by decide +kernel) ?_ ?_ ?_ ?_ ?_ ?_ (fun a h => Nat.not_le.mpr h)
  · intro i hi
    match i, hi with
    | 0, _ => exact hs _ (by decide +kernel)
    | 1, _ => exact hs _ (by decide +kernel)
  · intro i hi
    match i, hi with
    | 0, _ => exact hs _ (by decide +kernel)
    | 1, _ => exact hs _ (by decide +kernel)
  · intro i hi
    match i, hi with
    | 0, _ => exact hs _ (by decide +kernel)
    | 1, _ => exact hs _ (by decide +kernel)
  · intro i hi
    match i, hi with
    | 0, _ => exact hs _ (by decide +kernel)
    | 1, _ => exact hs _ (by decide +kernel)
  · intro i hi j hj
    match i, hi, hj with
    | 0, _, hj => exact hs _ ((show ∀ j, j < (am_tx0.map List.length).getD 0 0 → Cond.eq (.elem (.field (p_tm 0) "java/lang/String" "value" "[B") (.int (Int32.ofNat j))) (.int ((am_tx0.getD 0 []).getD j 0)) ∈ flatC (Jvm.Cond.and given_1 narrow_1) by decide +kernel) j hj)
    | 1, _, hj => exact hs _ ((show ∀ j, j < (am_tx0.map List.length).getD 1 0 → Cond.eq (.elem (.field (p_tm 1) "java/lang/String" "value" "[B") (.int (Int32.ofNat j))) (.int ((am_tx0.getD 1 []).getD j 0)) ∈ flatC (Jvm.Cond.and given_1 narrow_1) by decide +kernel) j hj)
  · intro i j hi hj hij
    match i, hi, j, hj, hij with
    | 0, _, 0, _, hij => exact absurd rfl hij
    | 0, _, 1, _, _ => first | exact Or.inl (hs _ (by decide +kernel)) | exact Or.inr (hs _ (by decide +kernel))
    | 1, _, 0, _, _ => first | exact Or.inl (hs _ (by decide +kernel)) | exact Or.inr (hs _ (by decide +kernel))
    | 1, _, 1, _, hij => exact absurd rfl hij
