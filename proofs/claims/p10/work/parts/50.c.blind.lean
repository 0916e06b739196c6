/-! Methods of the nested run (2): they end, and but for their cells all is as it was. -/
-- NestedVectors$NestedRun.select x.nestedRun a1 a2
set_option maxRecDepth 8000 in
theorem bt_42 (z : Value) (σ : sg_S) (a1 : Int) (a2 : Int) : wx z 2 160 0 [(0, .inr (.inr (.ref 45))), (1, .inl (a1)), (2, .inl (a2))] [] σ (fun v σ' => v = none ∧ sg_F [45, 48] σ σ') := by
  have hF0 := sg_F_r [45, 48] σ
  refine wk_b tt_160 1 (pc' := 1) (ls' := [(0, .inr (.inr (.ref 45))), (1, .inl (a1)), (2, .inl (a2))]) (st' := [.inl (a2)]) (σ' := σ) rfl ?_
  refine wk_ifb tt_160 (tgt := 13) rfl rfl ?_ ?_
  ·
    refine wk_b tt_160 4 (pc' := 31) (ls' := [(0, .inr (.inr (.ref 45))), (1, .inl (a1)), (2, .inl (a2))]) (st' := []) (σ' := (sg_w σ 45 10 (2))) rfl ?_
    have hF2 : sg_F [45, 48] σ (sg_w σ 45 10 (2)) := (sg_F_w hF0 rfl _)
    generalize (sg_w σ 45 10 (2)) = σ3 at hF2 ⊢
    exact wk_rV tt_160 rfl rfl ⟨rfl, hF2⟩
  ·
    refine wk_b tt_160 3 (pc' := 7) (ls' := [(0, .inr (.inr (.ref 45))), (1, .inl (a1)), (2, .inl (a2))]) (st' := [.inl (a1), .inr (.inr (.ref 45)), .inl (a2)]) (σ' := σ) rfl ?_
    refine wk_call tt_160 rfl rfl rfl rfl rfl tt_149 rfl (by decide) (bt_4 z σ (a1)) (fun w4 σ5 hq6 => ?_)
    obtain ⟨⟨q8, rfl⟩, hF7⟩ := hq6
    have hF9 := sg_F_t hF0 (sg_F_m (L := [45, 48]) hF7 rfl)
    refine wk_if2b tt_160 (tgt := 21) rfl rfl ?_ ?_
    ·
      refine wk_b tt_160 4 (pc' := 25) (ls' := [(0, .inr (.inr (.ref 45))), (1, .inl (a1)), (2, .inl (a2))]) (st' := [.inl (a2), .inl (a1), .inr (.inr (.ref 45)), .inr (.inr (.ref 45))]) (σ' := σ5) rfl ?_
      refine wk_call tt_160 rfl rfl rfl rfl rfl tt_145 rfl (by decide) (bt_6 z σ5 (a1) (a2)) (fun w11 σ12 hq13 => ?_)
      obtain ⟨⟨q15, rfl⟩, hF14⟩ := hq13
      have hF16 := sg_F_t hF9 (sg_F_m (L := [45, 48]) hF14 rfl)
      refine wk_call tt_160 rfl rfl rfl rfl rfl tt_125 rfl (by decide) (bt_22 z σ12 (q15)) (fun w17 σ18 hq19 => ?_)
      obtain ⟨rfl, hF20⟩ := hq19
      have hF21 := sg_F_t hF16 (sg_F_m (L := [45, 48]) hF20 rfl)
      exact wk_rV tt_160 rfl rfl ⟨rfl, hF21⟩
    ·
      refine wk_b tt_160 4 (pc' := 31) (ls' := [(0, .inr (.inr (.ref 45))), (1, .inl (a1)), (2, .inl (a2))]) (st' := []) (σ' := (sg_w σ5 45 10 (2))) rfl ?_
      have hF22 : sg_F [45, 48] σ (sg_w σ5 45 10 (2)) := (sg_F_w hF9 rfl _)
      generalize (sg_w σ5 45 10 (2)) = σ23 at hF22 ⊢
      exact wk_rV tt_160 rfl rfl ⟨rfl, hF22⟩
-- NestedVectors$NestedRun.repeat x.nestedRun a1 a2
set_option maxRecDepth 8000 in
theorem bt_43 (z : Value) (σ : sg_S) (a1 : Int) (a2 : Int) : wx z 3 157 0 [(0, .inr (.inr (.ref 45))), (1, .inl (a1)), (2, .inl (a2))] [] σ (fun v σ' => v = none ∧ sg_F [45, 48, 53, 54] σ σ') := by
  have hF0 := sg_F_r [45, 48, 53, 54] σ
  refine wk_b tt_157 1 (pc' := 1) (ls' := [(0, .inr (.inr (.ref 45))), (1, .inl (a1)), (2, .inl (a2))]) (st' := [.inl (a2)]) (σ' := σ) rfl ?_
  refine wk_call tt_157 rfl rfl rfl rfl rfl tt_7 rfl (by decide) (bt_32 z σ (a2)) (fun w1 σ2 hq3 => ?_)
  obtain ⟨⟨q5, rfl, hq5⟩, hF4⟩ := hq3
  have hF6 := sg_F_t hF0 (sg_F_m (L := [45, 48, 53, 54]) hF4 rfl)
  refine wk_ifb tt_157 (tgt := 13) rfl rfl ?_ ?_
  ·
    refine wk_b tt_157 2 (pc' := 15) (ls' := [(3, .inl (0)), (0, .inr (.inr (.ref 45))), (1, .inl (a1)), (2, .inl (a2))]) (st' := []) (σ' := σ2) rfl ?_
    have ex11 : ∀ (σ9 : sg_S), sg_F [45, 48, 53, 54] σ σ9 → wx z 3 157 31 [(0, .inr (.inr (.ref 45)))] [] σ9 (fun v σ' => v = none ∧ sg_F [45, 48, 53, 54] σ σ') := by
      intro σ9 hF10
      refine wk_b tt_157 1 (pc' := 32) (ls' := [(0, .inr (.inr (.ref 45)))]) (st' := [.inr (.inr (.ref 45))]) (σ' := σ9) rfl ?_
      refine wk_call tt_157 rfl rfl rfl rfl rfl tt_144 rfl (by decide) (bt_27 z σ9) (fun w12 σ13 hq14 => ?_)
      obtain ⟨rfl, hF15⟩ := hq14
      have hF16 := sg_F_t hF10 (sg_F_m (L := [45, 48, 53, 54]) hF15 rfl)
      exact wk_rV tt_157 rfl rfl ⟨rfl, hF16⟩
    have lp19 : ∀ (m18 : Nat) (σ9 : sg_S) (v8 : Int), sg_F [45, 48, 53, 54] σ σ9 → (sg_R v8) → (2147483647 - v8).toNat = m18 → wx z 3 157 15 [(0, .inr (.inr (.ref 45))), (1, .inl (a1)), (2, .inl (a2)), (3, .inl (v8))] [] σ9 (fun v σ' => v = none ∧ sg_F [45, 48, 53, 54] σ σ') := by
      intro m18
      induction m18 using Nat.strongRecOn with
      | _ m18 ih17 =>
        intro σ9 v8 hF10 hR20 hm21
        have hR20_i := sg_id (z := v8) (by omega)
        refine wk_b tt_157 2 (pc' := 17) (ls' := [(0, .inr (.inr (.ref 45))), (1, .inl (a1)), (2, .inl (a2)), (3, .inl (v8))]) (st' := [.inl (a2), .inl (v8)]) (σ' := σ9) rfl ?_
        refine wk_if2n tt_157 (tgt := 31) rfl rfl (fun h22 => ?_) (fun h22 => ?_)
        ·
          have h22_r := sg_Rn (a2)
          have h22_q := sg_Rn (v8)
          simp only [sg_c, sg_nc] at h22
          exact wk_ls [(0, .inr (.inr (.ref 45)))] rfl ⟨rfl, trivial⟩ (ex11 σ9 hF10)
        ·
          have h22_r := sg_Rn (a2)
          have h22_q := sg_Rn (v8)
          simp only [sg_c, sg_nc] at h22
          refine wk_b tt_157 2 (pc' := 22) (ls' := [(0, .inr (.inr (.ref 45))), (1, .inl (a1)), (2, .inl (a2)), (3, .inl (v8))]) (st' := [.inl (a1), .inr (.inr (.ref 45))]) (σ' := σ9) rfl ?_
          refine wk_call tt_157 rfl rfl rfl rfl rfl tt_129 rfl (by decide) (bt_33 z σ9 (a1)) (fun w23 σ24 hq25 => ?_)
          obtain ⟨rfl, hF26⟩ := hq25
          have hF27 := sg_F_t hF10 (sg_F_m (L := [45, 48, 53, 54]) hF26 rfl)
          refine wk_b tt_157 2 (pc' := 15) (ls' := [(3, .inl ((v8 + 1))), (0, .inr (.inr (.ref 45))), (1, .inl (a1)), (2, .inl (a2))]) (st' := []) (σ' := σ24) rfl ?_
          refine wk_ls [(0, .inr (.inr (.ref 45))), (1, .inl (a1)), (2, .inl (a2)), (3, .inl ((v8 + 1)))] rfl ⟨rfl, rfl, rfl, rfl, trivial⟩ (ih17 _ ?_ σ24 ((v8 + 1)) hF27 ?_ rfl)
          · omega
          · omega
    refine wk_ls [(0, .inr (.inr (.ref 45))), (1, .inl (a1)), (2, .inl (a2)), (3, .inl (0))] rfl ⟨rfl, rfl, rfl, rfl, trivial⟩ ?_
    exact lp19 _ σ2 (0) hF6 (by omega) rfl
  ·
    refine wk_b tt_157 3 (pc' := 12) (ls' := [(0, .inr (.inr (.ref 45))), (1, .inl (a1)), (2, .inl (a2))]) (st' := []) (σ' := (sg_w σ2 45 10 (5))) rfl ?_
    have hF28 : sg_F [45, 48, 53, 54] σ (sg_w σ2 45 10 (5)) := (sg_F_w hF6 rfl _)
    generalize (sg_w σ2 45 10 (5)) = σ29 at hF28 ⊢
    exact wk_rV tt_157 rfl rfl ⟨rfl, hF28⟩
-- NestedVectors$NestedRun.append x.nestedRun a1 a2
set_option maxRecDepth 8000 in
theorem bt_44 (z : Value) (σ : sg_S) (a1 : Int) (a2 : Int) : wx z 3 131 0 [(0, .inr (.inr (.ref 45))), (1, .inl (a1)), (2, .inl (a2))] [] σ (fun v σ' => v = none ∧ sg_F [45, 48, 53, 54] σ σ') := by
  have hF0 := sg_F_r [45, 48, 53, 54] σ
  refine wk_b tt_131 2 (pc' := 2) (ls' := [(0, .inr (.inr (.ref 45))), (1, .inl (a1)), (2, .inl (a2))]) (st' := [.inl (a1), .inr (.inr (.ref 45))]) (σ' := σ) rfl ?_
  refine wk_call tt_131 rfl rfl rfl rfl rfl tt_149 rfl (by decide) (bt_4 z σ (a1)) (fun w1 σ2 hq3 => ?_)
  obtain ⟨⟨q5, rfl⟩, hF4⟩ := hq3
  have hF6 := sg_F_t hF0 (sg_F_m (L := [45, 48, 53, 54]) hF4 rfl)
  refine wk_b tt_131 2 (pc' := 7) (ls' := [(0, .inr (.inr (.ref 45))), (1, .inl (a1)), (2, .inl (a2))]) (st' := [.inl (a2), .inr (.inr (.ref 45)), .inl (q5)]) (σ' := σ2) rfl ?_
  refine wk_call tt_131 rfl rfl rfl rfl rfl tt_149 rfl (by decide) (bt_4 z σ2 (a2)) (fun w7 σ8 hq9 => ?_)
  obtain ⟨⟨q11, rfl⟩, hF10⟩ := hq9
  have hF12 := sg_F_t hF6 (sg_F_m (L := [45, 48, 53, 54]) hF10 rfl)
  refine wk_b tt_131 1 (pc' := 11) (ls' := [(0, .inr (.inr (.ref 45))), (1, .inl (a1)), (2, .inl (a2))]) (st' := [.inl ((q5 + q11))]) (σ' := σ8) rfl ?_
  refine wk_call tt_131 rfl rfl rfl rfl rfl tt_7 rfl (by decide) (bt_32 z σ8 ((q5 + q11))) (fun w13 σ14 hq15 => ?_)
  obtain ⟨⟨q17, rfl, hq17⟩, hF16⟩ := hq15
  have hF18 := sg_F_t hF12 (sg_F_m (L := [45, 48, 53, 54]) hF16 rfl)
  refine wk_ifb tt_131 (tgt := 23) rfl rfl ?_ ?_
  ·
    refine wk_b tt_131 2 (pc' := 25) (ls' := [(0, .inr (.inr (.ref 45))), (1, .inl (a1)), (2, .inl (a2))]) (st' := [.inl (a1), .inr (.inr (.ref 45))]) (σ' := σ14) rfl ?_
    refine wk_call tt_131 rfl rfl rfl rfl rfl tt_130 rfl (by decide) (bt_37 z σ14 (a1)) (fun w20 σ21 hq22 => ?_)
    obtain ⟨rfl, hF23⟩ := hq22
    have hF24 := sg_F_t hF18 (sg_F_m (L := [45, 48, 53, 54]) hF23 rfl)
    refine wk_b tt_131 2 (pc' := 30) (ls' := [(0, .inr (.inr (.ref 45))), (1, .inl (a1)), (2, .inl (a2))]) (st' := [.inl (a2), .inr (.inr (.ref 45))]) (σ' := σ21) rfl ?_
    refine wk_call tt_131 rfl rfl rfl rfl rfl tt_130 rfl (by decide) (bt_37 z σ21 (a2)) (fun w25 σ26 hq27 => ?_)
    obtain ⟨rfl, hF28⟩ := hq27
    have hF29 := sg_F_t hF24 (sg_F_m (L := [45, 48, 53, 54]) hF28 rfl)
    refine wk_b tt_131 1 (pc' := 34) (ls' := [(0, .inr (.inr (.ref 45))), (1, .inl (a1)), (2, .inl (a2))]) (st' := [.inr (.inr (.ref 45))]) (σ' := σ26) rfl ?_
    refine wk_call tt_131 rfl rfl rfl rfl rfl tt_144 rfl (by decide) (bt_27 z σ26) (fun w30 σ31 hq32 => ?_)
    obtain ⟨rfl, hF33⟩ := hq32
    have hF34 := sg_F_t hF29 (sg_F_m (L := [45, 48, 53, 54]) hF33 rfl)
    exact wk_rV tt_131 rfl rfl ⟨rfl, hF34⟩
  ·
    refine wk_b tt_131 3 (pc' := 22) (ls' := [(0, .inr (.inr (.ref 45))), (1, .inl (a1)), (2, .inl (a2))]) (st' := []) (σ' := (sg_w σ14 45 10 (5))) rfl ?_
    have hF35 : sg_F [45, 48, 53, 54] σ (sg_w σ14 45 10 (5)) := (sg_F_w hF18 rfl _)
    generalize (sg_w σ14 45 10 (5)) = σ36 at hF35 ⊢
    exact wk_rV tt_131 rfl rfl ⟨rfl, hF35⟩
-- NestedVectors$NestedRun.pack x.nestedRun a1 a2
set_option maxRecDepth 8000 in
theorem bt_45 (z : Value) (σ : sg_S) (a1 : Int) (a2 : Int) : wx z 3 153 0 [(0, .inr (.inr (.ref 45))), (1, .inl (a1)), (2, .inl (a2))] [] σ (fun v σ' => v = none ∧ sg_F [45, 48, 53, 54] σ σ') := by
  have hF0 := sg_F_r [45, 48, 53, 54] σ
  refine wk_b tt_153 2 (pc' := 2) (ls' := [(0, .inr (.inr (.ref 45))), (1, .inl (a1)), (2, .inl (a2))]) (st' := [.inl (a1), .inr (.inr (.ref 45))]) (σ' := σ) rfl ?_
  refine wk_call tt_153 rfl rfl rfl rfl rfl tt_149 rfl (by decide) (bt_4 z σ (a1)) (fun w1 σ2 hq3 => ?_)
  obtain ⟨⟨q5, rfl⟩, hF4⟩ := hq3
  have hF6 := sg_F_t hF0 (sg_F_m (L := [45, 48, 53, 54]) hF4 rfl)
  refine wk_b tt_153 2 (pc' := 7) (ls' := [(0, .inr (.inr (.ref 45))), (1, .inl (a1)), (2, .inl (a2))]) (st' := [.inl (a2), .inr (.inr (.ref 45)), .inl (q5)]) (σ' := σ2) rfl ?_
  refine wk_call tt_153 rfl rfl rfl rfl rfl tt_149 rfl (by decide) (bt_4 z σ2 (a2)) (fun w7 σ8 hq9 => ?_)
  obtain ⟨⟨q11, rfl⟩, hF10⟩ := hq9
  have hF12 := sg_F_t hF6 (sg_F_m (L := [45, 48, 53, 54]) hF10 rfl)
  refine wk_if2b tt_153 (tgt := 19) rfl rfl ?_ ?_
  ·
    refine wk_b tt_153 2 (pc' := 21) (ls' := [(3, .inl (0)), (0, .inr (.inr (.ref 45))), (1, .inl (a1)), (2, .inl (a2))]) (st' := []) (σ' := σ8) rfl ?_
    have ex17 : ∀ (σ15 : sg_S), sg_F [45, 48, 53, 54] σ σ15 → wx z 3 153 55 [(0, .inr (.inr (.ref 45)))] [] σ15 (fun v σ' => v = none ∧ sg_F [45, 48, 53, 54] σ σ') := by
      intro σ15 hF16
      refine wk_b tt_153 1 (pc' := 56) (ls' := [(0, .inr (.inr (.ref 45)))]) (st' := [.inr (.inr (.ref 45))]) (σ' := σ15) rfl ?_
      refine wk_call tt_153 rfl rfl rfl rfl rfl tt_144 rfl (by decide) (bt_27 z σ15) (fun w18 σ19 hq20 => ?_)
      obtain ⟨rfl, hF21⟩ := hq20
      have hF22 := sg_F_t hF16 (sg_F_m (L := [45, 48, 53, 54]) hF21 rfl)
      exact wk_rV tt_153 rfl rfl ⟨rfl, hF22⟩
    have lp25 : ∀ (m24 : Nat) (σ15 : sg_S) (v14 : Int), sg_F [45, 48, 53, 54] σ σ15 → (sg_R v14) → (2147483647 - v14).toNat = m24 → wx z 3 153 21 [(0, .inr (.inr (.ref 45))), (1, .inl (a1)), (2, .inl (a2)), (3, .inl (v14))] [] σ15 (fun v σ' => v = none ∧ sg_F [45, 48, 53, 54] σ σ') := by
      intro m24
      induction m24 using Nat.strongRecOn with
      | _ m24 ih23 =>
        intro σ15 v14 hF16 hR26 hm27
        have hR26_i := sg_id (z := v14) (by omega)
        refine wk_b tt_153 3 (pc' := 24) (ls' := [(0, .inr (.inr (.ref 45))), (1, .inl (a1)), (2, .inl (a2)), (3, .inl (v14))]) (st' := [.inl (a1), .inr (.inr (.ref 45)), .inl (v14)]) (σ' := σ15) rfl ?_
        refine wk_call tt_153 rfl rfl rfl rfl rfl tt_149 rfl (by decide) (bt_4 z σ15 (a1)) (fun w28 σ29 hq30 => ?_)
        obtain ⟨⟨q32, rfl⟩, hF31⟩ := hq30
        have hF33 := sg_F_t hF16 (sg_F_m (L := [45, 48, 53, 54]) hF31 rfl)
        refine wk_if2n tt_153 (tgt := 55) rfl rfl (fun h34 => ?_) (fun h34 => ?_)
        ·
          have h34_r := sg_Rn (q32)
          have h34_q := sg_Rn (v14)
          simp only [sg_c, sg_nc] at h34
          exact wk_ls [(0, .inr (.inr (.ref 45)))] rfl ⟨rfl, trivial⟩ (ex17 σ29 hF33)
        ·
          have h34_r := sg_Rn (q32)
          have h34_q := sg_Rn (v14)
          simp only [sg_c, sg_nc] at h34
          refine wk_b tt_153 3 (pc' := 33) (ls' := [(0, .inr (.inr (.ref 45))), (1, .inl (a1)), (2, .inl (a2)), (3, .inl (v14))]) (st' := [.inl (v14), .inl (a2), .inr (.inr (.ref 45))]) (σ' := σ29) rfl ?_
          refine wk_call tt_153 rfl rfl rfl rfl rfl tt_145 rfl (by decide) (bt_6 z σ29 (a2) (v14)) (fun w35 σ36 hq37 => ?_)
          obtain ⟨⟨q39, rfl⟩, hF38⟩ := hq37
          have hF40 := sg_F_t hF33 (sg_F_m (L := [45, 48, 53, 54]) hF38 rfl)
          refine wk_ifb tt_153 (tgt := 49) rfl rfl ?_ ?_
          ·
            refine wk_b tt_153 2 (pc' := 21) (ls' := [(3, .inl ((v14 + 1))), (0, .inr (.inr (.ref 45))), (1, .inl (a1)), (2, .inl (a2))]) (st' := []) (σ' := σ36) rfl ?_
            refine wk_ls [(0, .inr (.inr (.ref 45))), (1, .inl (a1)), (2, .inl (a2)), (3, .inl ((v14 + 1)))] rfl ⟨rfl, rfl, rfl, rfl, trivial⟩ (ih23 _ ?_ σ36 ((v14 + 1)) hF40 ?_ rfl)
            · omega
            · omega
          ·
            refine wk_b tt_153 4 (pc' := 43) (ls' := [(0, .inr (.inr (.ref 45))), (1, .inl (a1)), (2, .inl (a2)), (3, .inl (v14))]) (st' := [.inl (v14), .inl (a1), .inr (.inr (.ref 45)), .inr (.inr (.ref 45))]) (σ' := σ36) rfl ?_
            refine wk_call tt_153 rfl rfl rfl rfl rfl tt_145 rfl (by decide) (bt_6 z σ36 (a1) (v14)) (fun w42 σ43 hq44 => ?_)
            obtain ⟨⟨q46, rfl⟩, hF45⟩ := hq44
            have hF47 := sg_F_t hF40 (sg_F_m (L := [45, 48, 53, 54]) hF45 rfl)
            refine wk_call tt_153 rfl rfl rfl rfl rfl tt_129 rfl (by decide) (bt_33 z σ43 (q46)) (fun w48 σ49 hq50 => ?_)
            obtain ⟨rfl, hF51⟩ := hq50
            have hF52 := sg_F_t hF47 (sg_F_m (L := [45, 48, 53, 54]) hF51 rfl)
            refine wk_b tt_153 2 (pc' := 21) (ls' := [(3, .inl ((v14 + 1))), (0, .inr (.inr (.ref 45))), (1, .inl (a1)), (2, .inl (a2))]) (st' := []) (σ' := σ49) rfl ?_
            refine wk_ls [(0, .inr (.inr (.ref 45))), (1, .inl (a1)), (2, .inl (a2)), (3, .inl ((v14 + 1)))] rfl ⟨rfl, rfl, rfl, rfl, trivial⟩ (ih23 _ ?_ σ49 ((v14 + 1)) hF52 ?_ rfl)
            · omega
            · omega
    refine wk_ls [(0, .inr (.inr (.ref 45))), (1, .inl (a1)), (2, .inl (a2)), (3, .inl (0))] rfl ⟨rfl, rfl, rfl, rfl, trivial⟩ ?_
    exact lp25 _ σ8 (0) hF12 (by omega) rfl
  ·
    refine wk_b tt_153 3 (pc' := 18) (ls' := [(0, .inr (.inr (.ref 45))), (1, .inl (a1)), (2, .inl (a2))]) (st' := []) (σ' := (sg_w σ8 45 10 (3))) rfl ?_
    have hF53 : sg_F [45, 48, 53, 54] σ (sg_w σ8 45 10 (3)) := (sg_F_w hF12 rfl _)
    generalize (sg_w σ8 45 10 (3)) = σ54 at hF53 ⊢
    exact wk_rV tt_153 rfl rfl ⟨rfl, hF53⟩
-- NestedVectors.invert x.nestedRun.out a1 x.nestedRun.order
set_option maxRecDepth 8000 in
theorem bt_46 (z : Value) (σ : sg_S) (a1 : Int) : wx z 1 17 0 [(0, .inr (.inr (.ref 54))), (1, .inl (a1)), (2, .inr (.inr (.ref 55)))] [] σ (fun v σ' => (∃ q, v = some (.inl q) ∧ (q = 0 ∨ q = 1)) ∧ sg_F [55] σ σ') := by
  have hF0 := sg_F_r [55] σ
  refine wk_b tt_17 2 (pc' := 2) (ls' := [(3, .inl (0)), (0, .inr (.inr (.ref 54))), (1, .inl (a1)), (2, .inr (.inr (.ref 55)))]) (st' := []) (σ' := σ) rfl ?_
  have ex4 : ∀ (σ2 : sg_S), sg_F [55] σ σ2 → wx z 1 17 19 [(0, .inr (.inr (.ref 54))), (1, .inl (a1)), (2, .inr (.inr (.ref 55)))] [] σ2 (fun v σ' => (∃ q, v = some (.inl q) ∧ (q = 0 ∨ q = 1)) ∧ sg_F [55] σ σ') := by
    intro σ2 hF3
    refine wk_b tt_17 2 (pc' := 21) (ls' := [(3, .inl (0)), (0, .inr (.inr (.ref 54))), (1, .inl (a1)), (2, .inr (.inr (.ref 55)))]) (st' := []) (σ' := σ2) rfl ?_
    have ex8 : ∀ (σ6 : sg_S), sg_F [55] σ σ6 → wx z 1 17 68 [] [] σ6 (fun v σ' => (∃ q, v = some (.inl q) ∧ (q = 0 ∨ q = 1)) ∧ sg_F [55] σ σ') := by
      intro σ6 hF7
      refine wk_b tt_17 1 (pc' := 69) (ls' := []) (st' := [.inl (1)]) (σ' := σ6) rfl ?_
      exact wk_rZ tt_17 rfl rfl (by decide) ⟨⟨_, rfl, by decide⟩, hF7⟩
    have lp11 : ∀ (m10 : Nat) (σ6 : sg_S) (v5 : Int), sg_F [55] σ σ6 → (sg_R v5) → (2147483647 - v5).toNat = m10 → wx z 1 17 21 [(0, .inr (.inr (.ref 54))), (1, .inl (a1)), (2, .inr (.inr (.ref 55))), (3, .inl (v5))] [] σ6 (fun v σ' => (∃ q, v = some (.inl q) ∧ (q = 0 ∨ q = 1)) ∧ sg_F [55] σ σ') := by
      intro m10
      induction m10 using Nat.strongRecOn with
      | _ m10 ih9 =>
        intro σ6 v5 hF7 hR12 hm13
        have hR12_i := sg_id (z := v5) (by omega)
        refine wk_b tt_17 2 (pc' := 23) (ls' := [(0, .inr (.inr (.ref 54))), (1, .inl (a1)), (2, .inr (.inr (.ref 55))), (3, .inl (v5))]) (st' := [.inl (a1), .inl (v5)]) (σ' := σ6) rfl ?_
        refine wk_if2n tt_17 (tgt := 68) rfl rfl (fun h14 => ?_) (fun h14 => ?_)
        ·
          have h14_r := sg_Rn (a1)
          have h14_q := sg_Rn (v5)
          simp only [sg_c, sg_nc] at h14
          exact wk_ls [] rfl trivial (ex8 σ6 hF7)
        ·
          have h14_r := sg_Rn (a1)
          have h14_q := sg_Rn (v5)
          simp only [sg_c, sg_nc] at h14
          refine wk_b tt_17 2 (pc' := 28) (ls' := [(0, .inr (.inr (.ref 54))), (1, .inl (a1)), (2, .inr (.inr (.ref 55))), (3, .inl (v5))]) (st' := [.inl (v5), .inr (.inr (.ref 54))]) (σ' := σ6) rfl ?_
          refine wk_callp tt_17 rfl rfl rfl rfl rfl tt_5 rfl (by decide) (at_i z σ6 54 200 (v5) rfl (by decide)) ?_
          generalize sx_at σ6 54 200 (sg_n (v5)) = q18
          refine wk_b tt_17 2 (pc' := 35) (ls' := [(4, .inl (q18)), (0, .inr (.inr (.ref 54))), (1, .inl (a1)), (2, .inr (.inr (.ref 55))), (3, .inl (v5))]) (st' := [.inl (q18)]) (σ' := σ6) rfl ?_
          refine wk_ifb tt_17 (tgt := 53) rfl rfl ?_ ?_
          ·
            refine wk_b tt_17 1 (pc' := 54) (ls' := [(4, .inl (q18)), (0, .inr (.inr (.ref 54))), (1, .inl (a1)), (2, .inr (.inr (.ref 55))), (3, .inl (v5))]) (st' := [.inl (0)]) (σ' := σ6) rfl ?_
            exact wk_rZ tt_17 rfl rfl (by decide) ⟨⟨_, rfl, by decide⟩, hF7⟩
          ·
            refine wk_b tt_17 2 (pc' := 41) (ls' := [(4, .inl (q18)), (0, .inr (.inr (.ref 54))), (1, .inl (a1)), (2, .inr (.inr (.ref 55))), (3, .inl (v5))]) (st' := [.inl (a1), .inl (q18)]) (σ' := σ6) rfl ?_
            refine wk_if2b tt_17 (tgt := 53) rfl rfl ?_ ?_
            ·
              refine wk_b tt_17 1 (pc' := 54) (ls' := [(4, .inl (q18)), (0, .inr (.inr (.ref 54))), (1, .inl (a1)), (2, .inr (.inr (.ref 55))), (3, .inl (v5))]) (st' := [.inl (0)]) (σ' := σ6) rfl ?_
              exact wk_rZ tt_17 rfl rfl (by decide) ⟨⟨_, rfl, by decide⟩, hF7⟩
            ·
              refine wk_b tt_17 2 (pc' := 47) (ls' := [(4, .inl (q18)), (0, .inr (.inr (.ref 54))), (1, .inl (a1)), (2, .inr (.inr (.ref 55))), (3, .inl (v5))]) (st' := [.inl (q18), .inr (.inr (.ref 55))]) (σ' := σ6) rfl ?_
              refine wk_callp tt_17 rfl rfl rfl rfl rfl tt_5 rfl (by decide) (at_i z σ6 55 200 (q18) rfl (by decide)) ?_
              generalize sx_at σ6 55 200 (sg_n (q18)) = q24
              refine wk_ifb tt_17 (tgt := 55) rfl rfl ?_ ?_
              ·
                refine wk_b tt_17 3 (pc' := 59) (ls' := [(4, .inl (q18)), (0, .inr (.inr (.ref 54))), (1, .inl (a1)), (2, .inr (.inr (.ref 55))), (3, .inl (v5))]) (st' := [.inl (v5), .inl (q18), .inr (.inr (.ref 55))]) (σ' := σ6) rfl ?_
                refine wk_callp tt_17 rfl rfl rfl rfl rfl tt_21 rfl (by decide) (pt_i z σ6 55 200 (q18) (v5) rfl (by decide)) ?_
                have hF29 : sg_F [55] σ (sx_put σ6 55 200 (sg_n (q18)) (v5)) := sg_F_p hF7 rfl _ _ _
                generalize (sx_put σ6 55 200 (sg_n (q18)) (v5)) = σ30 at hF29 ⊢
                refine wk_b tt_17 2 (pc' := 21) (ls' := [(3, .inl ((v5 + 1))), (4, .inl (q18)), (0, .inr (.inr (.ref 54))), (1, .inl (a1)), (2, .inr (.inr (.ref 55)))]) (st' := []) (σ' := σ30) rfl ?_
                refine wk_ls [(0, .inr (.inr (.ref 54))), (1, .inl (a1)), (2, .inr (.inr (.ref 55))), (3, .inl ((v5 + 1)))] rfl ⟨rfl, rfl, rfl, rfl, trivial⟩ (ih9 _ ?_ σ30 ((v5 + 1)) hF29 ?_ rfl)
                · omega
                · omega
              ·
                refine wk_b tt_17 1 (pc' := 54) (ls' := [(4, .inl (q18)), (0, .inr (.inr (.ref 54))), (1, .inl (a1)), (2, .inr (.inr (.ref 55))), (3, .inl (v5))]) (st' := [.inl (0)]) (σ' := σ6) rfl ?_
                exact wk_rZ tt_17 rfl rfl (by decide) ⟨⟨_, rfl, by decide⟩, hF7⟩
    refine wk_ls [(0, .inr (.inr (.ref 54))), (1, .inl (a1)), (2, .inr (.inr (.ref 55))), (3, .inl (0))] rfl ⟨rfl, rfl, rfl, rfl, trivial⟩ ?_
    exact lp11 _ σ2 (0) hF3 (by omega) rfl
  have lp33 : ∀ (m32 : Nat) (σ2 : sg_S) (v1 : Int), sg_F [55] σ σ2 → (sg_R v1) → (2147483647 - v1).toNat = m32 → wx z 1 17 2 [(0, .inr (.inr (.ref 54))), (1, .inl (a1)), (2, .inr (.inr (.ref 55))), (3, .inl (v1))] [] σ2 (fun v σ' => (∃ q, v = some (.inl q) ∧ (q = 0 ∨ q = 1)) ∧ sg_F [55] σ σ') := by
    intro m32
    induction m32 using Nat.strongRecOn with
    | _ m32 ih31 =>
      intro σ2 v1 hF3 hR34 hm35
      have hR34_i := sg_id (z := v1) (by omega)
      refine wk_b tt_17 2 (pc' := 4) (ls' := [(0, .inr (.inr (.ref 54))), (1, .inl (a1)), (2, .inr (.inr (.ref 55))), (3, .inl (v1))]) (st' := [.inl (a1), .inl (v1)]) (σ' := σ2) rfl ?_
      refine wk_if2n tt_17 (tgt := 19) rfl rfl (fun h36 => ?_) (fun h36 => ?_)
      ·
        have h36_r := sg_Rn (a1)
        have h36_q := sg_Rn (v1)
        simp only [sg_c, sg_nc] at h36
        exact wk_ls [(0, .inr (.inr (.ref 54))), (1, .inl (a1)), (2, .inr (.inr (.ref 55)))] rfl ⟨rfl, rfl, rfl, trivial⟩ (ex4 σ2 hF3)
      ·
        have h36_r := sg_Rn (a1)
        have h36_q := sg_Rn (v1)
        simp only [sg_c, sg_nc] at h36
        refine wk_b tt_17 3 (pc' := 10) (ls' := [(0, .inr (.inr (.ref 54))), (1, .inl (a1)), (2, .inr (.inr (.ref 55))), (3, .inl (v1))]) (st' := [.inl ((-1)), .inl (v1), .inr (.inr (.ref 55))]) (σ' := σ2) rfl ?_
        refine wk_callp tt_17 rfl rfl rfl rfl rfl tt_21 rfl (by decide) (pt_i z σ2 55 200 (v1) ((-1)) rfl (by decide)) ?_
        have hF40 : sg_F [55] σ (sx_put σ2 55 200 (sg_n (v1)) ((-1))) := sg_F_p hF3 rfl _ _ _
        generalize (sx_put σ2 55 200 (sg_n (v1)) ((-1))) = σ41 at hF40 ⊢
        refine wk_b tt_17 2 (pc' := 2) (ls' := [(3, .inl ((v1 + 1))), (0, .inr (.inr (.ref 54))), (1, .inl (a1)), (2, .inr (.inr (.ref 55)))]) (st' := []) (σ' := σ41) rfl ?_
        refine wk_ls [(0, .inr (.inr (.ref 54))), (1, .inl (a1)), (2, .inr (.inr (.ref 55))), (3, .inl ((v1 + 1)))] rfl ⟨rfl, rfl, rfl, rfl, trivial⟩ (ih31 _ ?_ σ41 ((v1 + 1)) hF40 ?_ rfl)
        · omega
        · omega
  refine wk_ls [(0, .inr (.inr (.ref 54))), (1, .inl (a1)), (2, .inr (.inr (.ref 55))), (3, .inl (0))] rfl ⟨rfl, rfl, rfl, rfl, trivial⟩ ?_
  exact lp33 _ σ (0) hF0 (by omega) rfl
-- NestedVectors$NestedRun.permute x.nestedRun a1 a2
set_option maxRecDepth 8000 in
theorem bt_47 (z : Value) (σ : sg_S) (a1 : Int) (a2 : Int) : wx z 3 154 0 [(0, .inr (.inr (.ref 45))), (1, .inl (a1)), (2, .inl (a2))] [] σ (fun v σ' => v = none ∧ sg_F [45, 48, 53, 54, 55] σ σ') := by
  have hF0 := sg_F_r [45, 48, 53, 54, 55] σ
  refine wk_b tt_154 2 (pc' := 2) (ls' := [(0, .inr (.inr (.ref 45))), (1, .inl (a1)), (2, .inl (a2))]) (st' := [.inl (a1), .inr (.inr (.ref 45))]) (σ' := σ) rfl ?_
  refine wk_call tt_154 rfl rfl rfl rfl rfl tt_149 rfl (by decide) (bt_4 z σ (a1)) (fun w1 σ2 hq3 => ?_)
  obtain ⟨⟨q5, rfl⟩, hF4⟩ := hq3
  have hF6 := sg_F_t hF0 (sg_F_m (L := [45, 48, 53, 54, 55]) hF4 rfl)
  refine wk_b tt_154 4 (pc' := 9) (ls' := [(3, .inl (q5)), (0, .inr (.inr (.ref 45))), (1, .inl (a1)), (2, .inl (a2))]) (st' := [.inl (a2), .inr (.inr (.ref 45)), .inl (q5)]) (σ' := σ2) rfl ?_
  refine wk_call tt_154 rfl rfl rfl rfl rfl tt_149 rfl (by decide) (bt_4 z σ2 (a2)) (fun w7 σ8 hq9 => ?_)
  obtain ⟨⟨q11, rfl⟩, hF10⟩ := hq9
  have hF12 := sg_F_t hF6 (sg_F_m (L := [45, 48, 53, 54, 55]) hF10 rfl)
  refine wk_if2b tt_154 (tgt := 21) rfl rfl ?_ ?_
  ·
    refine wk_b tt_154 2 (pc' := 23) (ls' := [(3, .inl (q5)), (0, .inr (.inr (.ref 45))), (1, .inl (a1)), (2, .inl (a2))]) (st' := [.inl (a2), .inr (.inr (.ref 45))]) (σ' := σ8) rfl ?_
    refine wk_call tt_154 rfl rfl rfl rfl rfl tt_130 rfl (by decide) (bt_37 z σ8 (a2)) (fun w14 σ15 hq16 => ?_)
    obtain ⟨rfl, hF17⟩ := hq16
    have hF18 := sg_F_t hF12 (sg_F_m (L := [45, 48, 53, 54, 55]) hF17 rfl)
    refine wk_b tt_154 5 (pc' := 35) (ls' := [(3, .inl (q5)), (0, .inr (.inr (.ref 45))), (1, .inl (a1)), (2, .inl (a2))]) (st' := [.inr (.inr (.ref 55)), .inl (q5), .inr (.inr (.ref 54))]) (σ' := σ15) rfl ?_
    refine wk_call tt_154 rfl rfl rfl rfl rfl tt_17 rfl (by decide) (bt_46 z σ15 (q5)) (fun w19 σ20 hq21 => ?_)
    obtain ⟨⟨q23, rfl, hq23⟩, hF22⟩ := hq21
    have hF24 := sg_F_t hF18 (sg_F_m (L := [45, 48, 53, 54, 55]) hF22 rfl)
    refine wk_ifb tt_154 (tgt := 48) rfl rfl ?_ ?_
    ·
      refine wk_b tt_154 5 (pc' := 56) (ls' := [(4, .inl (0)), (3, .inl (q5)), (0, .inr (.inr (.ref 45))), (1, .inl (a1)), (2, .inl (a2))]) (st' := []) (σ' := (sg_w σ20 45 21 (0))) rfl ?_
      have hF26 : sg_F [45, 48, 53, 54, 55] σ (sg_w σ20 45 21 (0)) := (sg_F_w hF24 rfl _)
      generalize (sg_w σ20 45 21 (0)) = σ27 at hF26 ⊢
      have ex31 : ∀ (σ29 : sg_S), sg_F [45, 48, 53, 54, 55] σ σ29 → wx z 3 154 86 [(0, .inr (.inr (.ref 45)))] [] σ29 (fun v σ' => v = none ∧ sg_F [45, 48, 53, 54, 55] σ σ') := by
        intro σ29 hF30
        refine wk_b tt_154 1 (pc' := 87) (ls' := [(0, .inr (.inr (.ref 45)))]) (st' := [.inr (.inr (.ref 45))]) (σ' := σ29) rfl ?_
        refine wk_call tt_154 rfl rfl rfl rfl rfl tt_144 rfl (by decide) (bt_27 z σ29) (fun w32 σ33 hq34 => ?_)
        obtain ⟨rfl, hF35⟩ := hq34
        have hF36 := sg_F_t hF30 (sg_F_m (L := [45, 48, 53, 54, 55]) hF35 rfl)
        exact wk_rV tt_154 rfl rfl ⟨rfl, hF36⟩
      have lp39 : ∀ (m38 : Nat) (σ29 : sg_S) (v28 : Int), sg_F [45, 48, 53, 54, 55] σ σ29 → (sg_R v28) → (2147483647 - v28).toNat = m38 → wx z 3 154 56 [(0, .inr (.inr (.ref 45))), (1, .inl (a1)), (3, .inl (q5)), (4, .inl (v28))] [] σ29 (fun v σ' => v = none ∧ sg_F [45, 48, 53, 54, 55] σ σ') := by
        intro m38
        induction m38 using Nat.strongRecOn with
        | _ m38 ih37 =>
          intro σ29 v28 hF30 hR40 hm41
          have hR40_i := sg_id (z := v28) (by omega)
          refine wk_b tt_154 2 (pc' := 59) (ls' := [(0, .inr (.inr (.ref 45))), (1, .inl (a1)), (3, .inl (q5)), (4, .inl (v28))]) (st' := [.inl (q5), .inl (v28)]) (σ' := σ29) rfl ?_
          refine wk_if2n tt_154 (tgt := 86) rfl rfl (fun h42 => ?_) (fun h42 => ?_)
          ·
            have h42_r := sg_Rn (q5)
            have h42_q := sg_Rn (v28)
            simp only [sg_c, sg_nc] at h42
            exact wk_ls [(0, .inr (.inr (.ref 45)))] rfl ⟨rfl, trivial⟩ (ex31 σ29 hF30)
          ·
            have h42_r := sg_Rn (q5)
            have h42_q := sg_Rn (v28)
            simp only [sg_c, sg_nc] at h42
            refine wk_b tt_154 6 (pc' := 71) (ls' := [(0, .inr (.inr (.ref 45))), (1, .inl (a1)), (3, .inl (q5)), (4, .inl (v28))]) (st' := [.inl (v28), .inr (.inr (.ref 55)), .inl (a1), .inr (.inr (.ref 45)), .inr (.inr (.ref 45))]) (σ' := σ29) rfl ?_
            refine wk_callp tt_154 rfl rfl rfl rfl rfl tt_5 rfl (by decide) (at_i z σ29 55 200 (v28) rfl (by decide)) ?_
            generalize sx_at σ29 55 200 (sg_n (v28)) = q46
            refine wk_call tt_154 rfl rfl rfl rfl rfl tt_145 rfl (by decide) (bt_6 z σ29 (a1) (q46)) (fun w47 σ48 hq49 => ?_)
            obtain ⟨⟨q51, rfl⟩, hF50⟩ := hq49
            have hF52 := sg_F_t hF30 (sg_F_m (L := [45, 48, 53, 54, 55]) hF50 rfl)
            refine wk_call tt_154 rfl rfl rfl rfl rfl tt_129 rfl (by decide) (bt_33 z σ48 (q51)) (fun w53 σ54 hq55 => ?_)
            obtain ⟨rfl, hF56⟩ := hq55
            have hF57 := sg_F_t hF52 (sg_F_m (L := [45, 48, 53, 54, 55]) hF56 rfl)
            refine wk_b tt_154 2 (pc' := 56) (ls' := [(4, .inl ((v28 + 1))), (0, .inr (.inr (.ref 45))), (1, .inl (a1)), (3, .inl (q5))]) (st' := []) (σ' := σ54) rfl ?_
            refine wk_ls [(0, .inr (.inr (.ref 45))), (1, .inl (a1)), (3, .inl (q5)), (4, .inl ((v28 + 1)))] rfl ⟨rfl, rfl, rfl, rfl, trivial⟩ (ih37 _ ?_ σ54 ((v28 + 1)) hF57 ?_ rfl)
            · omega
            · omega
      refine wk_ls [(0, .inr (.inr (.ref 45))), (1, .inl (a1)), (3, .inl (q5)), (4, .inl (0))] rfl ⟨rfl, rfl, rfl, rfl, trivial⟩ ?_
      exact lp39 _ σ27 (0) hF26 (by omega) rfl
    ·
      refine wk_b tt_154 3 (pc' := 47) (ls' := [(3, .inl (q5)), (0, .inr (.inr (.ref 45))), (1, .inl (a1)), (2, .inl (a2))]) (st' := []) (σ' := (sg_w σ20 45 10 (6))) rfl ?_
      have hF58 : sg_F [45, 48, 53, 54, 55] σ (sg_w σ20 45 10 (6)) := (sg_F_w hF24 rfl _)
      generalize (sg_w σ20 45 10 (6)) = σ59 at hF58 ⊢
      exact wk_rV tt_154 rfl rfl ⟨rfl, hF58⟩
  ·
    refine wk_b tt_154 3 (pc' := 20) (ls' := [(3, .inl (q5)), (0, .inr (.inr (.ref 45))), (1, .inl (a1)), (2, .inl (a2))]) (st' := []) (σ' := (sg_w σ8 45 10 (3))) rfl ?_
    have hF60 : sg_F [45, 48, 53, 54, 55] σ (sg_w σ8 45 10 (3)) := (sg_F_w hF12 rfl _)
    generalize (sg_w σ8 45 10 (3)) = σ61 at hF60 ⊢
    exact wk_rV tt_154 rfl rfl ⟨rfl, hF60⟩
-- NestedVectors$NestedRun.keepParts x.nestedRun a1 a2 a3
set_option maxRecDepth 8000 in
theorem bt_48 (z : Value) (σ : sg_S) (a1 : Int) (a2 : Int) (a3 : Int) : wx z 2 148 0 [(0, .inr (.inr (.ref 45))), (1, .inl (a1)), (2, .inl (a2)), (3, .inl (a3))] [] σ (fun v σ' => v = none ∧ sg_F [45, 48, 53, 54] σ σ') := by
  have hF0 := sg_F_r [45, 48, 53, 54] σ
  refine wk_b tt_148 2 (pc' := 2) (ls' := [(0, .inr (.inr (.ref 45))), (1, .inl (a1)), (2, .inl (a2)), (3, .inl (a3))]) (st' := [.inl (a2), .inr (.inr (.ref 45))]) (σ' := σ) rfl ?_
  refine wk_call tt_148 rfl rfl rfl rfl rfl tt_149 rfl (by decide) (bt_4 z σ (a2)) (fun w1 σ2 hq3 => ?_)
  obtain ⟨⟨q5, rfl⟩, hF4⟩ := hq3
  have hF6 := sg_F_t hF0 (sg_F_m (L := [45, 48, 53, 54]) hF4 rfl)
  refine wk_b tt_148 5 (pc' := 13) (ls' := [(6, .inl (0)), (5, .inl (0)), (4, .inl (q5)), (0, .inr (.inr (.ref 45))), (1, .inl (a1)), (2, .inl (a2)), (3, .inl (a3))]) (st' := []) (σ' := σ2) rfl ?_
  have ex11 : ∀ (σ9 : sg_S), sg_F [45, 48, 53, 54] σ σ9 → wx z 2 148 107 [(0, .inr (.inr (.ref 45))), (1, .inl (a1)), (4, .inl (q5))] [] σ9 (fun v σ' => v = none ∧ sg_F [45, 48, 53, 54] σ σ') := by
    intro σ9 hF10
    refine wk_b tt_148 2 (pc' := 110) (ls' := [(0, .inr (.inr (.ref 45))), (1, .inl (a1)), (4, .inl (q5))]) (st' := [.inl (q5), .inr (.inr (.ref 45))]) (σ' := σ9) rfl ?_
    refine wk_call tt_148 rfl rfl rfl rfl rfl tt_143 rfl (by decide) (bt_24 z σ9 (q5)) (fun w12 σ13 hq14 => ?_)
    obtain ⟨rfl, hF15⟩ := hq14
    have hF16 := sg_F_t hF10 (sg_F_m (L := [45, 48, 53, 54]) hF15 rfl)
    refine wk_b tt_148 4 (pc' := 118) (ls' := [(0, .inr (.inr (.ref 45))), (1, .inl (a1)), (4, .inl (q5))]) (st' := [.inl (a1), .inr (.inr (.ref 45)), .inl (q5), .inr (.inr (.ref 45))]) (σ' := σ13) rfl ?_
    refine wk_call tt_148 rfl rfl rfl rfl rfl tt_136 rfl (by decide) (bt_26 z σ13 (a1)) (fun w17 σ18 hq19 => ?_)
    obtain ⟨⟨q21, rfl⟩, hF20⟩ := hq19
    have hF22 := sg_F_t hF16 (sg_F_m (L := [45, 48, 53, 54]) hF20 rfl)
    refine wk_b tt_148 1 (pc' := 122) (ls' := [(0, .inr (.inr (.ref 45))), (1, .inl (a1)), (4, .inl (q5))]) (st' := [.inl ((q5 + q21)), .inr (.inr (.ref 45))]) (σ' := σ18) rfl ?_
    refine wk_call tt_148 rfl rfl rfl rfl rfl tt_147 rfl (by decide) (bt_25 z σ18 ((q5 + q21))) (fun w23 σ24 hq25 => ?_)
    obtain ⟨rfl, hF26⟩ := hq25
    have hF27 := sg_F_t hF22 (sg_F_m (L := [45, 48, 53, 54]) hF26 rfl)
    exact wk_rV tt_148 rfl rfl ⟨rfl, hF27⟩
  have lp30 : ∀ (m29 : Nat) (σ9 : sg_S) (v7 : Int) (v8 : Int), sg_F [45, 48, 53, 54] σ σ9 → (sg_R v8) → (2147483647 - v8).toNat = m29 → wx z 2 148 13 [(0, .inr (.inr (.ref 45))), (1, .inl (a1)), (2, .inl (a2)), (3, .inl (a3)), (4, .inl (q5)), (5, .inl (v7)), (6, .inl (v8))] [] σ9 (fun v σ' => v = none ∧ sg_F [45, 48, 53, 54] σ σ') := by
    intro m29
    induction m29 using Nat.strongRecOn with
    | _ m29 ih28 =>
      intro σ9 v7 v8 hF10 hR31 hm32
      have hR31_i := sg_id (z := v8) (by omega)
      refine wk_b tt_148 2 (pc' := 17) (ls' := [(0, .inr (.inr (.ref 45))), (1, .inl (a1)), (2, .inl (a2)), (3, .inl (a3)), (4, .inl (q5)), (5, .inl (v7)), (6, .inl (v8))]) (st' := [.inl (q5), .inl (v8)]) (σ' := σ9) rfl ?_
      refine wk_if2n tt_148 (tgt := 107) rfl rfl (fun h33 => ?_) (fun h33 => ?_)
      ·
        have h33_r := sg_Rn (q5)
        have h33_q := sg_Rn (v8)
        simp only [sg_c, sg_nc] at h33
        exact wk_ls [(0, .inr (.inr (.ref 45))), (1, .inl (a1)), (4, .inl (q5))] rfl ⟨rfl, rfl, rfl, trivial⟩ (ex11 σ9 hF10)
      ·
        have h33_r := sg_Rn (q5)
        have h33_q := sg_Rn (v8)
        simp only [sg_c, sg_nc] at h33
        refine wk_b tt_148 4 (pc' := 26) (ls' := [(0, .inr (.inr (.ref 45))), (1, .inl (a1)), (2, .inl (a2)), (3, .inl (a3)), (4, .inl (q5)), (5, .inl (v7)), (6, .inl (v8))]) (st' := [.inl (v8), .inl (a2), .inr (.inr (.ref 45)), .inl (v7)]) (σ' := σ9) rfl ?_
        refine wk_call tt_148 rfl rfl rfl rfl rfl tt_145 rfl (by decide) (bt_6 z σ9 (a2) (v8)) (fun w34 σ35 hq36 => ?_)
        obtain ⟨⟨q38, rfl⟩, hF37⟩ := hq36
        have hF39 := sg_F_t hF10 (sg_F_m (L := [45, 48, 53, 54]) hF37 rfl)
        refine wk_b tt_148 8 (pc' := 43) (ls' := [(9, .inl (v7)), (8, .inl (((v7 + q38) - v7))), (7, .inl ((v7 + q38))), (0, .inr (.inr (.ref 45))), (1, .inl (a1)), (2, .inl (a2)), (3, .inl (a3)), (4, .inl (q5)), (5, .inl (v7)), (6, .inl (v8))]) (st' := []) (σ' := σ35) rfl ?_
        have ex44 : ∀ (σ42 : sg_S) (v40 : Int), sg_F [45, 48, 53, 54] σ σ42 → wx z 2 148 91 [(0, .inr (.inr (.ref 45))), (1, .inl (a1)), (2, .inl (a2)), (3, .inl (a3)), (4, .inl (q5)), (6, .inl (v8)), (7, .inl ((v7 + q38))), (8, .inl (v40))] [] σ42 (fun v σ' => v = none ∧ sg_F [45, 48, 53, 54] σ σ') := by
          intro σ42 v40 hF43
          refine wk_b tt_148 4 (pc' := 98) (ls' := [(5, .inl ((v7 + q38))), (0, .inr (.inr (.ref 45))), (1, .inl (a1)), (2, .inl (a2)), (3, .inl (a3)), (4, .inl (q5)), (6, .inl (v8)), (7, .inl ((v7 + q38))), (8, .inl (v40))]) (st' := [.inl (v40), .inr (.inr (.ref 45))]) (σ' := σ42) rfl ?_
          refine wk_call tt_148 rfl rfl rfl rfl rfl tt_147 rfl (by decide) (bt_25 z σ42 (v40)) (fun w45 σ46 hq47 => ?_)
          obtain ⟨rfl, hF48⟩ := hq47
          have hF49 := sg_F_t hF43 (sg_F_m (L := [45, 48, 53, 54]) hF48 rfl)
          refine wk_b tt_148 2 (pc' := 13) (ls' := [(6, .inl ((v8 + 1))), (5, .inl ((v7 + q38))), (0, .inr (.inr (.ref 45))), (1, .inl (a1)), (2, .inl (a2)), (3, .inl (a3)), (4, .inl (q5)), (7, .inl ((v7 + q38))), (8, .inl (v40))]) (st' := []) (σ' := σ46) rfl ?_
          refine wk_ls [(0, .inr (.inr (.ref 45))), (1, .inl (a1)), (2, .inl (a2)), (3, .inl (a3)), (4, .inl (q5)), (5, .inl ((v7 + q38))), (6, .inl ((v8 + 1)))] rfl ⟨rfl, rfl, rfl, rfl, rfl, rfl, rfl, trivial⟩ (ih28 _ ?_ σ46 ((v7 + q38)) ((v8 + 1)) hF49 ?_ rfl)
          · omega
          · omega
        have lp52 : ∀ (m51 : Nat) (σ42 : sg_S) (v40 : Int) (v41 : Int), sg_F [45, 48, 53, 54] σ σ42 → (sg_R v41) → (2147483647 - v41).toNat = m51 → wx z 2 148 43 [(0, .inr (.inr (.ref 45))), (1, .inl (a1)), (2, .inl (a2)), (3, .inl (a3)), (4, .inl (q5)), (6, .inl (v8)), (7, .inl ((v7 + q38))), (8, .inl (v40)), (9, .inl (v41))] [] σ42 (fun v σ' => v = none ∧ sg_F [45, 48, 53, 54] σ σ') := by
          intro m51
          induction m51 using Nat.strongRecOn with
          | _ m51 ih50 =>
            intro σ42 v40 v41 hF43 hR53 hm54
            have hR53_i := sg_id (z := v41) (by omega)
            refine wk_b tt_148 2 (pc' := 47) (ls' := [(0, .inr (.inr (.ref 45))), (1, .inl (a1)), (2, .inl (a2)), (3, .inl (a3)), (4, .inl (q5)), (6, .inl (v8)), (7, .inl ((v7 + q38))), (8, .inl (v40)), (9, .inl (v41))]) (st' := [.inl ((v7 + q38)), .inl (v41)]) (σ' := σ42) rfl ?_
            refine wk_if2n tt_148 (tgt := 91) rfl rfl (fun h55 => ?_) (fun h55 => ?_)
            ·
              have h55_r := sg_Rn ((v7 + q38))
              have h55_q := sg_Rn (v41)
              simp only [sg_c, sg_nc] at h55
              exact wk_ls [(0, .inr (.inr (.ref 45))), (1, .inl (a1)), (2, .inl (a2)), (3, .inl (a3)), (4, .inl (q5)), (6, .inl (v8)), (7, .inl ((v7 + q38))), (8, .inl (v40))] rfl ⟨rfl, rfl, rfl, rfl, rfl, rfl, rfl, rfl, trivial⟩ (ex44 σ42 (v40) hF43)
            ·
              have h55_r := sg_Rn ((v7 + q38))
              have h55_q := sg_Rn (v41)
              simp only [sg_c, sg_nc] at h55
              refine wk_b tt_148 4 (pc' := 55) (ls' := [(0, .inr (.inr (.ref 45))), (1, .inl (a1)), (2, .inl (a2)), (3, .inl (a3)), (4, .inl (q5)), (6, .inl (v8)), (7, .inl ((v7 + q38))), (8, .inl (v40)), (9, .inl (v41))]) (st' := [.inl (v41), .inl (a1), .inr (.inr (.ref 45)), .inr (.inr (.ref 45))]) (σ' := σ42) rfl ?_
              refine wk_call tt_148 rfl rfl rfl rfl rfl tt_145 rfl (by decide) (bt_6 z σ42 (a1) (v41)) (fun w56 σ57 hq58 => ?_)
              obtain ⟨⟨q60, rfl⟩, hF59⟩ := hq58
              have hF61 := sg_F_t hF43 (sg_F_m (L := [45, 48, 53, 54]) hF59 rfl)
              refine wk_call tt_148 rfl rfl rfl rfl rfl tt_129 rfl (by decide) (bt_33 z σ57 (q60)) (fun w62 σ63 hq64 => ?_)
              obtain ⟨rfl, hF65⟩ := hq64
              have hF66 := sg_F_t hF61 (sg_F_m (L := [45, 48, 53, 54]) hF65 rfl)
              refine wk_b tt_148 2 (pc' := 64) (ls' := [(0, .inr (.inr (.ref 45))), (1, .inl (a1)), (2, .inl (a2)), (3, .inl (a3)), (4, .inl (q5)), (6, .inl (v8)), (7, .inl ((v7 + q38))), (8, .inl (v40)), (9, .inl (v41))]) (st' := [.inl (a3), .inl (v40)]) (σ' := σ63) rfl ?_
              refine wk_ifb tt_148 (tgt := 81) rfl rfl ?_ ?_
              ·
                refine wk_b tt_148 5 (pc' := 43) (ls' := [(9, .inl ((v41 + 1))), (8, .inl ((v40 + 0))), (0, .inr (.inr (.ref 45))), (1, .inl (a1)), (2, .inl (a2)), (3, .inl (a3)), (4, .inl (q5)), (6, .inl (v8)), (7, .inl ((v7 + q38)))]) (st' := []) (σ' := σ63) rfl ?_
                refine wk_ls [(0, .inr (.inr (.ref 45))), (1, .inl (a1)), (2, .inl (a2)), (3, .inl (a3)), (4, .inl (q5)), (6, .inl (v8)), (7, .inl ((v7 + q38))), (8, .inl ((v40 + 0))), (9, .inl ((v41 + 1)))] rfl ⟨rfl, rfl, rfl, rfl, rfl, rfl, rfl, rfl, rfl, trivial⟩ (ih50 _ ?_ σ63 ((v40 + 0)) ((v41 + 1)) hF66 ?_ rfl)
                · omega
                · omega
              ·
                refine wk_b tt_148 4 (pc' := 72) (ls' := [(0, .inr (.inr (.ref 45))), (1, .inl (a1)), (2, .inl (a2)), (3, .inl (a3)), (4, .inl (q5)), (6, .inl (v8)), (7, .inl ((v7 + q38))), (8, .inl (v40)), (9, .inl (v41))]) (st' := [.inl (v41), .inl (a1), .inr (.inr (.ref 45)), .inr (.inr (.ref 45)), .inl (v40)]) (σ' := σ63) rfl ?_
                refine wk_call tt_148 rfl rfl rfl rfl rfl tt_145 rfl (by decide) (bt_6 z σ63 (a1) (v41)) (fun w68 σ69 hq70 => ?_)
                obtain ⟨⟨q72, rfl⟩, hF71⟩ := hq70
                have hF73 := sg_F_t hF66 (sg_F_m (L := [45, 48, 53, 54]) hF71 rfl)
                refine wk_call tt_148 rfl rfl rfl rfl rfl tt_136 rfl (by decide) (bt_26 z σ69 (q72)) (fun w74 σ75 hq76 => ?_)
                obtain ⟨⟨q78, rfl⟩, hF77⟩ := hq76
                have hF79 := sg_F_t hF73 (sg_F_m (L := [45, 48, 53, 54]) hF77 rfl)
                refine wk_b tt_148 5 (pc' := 43) (ls' := [(9, .inl ((v41 + 1))), (8, .inl ((v40 + q78))), (0, .inr (.inr (.ref 45))), (1, .inl (a1)), (2, .inl (a2)), (3, .inl (a3)), (4, .inl (q5)), (6, .inl (v8)), (7, .inl ((v7 + q38)))]) (st' := []) (σ' := σ75) rfl ?_
                refine wk_ls [(0, .inr (.inr (.ref 45))), (1, .inl (a1)), (2, .inl (a2)), (3, .inl (a3)), (4, .inl (q5)), (6, .inl (v8)), (7, .inl ((v7 + q38))), (8, .inl ((v40 + q78))), (9, .inl ((v41 + 1)))] rfl ⟨rfl, rfl, rfl, rfl, rfl, rfl, rfl, rfl, rfl, trivial⟩ (ih50 _ ?_ σ75 ((v40 + q78)) ((v41 + 1)) hF79 ?_ rfl)
                · omega
                · omega
        refine wk_ls [(0, .inr (.inr (.ref 45))), (1, .inl (a1)), (2, .inl (a2)), (3, .inl (a3)), (4, .inl (q5)), (6, .inl (v8)), (7, .inl ((v7 + q38))), (8, .inl (((v7 + q38) - v7))), (9, .inl (v7))] rfl ⟨rfl, rfl, rfl, rfl, rfl, rfl, rfl, rfl, rfl, trivial⟩ ?_
        refine wk_eq (ls' := [(0, .inr (.inr (.ref 45))), (1, .inl (a1)), (2, .inl (a2)), (3, .inl (a3)), (4, .inl (q5)), (6, .inl (v8)), (7, .inl ((v7 + q38))), (8, .inl (((v7 + q38) - v7))), (9, .inl (sg_n (v7)))]) (by simp only [bm_ls, List.map_cons, bm_v, sg_in]) rfl ?_
        exact lp52 _ σ35 (((v7 + q38) - v7)) (sg_n (v7)) hF39 (sg_Rn _) rfl
  refine wk_ls [(0, .inr (.inr (.ref 45))), (1, .inl (a1)), (2, .inl (a2)), (3, .inl (a3)), (4, .inl (q5)), (5, .inl (0)), (6, .inl (0))] rfl ⟨rfl, rfl, rfl, rfl, rfl, rfl, rfl, trivial⟩ ?_
  exact lp30 _ σ2 (0) (0) hF6 (by omega) rfl
-- NestedVectors$NestedRun.divide x.nestedRun a1 a2
set_option maxRecDepth 8000 in
theorem bt_49 (z : Value) (σ : sg_S) (a1 : Int) (a2 : Int) : wx z 3 138 0 [(0, .inr (.inr (.ref 45))), (1, .inl (a1)), (2, .inl (a2))] [] σ (fun v σ' => v = none ∧ sg_F [45, 48, 53, 54] σ σ') := by
  have hF0 := sg_F_r [45, 48, 53, 54] σ
  refine wk_b tt_138 2 (pc' := 2) (ls' := [(0, .inr (.inr (.ref 45))), (1, .inl (a1)), (2, .inl (a2))]) (st' := [.inl (a2), .inr (.inr (.ref 45))]) (σ' := σ) rfl ?_
  refine wk_call tt_138 rfl rfl rfl rfl rfl tt_149 rfl (by decide) (bt_4 z σ (a2)) (fun w1 σ2 hq3 => ?_)
  obtain ⟨⟨q5, rfl⟩, hF4⟩ := hq3
  have hF6 := sg_F_t hF0 (sg_F_m (L := [45, 48, 53, 54]) hF4 rfl)
  refine wk_b tt_138 7 (pc' := 15) (ls' := [(7, .inl (0)), (6, .inl (0)), (4, .inr (.inl (0))), (3, .inl (q5)), (0, .inr (.inr (.ref 45))), (1, .inl (a1)), (2, .inl (a2))]) (st' := []) (σ' := σ2) rfl ?_
  have ex12 : ∀ (σ10 : sg_S) (v7 : Int) (v8 : Int), sg_F [45, 48, 53, 54] σ σ10 → wx z 3 138 62 [(0, .inr (.inr (.ref 45))), (1, .inl (a1)), (2, .inl (a2)), (3, .inl (q5)), (4, .inr (.inl (v7))), (6, .inl (v8))] [] σ10 (fun v σ' => v = none ∧ sg_F [45, 48, 53, 54] σ σ') := by
    intro σ10 v7 v8 hF11
    refine wk_b tt_138 1 (pc' := 64) (ls' := [(0, .inr (.inr (.ref 45))), (1, .inl (a1)), (2, .inl (a2)), (3, .inl (q5)), (4, .inr (.inl (v7))), (6, .inl (v8))]) (st' := [.inl (v8)]) (σ' := σ10) rfl ?_
    refine wk_ifb tt_138 (tgt := 79) rfl rfl ?_ ?_
    ·
      refine wk_b tt_138 2 (pc' := 82) (ls' := [(0, .inr (.inr (.ref 45))), (1, .inl (a1)), (2, .inl (a2)), (3, .inl (q5)), (4, .inr (.inl (v7))), (6, .inl (v8))]) (st' := [.inl (v8), .inr (.inr (.ref 45))]) (σ' := σ10) rfl ?_
      refine wk_ifb tt_138 (tgt := 89) rfl rfl ?_ ?_
      ·
        refine wk_b tt_138 3 (pc' := 129) (ls' := [(0, .inr (.inr (.ref 45))), (1, .inl (a1)), (2, .inl (a2)), (3, .inl (q5)), (4, .inr (.inl (v7))), (6, .inl (v8))]) (st' := []) (σ' := (sg_w σ10 45 10 (3))) rfl ?_
        have hF15 : sg_F [45, 48, 53, 54] σ (sg_w σ10 45 10 (3)) := (sg_F_w hF11 rfl _)
        generalize (sg_w σ10 45 10 (3)) = σ16 at hF15 ⊢
        exact wk_rV tt_138 rfl rfl ⟨rfl, hF15⟩
      ·
        refine wk_b tt_138 4 (pc' := 129) (ls' := [(0, .inr (.inr (.ref 45))), (1, .inl (a1)), (2, .inl (a2)), (3, .inl (q5)), (4, .inr (.inl (v7))), (6, .inl (v8))]) (st' := []) (σ' := (sg_w σ10 45 10 (5))) rfl ?_
        have hF17 : sg_F [45, 48, 53, 54] σ (sg_w σ10 45 10 (5)) := (sg_F_w hF11 rfl _)
        generalize (sg_w σ10 45 10 (5)) = σ18 at hF17 ⊢
        exact wk_rV tt_138 rfl rfl ⟨rfl, hF17⟩
    ·
      refine wk_b tt_138 3 (pc' := 71) (ls' := [(0, .inr (.inr (.ref 45))), (1, .inl (a1)), (2, .inl (a2)), (3, .inl (q5)), (4, .inr (.inl (v7))), (6, .inl (v8))]) (st' := [.inl (a1), .inr (.inr (.ref 45)), .inr (.inl (v7))]) (σ' := σ10) rfl ?_
      refine wk_call tt_138 rfl rfl rfl rfl rfl tt_149 rfl (by decide) (bt_4 z σ10 (a1)) (fun w19 σ20 hq21 => ?_)
      obtain ⟨⟨q23, rfl⟩, hF22⟩ := hq21
      have hF24 := sg_F_t hF11 (sg_F_m (L := [45, 48, 53, 54]) hF22 rfl)
      refine wk_b tt_138 2 (pc' := 76) (ls' := [(0, .inr (.inr (.ref 45))), (1, .inl (a1)), (2, .inl (a2)), (3, .inl (q5)), (4, .inr (.inl (v7))), (6, .inl (v8))]) (st' := [.inl ((bm_lc (v7) ((sg_n (q23)))))]) (σ' := σ20) rfl ?_
      refine wk_ifb tt_138 (tgt := 96) rfl rfl ?_ ?_
      ·
        refine wk_b tt_138 4 (pc' := 100) (ls' := [(0, .inr (.inr (.ref 45))), (1, .inl (a1)), (2, .inl (a2)), (3, .inl (q5)), (4, .inr (.inl (v7))), (6, .inl (v8))]) (st' := [.inl (a1), .inr (.inr (.ref 45)), .inl (q5), .inr (.inr (.ref 45))]) (σ' := σ20) rfl ?_
        refine wk_call tt_138 rfl rfl rfl rfl rfl tt_136 rfl (by decide) (bt_26 z σ20 (a1)) (fun w26 σ27 hq28 => ?_)
        obtain ⟨⟨q30, rfl⟩, hF29⟩ := hq28
        have hF31 := sg_F_t hF24 (sg_F_m (L := [45, 48, 53, 54]) hF29 rfl)
        refine wk_b tt_138 1 (pc' := 104) (ls' := [(0, .inr (.inr (.ref 45))), (1, .inl (a1)), (2, .inl (a2)), (3, .inl (q5)), (4, .inr (.inl (v7))), (6, .inl (v8))]) (st' := [.inl ((q5 + q30)), .inr (.inr (.ref 45))]) (σ' := σ27) rfl ?_
        refine wk_call tt_138 rfl rfl rfl rfl rfl tt_162 rfl (by decide) (bt_20 z σ27 ((q5 + q30))) (fun w32 σ33 hq34 => ?_)
        obtain ⟨⟨q36, rfl, hq36⟩, hF35⟩ := hq34
        have hF37 := sg_F_t hF31 (sg_F_m (L := [45, 48, 53, 54]) hF35 rfl)
        refine wk_ifb tt_138 (tgt := 129) rfl rfl ?_ ?_
        ·
          exact wk_rV tt_138 rfl rfl ⟨rfl, hF37⟩
        ·
          refine wk_b tt_138 6 (pc' := 118) (ls' := [(0, .inr (.inr (.ref 45))), (1, .inl (a1)), (2, .inl (a2)), (3, .inl (q5)), (4, .inr (.inl (v7))), (6, .inl (v8))]) (st' := [.inl (2), .inl ((sg_g σ33 45 9)), .inl (a2), .inl (a1), .inr (.inr (.ref 45))]) (σ' := σ33) rfl ?_
          refine wk_if2b tt_138 (tgt := 125) rfl rfl ?_ ?_
          ·
            refine wk_b tt_138 1 (pc' := 126) (ls' := [(0, .inr (.inr (.ref 45))), (1, .inl (a1)), (2, .inl (a2)), (3, .inl (q5)), (4, .inr (.inl (v7))), (6, .inl (v8))]) (st' := [.inl (0), .inl (a2), .inl (a1), .inr (.inr (.ref 45))]) (σ' := σ33) rfl ?_
            refine wk_call tt_138 rfl rfl rfl rfl rfl tt_148 rfl (by decide) (bt_48 z σ33 (a1) (a2) (0)) (fun w40 σ41 hq42 => ?_)
            obtain ⟨rfl, hF43⟩ := hq42
            have hF44 := sg_F_t hF37 (sg_F_m (L := [45, 48, 53, 54]) hF43 rfl)
            exact wk_rV tt_138 rfl rfl ⟨rfl, hF44⟩
          ·
            refine wk_b tt_138 2 (pc' := 126) (ls' := [(0, .inr (.inr (.ref 45))), (1, .inl (a1)), (2, .inl (a2)), (3, .inl (q5)), (4, .inr (.inl (v7))), (6, .inl (v8))]) (st' := [.inl (1), .inl (a2), .inl (a1), .inr (.inr (.ref 45))]) (σ' := σ33) rfl ?_
            refine wk_call tt_138 rfl rfl rfl rfl rfl tt_148 rfl (by decide) (bt_48 z σ33 (a1) (a2) (1)) (fun w45 σ46 hq47 => ?_)
            obtain ⟨rfl, hF48⟩ := hq47
            have hF49 := sg_F_t hF37 (sg_F_m (L := [45, 48, 53, 54]) hF48 rfl)
            exact wk_rV tt_138 rfl rfl ⟨rfl, hF49⟩
      ·
        refine wk_b tt_138 2 (pc' := 82) (ls' := [(0, .inr (.inr (.ref 45))), (1, .inl (a1)), (2, .inl (a2)), (3, .inl (q5)), (4, .inr (.inl (v7))), (6, .inl (v8))]) (st' := [.inl (v8), .inr (.inr (.ref 45))]) (σ' := σ20) rfl ?_
        refine wk_ifb tt_138 (tgt := 89) rfl rfl ?_ ?_
        ·
          refine wk_b tt_138 3 (pc' := 129) (ls' := [(0, .inr (.inr (.ref 45))), (1, .inl (a1)), (2, .inl (a2)), (3, .inl (q5)), (4, .inr (.inl (v7))), (6, .inl (v8))]) (st' := []) (σ' := (sg_w σ20 45 10 (3))) rfl ?_
          have hF51 : sg_F [45, 48, 53, 54] σ (sg_w σ20 45 10 (3)) := (sg_F_w hF24 rfl _)
          generalize (sg_w σ20 45 10 (3)) = σ52 at hF51 ⊢
          exact wk_rV tt_138 rfl rfl ⟨rfl, hF51⟩
        ·
          refine wk_b tt_138 4 (pc' := 129) (ls' := [(0, .inr (.inr (.ref 45))), (1, .inl (a1)), (2, .inl (a2)), (3, .inl (q5)), (4, .inr (.inl (v7))), (6, .inl (v8))]) (st' := []) (σ' := (sg_w σ20 45 10 (5))) rfl ?_
          have hF53 : sg_F [45, 48, 53, 54] σ (sg_w σ20 45 10 (5)) := (sg_F_w hF24 rfl _)
          generalize (sg_w σ20 45 10 (5)) = σ54 at hF53 ⊢
          exact wk_rV tt_138 rfl rfl ⟨rfl, hF53⟩
  have lp57 : ∀ (m56 : Nat) (σ10 : sg_S) (v7 : Int) (v8 : Int) (v9 : Int), sg_F [45, 48, 53, 54] σ σ10 → (sg_R v9) → (2147483647 - v9).toNat = m56 → wx z 3 138 15 [(0, .inr (.inr (.ref 45))), (1, .inl (a1)), (2, .inl (a2)), (3, .inl (q5)), (4, .inr (.inl (v7))), (6, .inl (v8)), (7, .inl (v9))] [] σ10 (fun v σ' => v = none ∧ sg_F [45, 48, 53, 54] σ σ') := by
    intro m56
    induction m56 using Nat.strongRecOn with
    | _ m56 ih55 =>
      intro σ10 v7 v8 v9 hF11 hR58 hm59
      have hR58_i := sg_id (z := v9) (by omega)
      refine wk_b tt_138 2 (pc' := 18) (ls' := [(0, .inr (.inr (.ref 45))), (1, .inl (a1)), (2, .inl (a2)), (3, .inl (q5)), (4, .inr (.inl (v7))), (6, .inl (v8)), (7, .inl (v9))]) (st' := [.inl (q5), .inl (v9)]) (σ' := σ10) rfl ?_
      refine wk_if2n tt_138 (tgt := 62) rfl rfl (fun h60 => ?_) (fun h60 => ?_)
      ·
        have h60_r := sg_Rn (q5)
        have h60_q := sg_Rn (v9)
        simp only [sg_c, sg_nc] at h60
        exact wk_ls [(0, .inr (.inr (.ref 45))), (1, .inl (a1)), (2, .inl (a2)), (3, .inl (q5)), (4, .inr (.inl (v7))), (6, .inl (v8))] rfl ⟨rfl, rfl, rfl, rfl, rfl, rfl, trivial⟩ (ex12 σ10 (v7) (v8) hF11)
      ·
        have h60_r := sg_Rn (q5)
        have h60_q := sg_Rn (v9)
        simp only [sg_c, sg_nc] at h60
        refine wk_b tt_138 1 (pc' := 23) (ls' := [(0, .inr (.inr (.ref 45))), (1, .inl (a1)), (2, .inl (a2)), (3, .inl (q5)), (4, .inr (.inl (v7))), (6, .inl (v8)), (7, .inl (v9))]) (st' := [.inl (v8)]) (σ' := σ10) rfl ?_
        refine wk_ifb tt_138 (tgt := 36) rfl rfl ?_ ?_
        ·
          refine wk_b tt_138 7 (pc' := 49) (ls' := [(6, .inl (1)), (0, .inr (.inr (.ref 45))), (1, .inl (a1)), (2, .inl (a2)), (3, .inl (q5)), (4, .inr (.inl (v7))), (7, .inl (v9))]) (st' := [.inl (v9), .inl (a2), .inr (.inr (.ref 45)), .inr (.inl (v7))]) (σ' := σ10) rfl ?_
          refine wk_call tt_138 rfl rfl rfl rfl rfl tt_145 rfl (by decide) (bt_6 z σ10 (a2) (v9)) (fun w62 σ63 hq64 => ?_)
          obtain ⟨⟨q66, rfl⟩, hF65⟩ := hq64
          have hF67 := sg_F_t hF11 (sg_F_m (L := [45, 48, 53, 54]) hF65 rfl)
          refine wk_b tt_138 5 (pc' := 15) (ls' := [(7, .inl ((v9 + 1))), (4, .inr (.inl ((v7 + (sg_n (q66)))))), (6, .inl (1)), (0, .inr (.inr (.ref 45))), (1, .inl (a1)), (2, .inl (a2)), (3, .inl (q5))]) (st' := []) (σ' := σ63) rfl ?_
          refine wk_ls [(0, .inr (.inr (.ref 45))), (1, .inl (a1)), (2, .inl (a2)), (3, .inl (q5)), (4, .inr (.inl ((v7 + (sg_n (q66)))))), (6, .inl (1)), (7, .inl ((v9 + 1)))] rfl ⟨rfl, rfl, rfl, rfl, rfl, rfl, rfl, trivial⟩ (ih55 _ ?_ σ63 ((v7 + (sg_n (q66)))) (1) ((v9 + 1)) hF67 ?_ rfl)
          · omega
          · omega
        ·
          refine wk_b tt_138 3 (pc' := 30) (ls' := [(0, .inr (.inr (.ref 45))), (1, .inl (a1)), (2, .inl (a2)), (3, .inl (q5)), (4, .inr (.inl (v7))), (6, .inl (v8)), (7, .inl (v9))]) (st' := [.inl (v9), .inl (a2), .inr (.inr (.ref 45))]) (σ' := σ10) rfl ?_
          refine wk_call tt_138 rfl rfl rfl rfl rfl tt_145 rfl (by decide) (bt_6 z σ10 (a2) (v9)) (fun w68 σ69 hq70 => ?_)
          obtain ⟨⟨q72, rfl⟩, hF71⟩ := hq70
          have hF73 := sg_F_t hF11 (sg_F_m (L := [45, 48, 53, 54]) hF71 rfl)
          refine wk_ifb tt_138 (tgt := 40) rfl rfl ?_ ?_
          ·
            refine wk_b tt_138 6 (pc' := 49) (ls' := [(6, .inl (0)), (0, .inr (.inr (.ref 45))), (1, .inl (a1)), (2, .inl (a2)), (3, .inl (q5)), (4, .inr (.inl (v7))), (7, .inl (v9))]) (st' := [.inl (v9), .inl (a2), .inr (.inr (.ref 45)), .inr (.inl (v7))]) (σ' := σ69) rfl ?_
            refine wk_call tt_138 rfl rfl rfl rfl rfl tt_145 rfl (by decide) (bt_6 z σ69 (a2) (v9)) (fun w75 σ76 hq77 => ?_)
            obtain ⟨⟨q79, rfl⟩, hF78⟩ := hq77
            have hF80 := sg_F_t hF73 (sg_F_m (L := [45, 48, 53, 54]) hF78 rfl)
            refine wk_b tt_138 5 (pc' := 15) (ls' := [(7, .inl ((v9 + 1))), (4, .inr (.inl ((v7 + (sg_n (q79)))))), (6, .inl (0)), (0, .inr (.inr (.ref 45))), (1, .inl (a1)), (2, .inl (a2)), (3, .inl (q5))]) (st' := []) (σ' := σ76) rfl ?_
            refine wk_ls [(0, .inr (.inr (.ref 45))), (1, .inl (a1)), (2, .inl (a2)), (3, .inl (q5)), (4, .inr (.inl ((v7 + (sg_n (q79)))))), (6, .inl (0)), (7, .inl ((v9 + 1)))] rfl ⟨rfl, rfl, rfl, rfl, rfl, rfl, rfl, trivial⟩ (ih55 _ ?_ σ76 ((v7 + (sg_n (q79)))) (0) ((v9 + 1)) hF80 ?_ rfl)
            · omega
            · omega
          ·
            refine wk_b tt_138 7 (pc' := 49) (ls' := [(6, .inl (1)), (0, .inr (.inr (.ref 45))), (1, .inl (a1)), (2, .inl (a2)), (3, .inl (q5)), (4, .inr (.inl (v7))), (7, .inl (v9))]) (st' := [.inl (v9), .inl (a2), .inr (.inr (.ref 45)), .inr (.inl (v7))]) (σ' := σ69) rfl ?_
            refine wk_call tt_138 rfl rfl rfl rfl rfl tt_145 rfl (by decide) (bt_6 z σ69 (a2) (v9)) (fun w81 σ82 hq83 => ?_)
            obtain ⟨⟨q85, rfl⟩, hF84⟩ := hq83
            have hF86 := sg_F_t hF73 (sg_F_m (L := [45, 48, 53, 54]) hF84 rfl)
            refine wk_b tt_138 5 (pc' := 15) (ls' := [(7, .inl ((v9 + 1))), (4, .inr (.inl ((v7 + (sg_n (q85)))))), (6, .inl (1)), (0, .inr (.inr (.ref 45))), (1, .inl (a1)), (2, .inl (a2)), (3, .inl (q5))]) (st' := []) (σ' := σ82) rfl ?_
            refine wk_ls [(0, .inr (.inr (.ref 45))), (1, .inl (a1)), (2, .inl (a2)), (3, .inl (q5)), (4, .inr (.inl ((v7 + (sg_n (q85)))))), (6, .inl (1)), (7, .inl ((v9 + 1)))] rfl ⟨rfl, rfl, rfl, rfl, rfl, rfl, rfl, trivial⟩ (ih55 _ ?_ σ82 ((v7 + (sg_n (q85)))) (1) ((v9 + 1)) hF86 ?_ rfl)
            · omega
            · omega
  refine wk_ls [(0, .inr (.inr (.ref 45))), (1, .inl (a1)), (2, .inl (a2)), (3, .inl (q5)), (4, .inr (.inl (0))), (6, .inl (0)), (7, .inl (0))] rfl ⟨rfl, rfl, rfl, rfl, rfl, rfl, rfl, trivial⟩ ?_
  exact lp57 _ σ2 (0) (0) (0) hF6 (by omega) rfl
-- NestedVectors.dividesByZero a0 a1
set_option maxRecDepth 8000 in
theorem bt_50 (z : Value) (σ : sg_S) (a0 : Int) (a1 : Int) : wx z 0 12 0 [(0, .inl (a0)), (1, .inl (a1))] [] σ (fun v σ' => (∃ q, v = some (.inl q) ∧ (q = 0 ∨ q = 1)) ∧ sg_F [] σ σ') := by
  have hF0 := sg_F_r [] σ
  refine wk_b tt_12 1 (pc' := 1) (ls' := [(0, .inl (a0)), (1, .inl (a1))]) (st' := [.inl (a1)]) (σ' := σ) rfl ?_
  refine wk_ifb tt_12 (tgt := 20) rfl rfl ?_ ?_
  ·
    refine wk_b tt_12 1 (pc' := 21) (ls' := [(0, .inl (a0)), (1, .inl (a1))]) (st' := [.inl (0)]) (σ' := σ) rfl ?_
    exact wk_rZ tt_12 rfl rfl (by decide) ⟨⟨_, rfl, by decide⟩, hF0⟩
  ·
    refine wk_b tt_12 2 (pc' := 7) (ls' := [(0, .inl (a0)), (1, .inl (a1))]) (st' := [.inl (47), .inl (a0)]) (σ' := σ) rfl ?_
    refine wk_if2b tt_12 (tgt := 16) rfl rfl ?_ ?_
    ·
      refine wk_b tt_12 2 (pc' := 21) (ls' := [(0, .inl (a0)), (1, .inl (a1))]) (st' := [.inl (1)]) (σ' := σ) rfl ?_
      exact wk_rZ tt_12 rfl rfl (by decide) ⟨⟨_, rfl, by decide⟩, hF0⟩
    ·
      refine wk_b tt_12 2 (pc' := 13) (ls' := [(0, .inl (a0)), (1, .inl (a1))]) (st' := [.inl (37), .inl (a0)]) (σ' := σ) rfl ?_
      refine wk_if2b tt_12 (tgt := 20) rfl rfl ?_ ?_
      ·
        refine wk_b tt_12 1 (pc' := 21) (ls' := [(0, .inl (a0)), (1, .inl (a1))]) (st' := [.inl (0)]) (σ' := σ) rfl ?_
        exact wk_rZ tt_12 rfl rfl (by decide) ⟨⟨_, rfl, by decide⟩, hF0⟩
      ·
        refine wk_b tt_12 2 (pc' := 21) (ls' := [(0, .inl (a0)), (1, .inl (a1))]) (st' := [.inl (1)]) (σ' := σ) rfl ?_
        exact wk_rZ tt_12 rfl rfl (by decide) ⟨⟨_, rfl, by decide⟩, hF0⟩
-- NestedVectors.compute a0 a1 a2
set_option maxRecDepth 8000 in
theorem bt_51 (z : Value) (σ : sg_S) (a0 : Int) (a1 : Int) (a2 : Int) : wx z 0 10 0 [(0, .inl (a0)), (1, .inl (a1)), (2, .inl (a2))] [] σ (fun v σ' => (∃ q, v = some (.inl q)) ∧ sg_F [] σ σ') := by
  have hF0 := sg_F_r [] σ
  refine wk_b tt_10 1 (pc' := 1) (ls' := [(0, .inl (a0)), (1, .inl (a1)), (2, .inl (a2))]) (st' := [.inl (a0)]) (σ' := σ) rfl ?_
  have k1 : wx z 0 10 116 [(0, .inl (a0)), (1, .inl (a1)), (2, .inl (a2))] [] σ (fun v σ' => (∃ q, v = some (.inl q)) ∧ sg_F [] σ σ') := by
    refine wk_b tt_10 2 (pc' := 118) (ls' := [(0, .inl (a0)), (1, .inl (a1)), (2, .inl (a2))]) (st' := [.inl (a2), .inl (a1)]) (σ' := σ) rfl ?_
    refine wk_if2n tt_10 (tgt := 125) rfl rfl (fun h2 => ?_) (fun h2 => ?_)
    ·
      have h2_r := sg_Rn (a2)
      have h2_q := sg_Rn (a1)
      simp only [sg_c, sg_nc] at h2
      refine wk_b tt_10 1 (pc' := 126) (ls' := [(0, .inl (a0)), (1, .inl (a1)), (2, .inl (a2))]) (st' := [.inl (0)]) (σ' := σ) rfl ?_
      exact wk_rI tt_10 rfl rfl ⟨⟨_, rfl⟩, hF0⟩
    ·
      have h2_r := sg_Rn (a2)
      have h2_q := sg_Rn (a1)
      simp only [sg_c, sg_nc] at h2
      refine wk_b tt_10 2 (pc' := 126) (ls' := [(0, .inl (a0)), (1, .inl (a1)), (2, .inl (a2))]) (st' := [.inl (1)]) (σ' := σ) rfl ?_
      exact wk_rI tt_10 rfl rfl ⟨⟨_, rfl⟩, hF0⟩
  have k3 : wx z 0 10 127 [(0, .inl (a0)), (1, .inl (a1)), (2, .inl (a2))] [] σ (fun v σ' => (∃ q, v = some (.inl q)) ∧ sg_F [] σ σ') := by
    refine wk_b tt_10 2 (pc' := 129) (ls' := [(0, .inl (a0)), (1, .inl (a1)), (2, .inl (a2))]) (st' := [.inl (a2), .inl (a1)]) (σ' := σ) rfl ?_
    refine wk_if2n tt_10 (tgt := 136) rfl rfl (fun h4 => ?_) (fun h4 => ?_)
    ·
      have h4_r := sg_Rn (a2)
      have h4_q := sg_Rn (a1)
      simp only [sg_c, sg_nc] at h4
      refine wk_b tt_10 1 (pc' := 137) (ls' := [(0, .inl (a0)), (1, .inl (a1)), (2, .inl (a2))]) (st' := [.inl (0)]) (σ' := σ) rfl ?_
      exact wk_rI tt_10 rfl rfl ⟨⟨_, rfl⟩, hF0⟩
    ·
      have h4_r := sg_Rn (a2)
      have h4_q := sg_Rn (a1)
      simp only [sg_c, sg_nc] at h4
      refine wk_b tt_10 2 (pc' := 137) (ls' := [(0, .inl (a0)), (1, .inl (a1)), (2, .inl (a2))]) (st' := [.inl (1)]) (σ' := σ) rfl ?_
      exact wk_rI tt_10 rfl rfl ⟨⟨_, rfl⟩, hF0⟩
  have k5 : wx z 0 10 138 [(0, .inl (a0)), (1, .inl (a1)), (2, .inl (a2))] [] σ (fun v σ' => (∃ q, v = some (.inl q)) ∧ sg_F [] σ σ') := by
    refine wk_b tt_10 3 (pc' := 141) (ls' := [(0, .inl (a0)), (1, .inl (a1)), (2, .inl (a2))]) (st' := [.inl ((a1 + a2))]) (σ' := σ) rfl ?_
    exact wk_rI tt_10 rfl rfl ⟨⟨_, rfl⟩, hF0⟩
  have k6 : wx z 0 10 142 [(0, .inl (a0)), (1, .inl (a1)), (2, .inl (a2))] [] σ (fun v σ' => (∃ q, v = some (.inl q)) ∧ sg_F [] σ σ') := by
    refine wk_b tt_10 3 (pc' := 145) (ls' := [(0, .inl (a0)), (1, .inl (a1)), (2, .inl (a2))]) (st' := [.inl ((a1 - a2))]) (σ' := σ) rfl ?_
    exact wk_rI tt_10 rfl rfl ⟨⟨_, rfl⟩, hF0⟩
  have k7 : wx z 0 10 146 [(0, .inl (a0)), (1, .inl (a1)), (2, .inl (a2))] [] σ (fun v σ' => (∃ q, v = some (.inl q)) ∧ sg_F [] σ σ') := by
    refine wk_b tt_10 3 (pc' := 149) (ls' := [(0, .inl (a0)), (1, .inl (a1)), (2, .inl (a2))]) (st' := [.inl ((a1 * a2))]) (σ' := σ) rfl ?_
    exact wk_rI tt_10 rfl rfl ⟨⟨_, rfl⟩, hF0⟩
  have k8 : wx z 0 10 150 [(0, .inl (a0)), (1, .inl (a1)), (2, .inl (a2))] [] σ (fun v σ' => (∃ q, v = some (.inl q)) ∧ sg_F [] σ σ') := by
    refine wk_b tt_10 1 (pc' := 151) (ls' := [(0, .inl (a0)), (1, .inl (a1)), (2, .inl (a2))]) (st' := [.inl (a2)]) (σ' := σ) rfl ?_
    refine wk_ifn tt_10 (tgt := 158) rfl rfl (fun h9 => ?_) (fun h9 => ?_)
    ·
      simp only [sg_c, sg_nc] at h9
      refine wk_b tt_10 2 (pc' := 160) (ls' := [(0, .inl (a0)), (1, .inl (a1)), (2, .inl (a2))]) (st' := [.inl (a2), .inl (a1)]) (σ' := σ) rfl ?_
      refine wk_div tt_10 rfl (by omega) ?_
      generalize (sg_i (a1) / sg_i (a2)).toInt = q10
      exact wk_rI tt_10 rfl rfl ⟨⟨_, rfl⟩, hF0⟩
    ·
      simp only [sg_c, sg_nc] at h9
      refine wk_b tt_10 2 (pc' := 161) (ls' := [(0, .inl (a0)), (1, .inl (a1)), (2, .inl (a2))]) (st' := [.inl (0)]) (σ' := σ) rfl ?_
      exact wk_rI tt_10 rfl rfl ⟨⟨_, rfl⟩, hF0⟩
  have k11 : wx z 0 10 162 [(0, .inl (a0)), (1, .inl (a1)), (2, .inl (a2))] [] σ (fun v σ' => (∃ q, v = some (.inl q)) ∧ sg_F [] σ σ') := by
    refine wk_b tt_10 1 (pc' := 163) (ls' := [(0, .inl (a0)), (1, .inl (a1)), (2, .inl (a2))]) (st' := [.inl (a2)]) (σ' := σ) rfl ?_
    refine wk_ifn tt_10 (tgt := 170) rfl rfl (fun h12 => ?_) (fun h12 => ?_)
    ·
      simp only [sg_c, sg_nc] at h12
      refine wk_b tt_10 2 (pc' := 172) (ls' := [(0, .inl (a0)), (1, .inl (a1)), (2, .inl (a2))]) (st' := [.inl (a2), .inl (a1)]) (σ' := σ) rfl ?_
      refine wk_rem tt_10 rfl (by omega) ?_
      generalize (sg_i (a1) - sg_i (a1) / sg_i (a2) * sg_i (a2)).toInt = q13
      exact wk_rI tt_10 rfl rfl ⟨⟨_, rfl⟩, hF0⟩
    ·
      simp only [sg_c, sg_nc] at h12
      refine wk_b tt_10 2 (pc' := 173) (ls' := [(0, .inl (a0)), (1, .inl (a1)), (2, .inl (a2))]) (st' := [.inl (0)]) (σ' := σ) rfl ?_
      exact wk_rI tt_10 rfl rfl ⟨⟨_, rfl⟩, hF0⟩
  have k14 : wx z 0 10 174 [(0, .inl (a0)), (1, .inl (a1)), (2, .inl (a2))] [] σ (fun v σ' => (∃ q, v = some (.inl q)) ∧ sg_F [] σ σ') := by
    refine wk_b tt_10 1 (pc' := 175) (ls' := [(0, .inl (a0)), (1, .inl (a1)), (2, .inl (a2))]) (st' := [.inl (0)]) (σ' := σ) rfl ?_
    exact wk_rI tt_10 rfl rfl ⟨⟨_, rfl⟩, hF0⟩
  refine wk_n ?_
  have hx16 := sg_Rn (a0)
  generalize sg_n (a0) = x15 at hx16 ⊢
  by_cases e17 : x15 = 37
  · exact wk_ts tt_10 (off := 161) (tgt := 162) rfl hx16 (by rw [e17]; decide) rfl k11
  by_cases e18 : x15 = 38
  · exact wk_ts tt_10 (off := 173) (tgt := 174) rfl hx16 (by rw [e18]; decide) rfl k14
  by_cases e19 : x15 = 39
  · exact wk_ts tt_10 (off := 173) (tgt := 174) rfl hx16 (by rw [e19]; decide) rfl k14
  by_cases e20 : x15 = 40
  · exact wk_ts tt_10 (off := 173) (tgt := 174) rfl hx16 (by rw [e20]; decide) rfl k14
  by_cases e21 : x15 = 41
  · exact wk_ts tt_10 (off := 173) (tgt := 174) rfl hx16 (by rw [e21]; decide) rfl k14
  by_cases e22 : x15 = 42
  · exact wk_ts tt_10 (off := 145) (tgt := 146) rfl hx16 (by rw [e22]; decide) rfl k7
  by_cases e23 : x15 = 43
  · exact wk_ts tt_10 (off := 137) (tgt := 138) rfl hx16 (by rw [e23]; decide) rfl k5
  by_cases e24 : x15 = 44
  · exact wk_ts tt_10 (off := 173) (tgt := 174) rfl hx16 (by rw [e24]; decide) rfl k14
  by_cases e25 : x15 = 45
  · exact wk_ts tt_10 (off := 141) (tgt := 142) rfl hx16 (by rw [e25]; decide) rfl k6
  by_cases e26 : x15 = 46
  · exact wk_ts tt_10 (off := 173) (tgt := 174) rfl hx16 (by rw [e26]; decide) rfl k14
  by_cases e27 : x15 = 47
  · exact wk_ts tt_10 (off := 149) (tgt := 150) rfl hx16 (by rw [e27]; decide) rfl k8
  by_cases e28 : x15 = 48
  · exact wk_ts tt_10 (off := 173) (tgt := 174) rfl hx16 (by rw [e28]; decide) rfl k14
  by_cases e29 : x15 = 49
  · exact wk_ts tt_10 (off := 173) (tgt := 174) rfl hx16 (by rw [e29]; decide) rfl k14
  by_cases e30 : x15 = 50
  · exact wk_ts tt_10 (off := 173) (tgt := 174) rfl hx16 (by rw [e30]; decide) rfl k14
  by_cases e31 : x15 = 51
  · exact wk_ts tt_10 (off := 173) (tgt := 174) rfl hx16 (by rw [e31]; decide) rfl k14
  by_cases e32 : x15 = 52
  · exact wk_ts tt_10 (off := 173) (tgt := 174) rfl hx16 (by rw [e32]; decide) rfl k14
  by_cases e33 : x15 = 53
  · exact wk_ts tt_10 (off := 173) (tgt := 174) rfl hx16 (by rw [e33]; decide) rfl k14
  by_cases e34 : x15 = 54
  · exact wk_ts tt_10 (off := 173) (tgt := 174) rfl hx16 (by rw [e34]; decide) rfl k14
  by_cases e35 : x15 = 55
  · exact wk_ts tt_10 (off := 173) (tgt := 174) rfl hx16 (by rw [e35]; decide) rfl k14
  by_cases e36 : x15 = 56
  · exact wk_ts tt_10 (off := 173) (tgt := 174) rfl hx16 (by rw [e36]; decide) rfl k14
  by_cases e37 : x15 = 57
  · exact wk_ts tt_10 (off := 173) (tgt := 174) rfl hx16 (by rw [e37]; decide) rfl k14
  by_cases e38 : x15 = 58
  · exact wk_ts tt_10 (off := 173) (tgt := 174) rfl hx16 (by rw [e38]; decide) rfl k14
  by_cases e39 : x15 = 59
  · exact wk_ts tt_10 (off := 173) (tgt := 174) rfl hx16 (by rw [e39]; decide) rfl k14
  by_cases e40 : x15 = 60
  · exact wk_ts tt_10 (off := 115) (tgt := 116) rfl hx16 (by rw [e40]; decide) rfl k1
  by_cases e41 : x15 = 61
  · exact wk_ts tt_10 (off := 126) (tgt := 127) rfl hx16 (by rw [e41]; decide) rfl k3
  exact wk_ts tt_10 (off := 173) (tgt := 174) rfl hx16 (by unfold bm_swt; rw [if_pos (by omega)]) rfl k14
-- NestedVectors$NestedRun.combine x.nestedRun a1 a2 a3
set_option maxRecDepth 8000 in
theorem bt_52 (z : Value) (σ : sg_S) (a1 : Int) (a2 : Int) (a3 : Int) : wx z 2 134 0 [(0, .inr (.inr (.ref 45))), (1, .inl (a1)), (2, .inl (a2)), (3, .inl (a3))] [] σ (fun v σ' => v = none ∧ sg_F [45, 48] σ σ') := by
  have hF0 := sg_F_r [45, 48] σ
  refine wk_b tt_134 2 (pc' := 2) (ls' := [(0, .inr (.inr (.ref 45))), (1, .inl (a1)), (2, .inl (a2)), (3, .inl (a3))]) (st' := [.inl (a3), .inl (a1)]) (σ' := σ) rfl ?_
  refine wk_call tt_134 rfl rfl rfl rfl rfl tt_12 rfl (by decide) (bt_50 z σ (a1) (a3)) (fun w1 σ2 hq3 => ?_)
  obtain ⟨⟨q5, rfl, hq5⟩, hF4⟩ := hq3
  have hF6 := sg_F_t hF0 (sg_F_m (L := [45, 48]) hF4 rfl)
  refine wk_ifb tt_134 (tgt := 16) rfl rfl ?_ ?_
  ·
    refine wk_b tt_134 4 (pc' := 20) (ls' := [(0, .inr (.inr (.ref 45))), (1, .inl (a1)), (2, .inl (a2)), (3, .inl (a3))]) (st' := [.inl (a3), .inl (a2), .inl (a1), .inr (.inr (.ref 45))]) (σ' := σ2) rfl ?_
    refine wk_call tt_134 rfl rfl rfl rfl rfl tt_10 rfl (by decide) (bt_51 z σ2 (a1) (a2) (a3)) (fun w8 σ9 hq10 => ?_)
    obtain ⟨⟨q12, rfl⟩, hF11⟩ := hq10
    have hF13 := sg_F_t hF6 (sg_F_m (L := [45, 48]) hF11 rfl)
    refine wk_call tt_134 rfl rfl rfl rfl rfl tt_125 rfl (by decide) (bt_22 z σ9 (q12)) (fun w14 σ15 hq16 => ?_)
    obtain ⟨rfl, hF17⟩ := hq16
    have hF18 := sg_F_t hF13 (sg_F_m (L := [45, 48]) hF17 rfl)
    exact wk_rV tt_134 rfl rfl ⟨rfl, hF18⟩
  ·
    refine wk_b tt_134 4 (pc' := 26) (ls' := [(0, .inr (.inr (.ref 45))), (1, .inl (a1)), (2, .inl (a2)), (3, .inl (a3))]) (st' := []) (σ' := (sg_w σ2 45 10 (1))) rfl ?_
    have hF19 : sg_F [45, 48] σ (sg_w σ2 45 10 (1)) := (sg_F_w hF6 rfl _)
    generalize (sg_w σ2 45 10 (1)) = σ20 at hF19 ⊢
    exact wk_rV tt_134 rfl rfl ⟨rfl, hF19⟩
-- NestedVectors$Machine.finishTwo x.nestedRun a1
set_option maxRecDepth 8000 in
theorem bt_53 (z : Value) (σ : sg_S) (a1 : Int) : wx z 4 122 0 [(0, .inr (.inr (.ref 45))), (1, .inl (a1))] [] σ (fun v σ' => v = none ∧ sg_F [45, 48, 53, 54, 55] σ σ') := by
  have hF0 := sg_F_r [45, 48, 53, 54, 55] σ
  refine wk_b tt_122 4 (pc' := 8) (ls' := [(0, .inr (.inr (.ref 45))), (1, .inl (a1))]) (st' := [.inl (a1), .inr (.inr (.ref 3))]) (σ' := σ) rfl ?_
  refine wk_callp tt_122 rfl rfl rfl rfl rfl tt_5 rfl (by decide) (at_i z σ 3 200 (a1) rfl (by decide)) ?_
  generalize sx_at σ 3 200 (sg_n (a1)) = q4
  refine wk_b tt_122 2 (pc' := 13) (ls' := [(2, .inl (q4)), (0, .inr (.inr (.ref 45))), (1, .inl (a1))]) (st' := [.inr (.inr (.ref 45))]) (σ' := σ) rfl ?_
  refine wk_call tt_122 rfl rfl rfl rfl rfl tt_124 rfl (by decide) (bt_3 z σ) (fun w5 σ6 hq7 => ?_)
  obtain ⟨⟨q9, rfl⟩, hF8⟩ := hq7
  have hF10 := sg_F_t hF0 (sg_F_m (L := [45, 48, 53, 54, 55]) hF8 rfl)
  refine wk_b tt_122 2 (pc' := 18) (ls' := [(3, .inl (q9)), (2, .inl (q4)), (0, .inr (.inr (.ref 45))), (1, .inl (a1))]) (st' := [.inr (.inr (.ref 45))]) (σ' := σ6) rfl ?_
  refine wk_call tt_122 rfl rfl rfl rfl rfl tt_124 rfl (by decide) (bt_3 z σ6) (fun w11 σ12 hq13 => ?_)
  obtain ⟨⟨q15, rfl⟩, hF14⟩ := hq13
  have hF16 := sg_F_t hF10 (sg_F_m (L := [45, 48, 53, 54, 55]) hF14 rfl)
  refine wk_b tt_122 6 (pc' := 32) (ls' := [(4, .inl (q15)), (3, .inl (q9)), (2, .inl (q4)), (0, .inr (.inr (.ref 45))), (1, .inl (a1))]) (st' := [.inl (a1), .inr (.inr (.ref 6)), .inr (.inr (.ref 45))]) (σ' := σ12) rfl ?_
  refine wk_callp tt_122 rfl rfl rfl rfl rfl tt_5 rfl (by decide) (at_i z σ12 6 200 (a1) rfl (by decide)) ?_
  generalize sx_at σ12 6 200 (sg_n (a1)) = q20
  refine wk_b tt_122 2 (pc' := 39) (ls' := [(4, .inl (q15)), (3, .inl (q9)), (2, .inl (q4)), (0, .inr (.inr (.ref 45))), (1, .inl (a1))]) (st' := [.inl (q4)]) (σ' := (sg_w σ12 45 9 (q20))) rfl ?_
  have hF21 : sg_F [45, 48, 53, 54, 55] σ (sg_w σ12 45 9 (q20)) := (sg_F_w hF16 rfl _)
  generalize (sg_w σ12 45 9 (q20)) = σ22 at hF21 ⊢
  have k23 : wx z 4 122 96 [(4, .inl (q15)), (3, .inl (q9)), (2, .inl (q4)), (0, .inr (.inr (.ref 45))), (1, .inl (a1))] [] σ22 (fun v σ' => v = none ∧ sg_F [45, 48, 53, 54, 55] σ σ') := by
    refine wk_b tt_122 3 (pc' := 100) (ls' := [(4, .inl (q15)), (3, .inl (q9)), (2, .inl (q4)), (0, .inr (.inr (.ref 45))), (1, .inl (a1))]) (st' := [.inl (q9), .inl (q15), .inr (.inr (.ref 45))]) (σ' := σ22) rfl ?_
    refine wk_call tt_122 rfl rfl rfl rfl rfl tt_160 rfl (by decide) (bt_42 z σ22 (q15) (q9)) (fun w24 σ25 hq26 => ?_)
    obtain ⟨rfl, hF27⟩ := hq26
    have hF28 := sg_F_t hF21 (sg_F_m (L := [45, 48, 53, 54, 55]) hF27 rfl)
    refine wk_b tt_122 1 (pc' := 164) (ls' := [(4, .inl (q15)), (3, .inl (q9)), (2, .inl (q4)), (0, .inr (.inr (.ref 45))), (1, .inl (a1))]) (st' := []) (σ' := σ25) rfl ?_
    exact wk_rV tt_122 rfl rfl ⟨rfl, hF28⟩
  have k29 : wx z 4 122 106 [(4, .inl (q15)), (3, .inl (q9)), (2, .inl (q4)), (0, .inr (.inr (.ref 45))), (1, .inl (a1))] [] σ22 (fun v σ' => v = none ∧ sg_F [45, 48, 53, 54, 55] σ σ') := by
    refine wk_b tt_122 3 (pc' := 110) (ls' := [(4, .inl (q15)), (3, .inl (q9)), (2, .inl (q4)), (0, .inr (.inr (.ref 45))), (1, .inl (a1))]) (st' := [.inl (q9), .inl (q15), .inr (.inr (.ref 45))]) (σ' := σ22) rfl ?_
    refine wk_call tt_122 rfl rfl rfl rfl rfl tt_157 rfl (by decide) (bt_43 z σ22 (q15) (q9)) (fun w30 σ31 hq32 => ?_)
    obtain ⟨rfl, hF33⟩ := hq32
    have hF34 := sg_F_t hF21 (sg_F_m (L := [45, 48, 53, 54, 55]) hF33 rfl)
    refine wk_b tt_122 1 (pc' := 164) (ls' := [(4, .inl (q15)), (3, .inl (q9)), (2, .inl (q4)), (0, .inr (.inr (.ref 45))), (1, .inl (a1))]) (st' := []) (σ' := σ31) rfl ?_
    exact wk_rV tt_122 rfl rfl ⟨rfl, hF34⟩
  have k35 : wx z 4 122 116 [(4, .inl (q15)), (3, .inl (q9)), (2, .inl (q4)), (0, .inr (.inr (.ref 45))), (1, .inl (a1))] [] σ22 (fun v σ' => v = none ∧ sg_F [45, 48, 53, 54, 55] σ σ') := by
    refine wk_b tt_122 3 (pc' := 120) (ls' := [(4, .inl (q15)), (3, .inl (q9)), (2, .inl (q4)), (0, .inr (.inr (.ref 45))), (1, .inl (a1))]) (st' := [.inl (q9), .inl (q15), .inr (.inr (.ref 45))]) (σ' := σ22) rfl ?_
    refine wk_call tt_122 rfl rfl rfl rfl rfl tt_131 rfl (by decide) (bt_44 z σ22 (q15) (q9)) (fun w36 σ37 hq38 => ?_)
    obtain ⟨rfl, hF39⟩ := hq38
    have hF40 := sg_F_t hF21 (sg_F_m (L := [45, 48, 53, 54, 55]) hF39 rfl)
    refine wk_b tt_122 1 (pc' := 164) (ls' := [(4, .inl (q15)), (3, .inl (q9)), (2, .inl (q4)), (0, .inr (.inr (.ref 45))), (1, .inl (a1))]) (st' := []) (σ' := σ37) rfl ?_
    exact wk_rV tt_122 rfl rfl ⟨rfl, hF40⟩
  have k41 : wx z 4 122 126 [(4, .inl (q15)), (3, .inl (q9)), (2, .inl (q4)), (0, .inr (.inr (.ref 45))), (1, .inl (a1))] [] σ22 (fun v σ' => v = none ∧ sg_F [45, 48, 53, 54, 55] σ σ') := by
    refine wk_b tt_122 3 (pc' := 130) (ls' := [(4, .inl (q15)), (3, .inl (q9)), (2, .inl (q4)), (0, .inr (.inr (.ref 45))), (1, .inl (a1))]) (st' := [.inl (q9), .inl (q15), .inr (.inr (.ref 45))]) (σ' := σ22) rfl ?_
    refine wk_call tt_122 rfl rfl rfl rfl rfl tt_153 rfl (by decide) (bt_45 z σ22 (q15) (q9)) (fun w42 σ43 hq44 => ?_)
    obtain ⟨rfl, hF45⟩ := hq44
    have hF46 := sg_F_t hF21 (sg_F_m (L := [45, 48, 53, 54, 55]) hF45 rfl)
    refine wk_b tt_122 1 (pc' := 164) (ls' := [(4, .inl (q15)), (3, .inl (q9)), (2, .inl (q4)), (0, .inr (.inr (.ref 45))), (1, .inl (a1))]) (st' := []) (σ' := σ43) rfl ?_
    exact wk_rV tt_122 rfl rfl ⟨rfl, hF46⟩
  have k47 : wx z 4 122 136 [(4, .inl (q15)), (3, .inl (q9)), (2, .inl (q4)), (0, .inr (.inr (.ref 45))), (1, .inl (a1))] [] σ22 (fun v σ' => v = none ∧ sg_F [45, 48, 53, 54, 55] σ σ') := by
    refine wk_b tt_122 3 (pc' := 140) (ls' := [(4, .inl (q15)), (3, .inl (q9)), (2, .inl (q4)), (0, .inr (.inr (.ref 45))), (1, .inl (a1))]) (st' := [.inl (q9), .inl (q15), .inr (.inr (.ref 45))]) (σ' := σ22) rfl ?_
    refine wk_call tt_122 rfl rfl rfl rfl rfl tt_154 rfl (by decide) (bt_47 z σ22 (q15) (q9)) (fun w48 σ49 hq50 => ?_)
    obtain ⟨rfl, hF51⟩ := hq50
    have hF52 := sg_F_t hF21 (sg_F_m (L := [45, 48, 53, 54, 55]) hF51 rfl)
    refine wk_b tt_122 1 (pc' := 164) (ls' := [(4, .inl (q15)), (3, .inl (q9)), (2, .inl (q4)), (0, .inr (.inr (.ref 45))), (1, .inl (a1))]) (st' := []) (σ' := σ49) rfl ?_
    exact wk_rV tt_122 rfl rfl ⟨rfl, hF52⟩
  have k53 : wx z 4 122 146 [(4, .inl (q15)), (3, .inl (q9)), (2, .inl (q4)), (0, .inr (.inr (.ref 45))), (1, .inl (a1))] [] σ22 (fun v σ' => v = none ∧ sg_F [45, 48, 53, 54, 55] σ σ') := by
    refine wk_b tt_122 3 (pc' := 150) (ls' := [(4, .inl (q15)), (3, .inl (q9)), (2, .inl (q4)), (0, .inr (.inr (.ref 45))), (1, .inl (a1))]) (st' := [.inl (q9), .inl (q15), .inr (.inr (.ref 45))]) (σ' := σ22) rfl ?_
    refine wk_call tt_122 rfl rfl rfl rfl rfl tt_138 rfl (by decide) (bt_49 z σ22 (q15) (q9)) (fun w54 σ55 hq56 => ?_)
    obtain ⟨rfl, hF57⟩ := hq56
    have hF58 := sg_F_t hF21 (sg_F_m (L := [45, 48, 53, 54, 55]) hF57 rfl)
    refine wk_b tt_122 1 (pc' := 164) (ls' := [(4, .inl (q15)), (3, .inl (q9)), (2, .inl (q4)), (0, .inr (.inr (.ref 45))), (1, .inl (a1))]) (st' := []) (σ' := σ55) rfl ?_
    exact wk_rV tt_122 rfl rfl ⟨rfl, hF58⟩
  have k59 : wx z 4 122 156 [(4, .inl (q15)), (3, .inl (q9)), (2, .inl (q4)), (0, .inr (.inr (.ref 45))), (1, .inl (a1))] [] σ22 (fun v σ' => v = none ∧ sg_F [45, 48, 53, 54, 55] σ σ') := by
    refine wk_b tt_122 4 (pc' := 161) (ls' := [(4, .inl (q15)), (3, .inl (q9)), (2, .inl (q4)), (0, .inr (.inr (.ref 45))), (1, .inl (a1))]) (st' := [.inl (q9), .inl (q15), .inl (q4), .inr (.inr (.ref 45))]) (σ' := σ22) rfl ?_
    refine wk_call tt_122 rfl rfl rfl rfl rfl tt_134 rfl (by decide) (bt_52 z σ22 (q4) (q15) (q9)) (fun w60 σ61 hq62 => ?_)
    obtain ⟨rfl, hF63⟩ := hq62
    have hF64 := sg_F_t hF21 (sg_F_m (L := [45, 48, 53, 54, 55]) hF63 rfl)
    exact wk_rV tt_122 rfl rfl ⟨rfl, hF64⟩
  refine wk_n ?_
  have hx66 := sg_Rn (q4)
  generalize sg_n (q4) = x65 at hx66 ⊢
  by_cases e67 : x65 = 91
  · exact wk_lw tt_122 (off := 57) (tgt := 96) rfl (by decide) hx66 (by rw [e67]; decide) rfl k23
  by_cases e68 : x65 = 268
  · exact wk_lw tt_122 (off := 67) (tgt := 106) rfl (by decide) hx66 (by rw [e68]; decide) rfl k29
  by_cases e69 : x65 = 274
  · exact wk_lw tt_122 (off := 77) (tgt := 116) rfl (by decide) hx66 (by rw [e69]; decide) rfl k35
  by_cases e70 : x65 = 276
  · exact wk_lw tt_122 (off := 87) (tgt := 126) rfl (by decide) hx66 (by rw [e70]; decide) rfl k41
  by_cases e71 : x65 = 277
  · exact wk_lw tt_122 (off := 97) (tgt := 136) rfl (by decide) hx66 (by rw [e71]; decide) rfl k47
  by_cases e72 : x65 = 278
  · exact wk_lw tt_122 (off := 107) (tgt := 146) rfl (by decide) hx66 (by rw [e72]; decide) rfl k53
  exact wk_lw tt_122 (off := 117) (tgt := 156) rfl (by decide) hx66 (by simp only [Op.lookupswitch.offset]; repeat (rw [if_neg (by omega)])) rfl k59
-- NestedVectors$Machine.enter x.nestedRun a1
set_option maxRecDepth 8000 in
theorem bt_54 (z : Value) (σ : sg_S) (a1 : Int) : wx z 1 119 0 [(0, .inr (.inr (.ref 45))), (1, .inl (a1))] [] σ (fun v σ' => v = none ∧ sg_F [45, 46, 47] σ σ') := by
  have hF0 := sg_F_r [45, 46, 47] σ
  refine wk_b tt_119 4 (pc' := 8) (ls' := [(0, .inr (.inr (.ref 45))), (1, .inl (a1))]) (st' := [.inl (a1), .inr (.inr (.ref 23))]) (σ' := σ) rfl ?_
  refine wk_callp tt_119 rfl rfl rfl rfl rfl tt_5 rfl (by decide) (at_i z σ 23 12 (a1) rfl (by decide)) ?_
  generalize sx_at σ 23 12 (sg_n (a1)) = q4
  refine wk_b tt_119 3 (pc' := 14) (ls' := [(3, .inl (0)), (2, .inl (q4)), (0, .inr (.inr (.ref 45))), (1, .inl (a1))]) (st' := []) (σ' := σ) rfl ?_
  have ex8 : ∀ (σ6 : sg_S), sg_F [45, 46, 47] σ σ6 → wx z 1 119 66 [(0, .inr (.inr (.ref 45))), (1, .inl (a1)), (2, .inl (q4))] [] σ6 (fun v σ' => v = none ∧ sg_F [45, 46, 47] σ σ') := by
    intro σ6 hF7
    refine wk_b tt_119 11 (pc' := 85) (ls' := [(0, .inr (.inr (.ref 45))), (1, .inl (a1)), (2, .inl (q4))]) (st' := [.inl ((sg_g (sg_w σ6 45 7 (((sg_g σ6 45 7) - q4))) 45 8)), .inl (a1), .inr (.inr (.ref 47))]) (σ' := (sg_w σ6 45 7 (((sg_g σ6 45 7) - q4)))) rfl ?_
    have hF9 : sg_F [45, 46, 47] σ (sg_w σ6 45 7 (((sg_g σ6 45 7) - q4))) := (sg_F_w hF7 rfl _)
    generalize (sg_w σ6 45 7 (((sg_g σ6 45 7) - q4))) = σ10 at hF9 ⊢
    refine wk_callp tt_119 rfl rfl rfl rfl rfl tt_21 rfl (by decide) (pt_i z σ10 47 13 (a1) ((sg_g σ10 45 8)) rfl (by decide)) ?_
    have hF14 : sg_F [45, 46, 47] σ (sx_put σ10 47 13 (sg_n (a1)) ((sg_g σ10 45 8))) := sg_F_p hF9 rfl _ _ _
    generalize (sx_put σ10 47 13 (sg_n (a1)) ((sg_g σ10 45 8))) = σ15 at hF14 ⊢
    refine wk_b tt_119 5 (pc' := 97) (ls' := [(0, .inr (.inr (.ref 45))), (1, .inl (a1)), (2, .inl (q4))]) (st' := [.inl (a1), .inr (.inr (.ref 31)), .inr (.inr (.ref 45))]) (σ' := σ15) rfl ?_
    refine wk_callp tt_119 rfl rfl rfl rfl rfl tt_5 rfl (by decide) (at_i z σ15 31 13 (a1) rfl (by decide)) ?_
    generalize sx_at σ15 31 13 (sg_n (a1)) = q19
    refine wk_b tt_119 1 (pc' := 103) (ls' := [(0, .inr (.inr (.ref 45))), (1, .inl (a1)), (2, .inl (q4))]) (st' := []) (σ' := (sg_w σ15 45 8 (q19))) rfl ?_
    have hF20 : sg_F [45, 46, 47] σ (sg_w σ15 45 8 (q19)) := (sg_F_w hF14 rfl _)
    generalize (sg_w σ15 45 8 (q19)) = σ21 at hF20 ⊢
    exact wk_rV tt_119 rfl rfl ⟨rfl, hF20⟩
  have lp24 : ∀ (m23 : Nat) (σ6 : sg_S) (v5 : Int), sg_F [45, 46, 47] σ σ6 → (sg_R v5) → (2147483647 - v5).toNat = m23 → wx z 1 119 14 [(0, .inr (.inr (.ref 45))), (1, .inl (a1)), (2, .inl (q4)), (3, .inl (v5))] [] σ6 (fun v σ' => v = none ∧ sg_F [45, 46, 47] σ σ') := by
    intro m23
    induction m23 using Nat.strongRecOn with
    | _ m23 ih22 =>
      intro σ6 v5 hF7 hR25 hm26
      have hR25_i := sg_id (z := v5) (by omega)
      refine wk_b tt_119 2 (pc' := 16) (ls' := [(0, .inr (.inr (.ref 45))), (1, .inl (a1)), (2, .inl (q4)), (3, .inl (v5))]) (st' := [.inl (q4), .inl (v5)]) (σ' := σ6) rfl ?_
      refine wk_if2n tt_119 (tgt := 66) rfl rfl (fun h27 => ?_) (fun h27 => ?_)
      ·
        have h27_r := sg_Rn (q4)
        have h27_q := sg_Rn (v5)
        simp only [sg_c, sg_nc] at h27
        exact wk_ls [(0, .inr (.inr (.ref 45))), (1, .inl (a1)), (2, .inl (q4))] rfl ⟨rfl, rfl, rfl, trivial⟩ (ex8 σ6 hF7)
      ·
        have h27_r := sg_Rn (q4)
        have h27_q := sg_Rn (v5)
        simp only [sg_c, sg_nc] at h27
        refine wk_b tt_119 2 (pc' := 22) (ls' := [(0, .inr (.inr (.ref 45))), (1, .inl (a1)), (2, .inl (q4)), (3, .inl (v5))]) (st' := [.inl (6), .inl (v5)]) (σ' := σ6) rfl ?_
        refine wk_if2n tt_119 (tgt := 66) rfl rfl (fun h28 => ?_) (fun h28 => ?_)
        ·
          have h28_r := sg_Rn (6)
          have h28_q := sg_Rn (v5)
          have h28_l := sg_id (z := 6) (by decide)
          simp only [sg_c, sg_nc] at h28
          exact wk_ls [(0, .inr (.inr (.ref 45))), (1, .inl (a1)), (2, .inl (q4))] rfl ⟨rfl, rfl, rfl, trivial⟩ (ex8 σ6 hF7)
        ·
          have h28_r := sg_Rn (6)
          have h28_q := sg_Rn (v5)
          have h28_l := sg_id (z := 6) (by decide)
          simp only [sg_c, sg_nc] at h28
          refine wk_b tt_119 6 (pc' := 37) (ls' := [(0, .inr (.inr (.ref 45))), (1, .inl (a1)), (2, .inl (q4)), (3, .inl (v5))]) (st' := [.inl (a1), .inr (.inr (.ref 24)), .inr (.inr (.ref 46))]) (σ' := σ6) rfl ?_
          refine wk_callp tt_119 rfl rfl rfl rfl rfl tt_5 rfl (by decide) (at_i z σ6 24 12 (a1) rfl (by decide)) ?_
          generalize sx_at σ6 24 12 (sg_n (a1)) = q32
          refine wk_b tt_119 10 (pc' := 54) (ls' := [(0, .inr (.inr (.ref 45))), (1, .inl (a1)), (2, .inl (q4)), (3, .inl (v5))]) (st' := [.inl ((((sg_g σ6 45 7) - q4) + v5)), .inr (.inr (.ref 48)), .inl ((q32 + v5)), .inr (.inr (.ref 46))]) (σ' := σ6) rfl ?_
          refine wk_callp tt_119 rfl rfl rfl rfl rfl tt_5 rfl (by decide) (at_i z σ6 48 3200 ((((sg_g σ6 45 7) - q4) + v5)) rfl (by decide)) ?_
          generalize sx_at σ6 48 3200 (sg_n ((((sg_g σ6 45 7) - q4) + v5))) = q36
          refine wk_callp tt_119 rfl rfl rfl rfl rfl tt_21 rfl (by decide) (pt_i z σ6 46 272 ((q32 + v5)) (q36) rfl (by decide)) ?_
          have hF40 : sg_F [45, 46, 47] σ (sx_put σ6 46 272 (sg_n ((q32 + v5))) (q36)) := sg_F_p hF7 rfl _ _ _
          generalize (sx_put σ6 46 272 (sg_n ((q32 + v5))) (q36)) = σ41 at hF40 ⊢
          refine wk_b tt_119 2 (pc' := 14) (ls' := [(3, .inl ((v5 + 1))), (0, .inr (.inr (.ref 45))), (1, .inl (a1)), (2, .inl (q4))]) (st' := []) (σ' := σ41) rfl ?_
          refine wk_ls [(0, .inr (.inr (.ref 45))), (1, .inl (a1)), (2, .inl (q4)), (3, .inl ((v5 + 1)))] rfl ⟨rfl, rfl, rfl, rfl, trivial⟩ (ih22 _ ?_ σ41 ((v5 + 1)) hF40 ?_ rfl)
          · omega
          · omega
  refine wk_ls [(0, .inr (.inr (.ref 45))), (1, .inl (a1)), (2, .inl (q4)), (3, .inl (0))] rfl ⟨rfl, rfl, rfl, rfl, trivial⟩ ?_
  exact lp24 _ σ (0) hF0 (by omega) rfl
