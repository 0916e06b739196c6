/-! The end of a flat run of the class (2): it ends, and but for its cells all is as it was. -/
-- NestedVectors$Image.number x.flatRun.image a1
set_option maxRecDepth 8000 in
theorem bw_12 (z : Value) (σ : sg_S) (a1 : Int) : wx z 1 94 0 [(0, .inr (.inr (.ref 65))), (1, .inl (a1))] [] σ (fun v σ' => v = none ∧ sg_F [65, 66, 67] σ σ') := by
  have hF0 := sg_F_r [65, 66, 67] σ
  refine wk_b tt_94 1 (pc' := 1) (ls' := [(0, .inr (.inr (.ref 65))), (1, .inl (a1))]) (st' := [.inl (a1)]) (σ' := σ) rfl ?_
  refine wk_ifb tt_94 (tgt := 10) rfl rfl ?_ ?_
  ·
    refine wk_b tt_94 2 (pc' := 12) (ls' := [(0, .inr (.inr (.ref 65))), (1, .inl (a1))]) (st' := [.inr (.inl ((sg_n (a1))))]) (σ' := σ) rfl ?_
    refine wk_absb tt_94 rfl rfl (fun q => ?_)
    revert q; intro q2
    refine wk_b tt_94 3 (pc' := 19) (ls' := [(4, .inl (0)), (2, .inr (.inl (q2))), (0, .inr (.inr (.ref 65))), (1, .inl (a1))]) (st' := []) (σ' := σ) rfl ?_
    have ex7 : ∀ (σ5 : sg_S) (v4 : Int), sg_F [65, 66, 67] σ σ5 → wx z 1 94 56 [(0, .inr (.inr (.ref 65))), (4, .inl (v4))] [] σ5 (fun v σ' => v = none ∧ sg_F [65, 66, 67] σ σ') := by
      intro σ5 v4 hF6
      refine wk_b tt_94 4 (pc' := 62) (ls' := [(5, .inl ((v4 - 1))), (0, .inr (.inr (.ref 65))), (4, .inl (v4))]) (st' := []) (σ' := σ5) rfl ?_
      have ex11 : ∀ (σ9 : sg_S), sg_F [65, 66, 67] σ σ9 → wx z 1 94 90 [] [] σ9 (fun v σ' => v = none ∧ sg_F [65, 66, 67] σ σ') := by
        intro σ9 hF10
        exact wk_rV tt_94 rfl rfl ⟨rfl, hF10⟩
      have lp14 : ∀ (m13 : Nat) (σ9 : sg_S) (v8 : Int), sg_F [65, 66, 67] σ σ9 → (sg_R v8) → (v8 + 2147483648).toNat = m13 → wx z 1 94 62 [(0, .inr (.inr (.ref 65))), (5, .inl (v8))] [] σ9 (fun v σ' => v = none ∧ sg_F [65, 66, 67] σ σ') := by
        intro m13
        induction m13 using Nat.strongRecOn with
        | _ m13 ih12 =>
          intro σ9 v8 hF10 hR15 hm16
          have hR15_i := sg_id (z := v8) (by omega)
          refine wk_b tt_94 1 (pc' := 64) (ls' := [(0, .inr (.inr (.ref 65))), (5, .inl (v8))]) (st' := [.inl (v8)]) (σ' := σ9) rfl ?_
          refine wk_ifn tt_94 (tgt := 90) rfl rfl (fun h17 => ?_) (fun h17 => ?_)
          ·
            simp only [sg_c, sg_nc] at h17
            exact wk_ls [] rfl trivial (ex11 σ9 hF10)
          ·
            simp only [sg_c, sg_nc] at h17
            refine wk_b tt_94 5 (pc' := 76) (ls' := [(0, .inr (.inr (.ref 65))), (5, .inl (v8))]) (st' := [.inl (v8), .inr (.inr (.ref 66)), .inl (48), .inr (.inr (.ref 65))]) (σ' := σ9) rfl ?_
            refine wk_callp tt_94 rfl rfl rfl rfl rfl tt_5 rfl (by decide) (at_i z σ9 66 10 (v8) rfl (by decide)) ?_
            generalize sx_at σ9 66 10 (sg_n (v8)) = q21
            refine wk_b tt_94 2 (pc' := 81) (ls' := [(0, .inr (.inr (.ref 65))), (5, .inl (v8))]) (st' := [.inl (((((sg_i ((48 + q21))).toUInt32 % 65536).toInt32).toInt)), .inr (.inr (.ref 65))]) (σ' := σ9) rfl ?_
            refine wk_call tt_94 rfl rfl rfl rfl rfl tt_93 rfl (by decide) (bw_11 z σ9 (((((sg_i ((48 + q21))).toUInt32 % 65536).toInt32).toInt))) (fun w22 σ23 hq24 => ?_)
            obtain ⟨rfl, hF25⟩ := hq24
            have hF26 := sg_F_t hF10 (sg_F_m (L := [65, 66, 67]) hF25 rfl)
            refine wk_b tt_94 2 (pc' := 62) (ls' := [(5, .inl ((v8 + (-1)))), (0, .inr (.inr (.ref 65)))]) (st' := []) (σ' := σ23) rfl ?_
            refine wk_ls [(0, .inr (.inr (.ref 65))), (5, .inl ((v8 + (-1))))] rfl ⟨rfl, rfl, trivial⟩ (ih12 _ ?_ σ23 ((v8 + (-1))) hF26 ?_ rfl)
            · omega
            · omega
      refine wk_ls [(0, .inr (.inr (.ref 65))), (5, .inl ((v4 - 1)))] rfl ⟨rfl, rfl, trivial⟩ ?_
      refine wk_eq (ls' := [(0, .inr (.inr (.ref 65))), (5, .inl (sg_n ((v4 - 1))))]) (by simp only [bm_ls, List.map_cons, bm_v, sg_in]) rfl ?_
      exact lp14 _ σ5 (sg_n ((v4 - 1))) hF6 (sg_Rn _) rfl
    have lp29 : ∀ (m28 : Nat) (σ5 : sg_S) (v3 : Int) (v4 : Int), sg_F [65, 66, 67] σ σ5 → (0 ≤ v4 ∧ v4 < 10) → (2147483647 - v4).toNat = m28 → wx z 1 94 19 [(0, .inr (.inr (.ref 65))), (2, .inr (.inl (v3))), (4, .inl (v4))] [] σ5 (fun v σ' => v = none ∧ sg_F [65, 66, 67] σ σ') := by
      intro m28
      induction m28 using Nat.strongRecOn with
      | _ m28 ih27 =>
        intro σ5 v3 v4 hF6 hR30 hm31
        have hR30_i := sg_id (z := v4) (by omega)
        refine wk_b tt_94 5 (pc' := 29) (ls' := [(0, .inr (.inr (.ref 65))), (2, .inr (.inl (v3))), (4, .inl (v4))]) (st' := [.inr (.inl (10)), .inr (.inl (v3)), .inl (v4), .inr (.inr (.ref 66))]) (σ' := σ5) rfl ?_
        refine wk_lrem tt_94 rfl (by decide) ?_
        generalize (sg_l (v3) - sg_l (v3) / sg_l (10) * sg_l (10)).toInt = q32
        refine wk_b tt_94 1 (pc' := 31) (ls' := [(0, .inr (.inr (.ref 65))), (2, .inr (.inl (v3))), (4, .inl (v4))]) (st' := [.inl (q32), .inl (v4), .inr (.inr (.ref 66))]) (σ' := σ5) rfl ?_
        refine wk_callp tt_94 rfl rfl rfl rfl rfl tt_21 rfl (by decide) (pt_i z σ5 66 10 (v4) (q32) rfl (by decide)) ?_
        have hF36 : sg_F [65, 66, 67] σ (sx_put σ5 66 10 (sg_n (v4)) (q32)) := sg_F_p hF6 rfl _ _ _
        generalize (sx_put σ5 66 10 (sg_n (v4)) (q32)) = σ37 at hF36 ⊢
        refine wk_b tt_94 2 (pc' := 38) (ls' := [(0, .inr (.inr (.ref 65))), (2, .inr (.inl (v3))), (4, .inl (v4))]) (st' := [.inr (.inl (10)), .inr (.inl (v3))]) (σ' := σ37) rfl ?_
        refine wk_ldiv tt_94 rfl (by decide) ?_
        generalize (sg_l (v3) / sg_l (10)).toInt = q38
        refine wk_b tt_94 5 (pc' := 46) (ls' := [(4, .inl ((v4 + 1))), (2, .inr (.inl (q38))), (0, .inr (.inr (.ref 65)))]) (st' := [.inl ((bm_lc (q38) (0)))]) (σ' := σ37) rfl ?_
        refine wk_ifb tt_94 (tgt := 56) rfl rfl ?_ ?_
        ·
          exact wk_ls [(0, .inr (.inr (.ref 65))), (4, .inl ((v4 + 1)))] rfl ⟨rfl, rfl, trivial⟩ (ex7 σ37 ((v4 + 1)) hF36)
        ·
          refine wk_b tt_94 2 (pc' := 53) (ls' := [(4, .inl ((v4 + 1))), (2, .inr (.inl (q38))), (0, .inr (.inr (.ref 65)))]) (st' := [.inl (10), .inl ((v4 + 1))]) (σ' := σ37) rfl ?_
          refine wk_if2n tt_94 (tgt := 19) rfl rfl (fun h40 => ?_) (fun h40 => ?_)
          ·
            have h40_r := sg_Rn (10)
            have h40_q := sg_Rn ((v4 + 1))
            have h40_l := sg_id (z := 10) (by decide)
            have h40_x := sg_id (z := (v4 + 1)) (by omega)
            simp only [sg_c, sg_nc] at h40
            refine wk_ls [(0, .inr (.inr (.ref 65))), (2, .inr (.inl (q38))), (4, .inl ((v4 + 1)))] rfl ⟨rfl, rfl, rfl, trivial⟩ (ih27 _ ?_ σ37 (q38) ((v4 + 1)) hF36 ?_ rfl)
            · omega
            · omega
          ·
            have h40_r := sg_Rn (10)
            have h40_q := sg_Rn ((v4 + 1))
            have h40_l := sg_id (z := 10) (by decide)
            have h40_x := sg_id (z := (v4 + 1)) (by omega)
            simp only [sg_c, sg_nc] at h40
            exact wk_ls [(0, .inr (.inr (.ref 65))), (4, .inl ((v4 + 1)))] rfl ⟨rfl, rfl, trivial⟩ (ex7 σ37 ((v4 + 1)) hF36)
    refine wk_ls [(0, .inr (.inr (.ref 65))), (2, .inr (.inl (q2))), (4, .inl (0))] rfl ⟨rfl, rfl, rfl, trivial⟩ ?_
    exact lp29 _ σ (q2) (0) hF0 (by omega) rfl
  ·
    refine wk_b tt_94 2 (pc' := 7) (ls' := [(0, .inr (.inr (.ref 65))), (1, .inl (a1))]) (st' := [.inl (45), .inr (.inr (.ref 65))]) (σ' := σ) rfl ?_
    refine wk_call tt_94 rfl rfl rfl rfl rfl tt_93 rfl (by decide) (bw_11 z σ (45)) (fun w41 σ42 hq43 => ?_)
    obtain ⟨rfl, hF44⟩ := hq43
    have hF45 := sg_F_t hF0 (sg_F_m (L := [65, 66, 67]) hF44 rfl)
    refine wk_b tt_94 2 (pc' := 12) (ls' := [(0, .inr (.inr (.ref 65))), (1, .inl (a1))]) (st' := [.inr (.inl ((sg_n (a1))))]) (σ' := σ42) rfl ?_
    refine wk_absb tt_94 rfl rfl (fun q => ?_)
    revert q; intro q46
    refine wk_b tt_94 3 (pc' := 19) (ls' := [(4, .inl (0)), (2, .inr (.inl (q46))), (0, .inr (.inr (.ref 65))), (1, .inl (a1))]) (st' := []) (σ' := σ42) rfl ?_
    have ex51 : ∀ (σ49 : sg_S) (v48 : Int), sg_F [65, 66, 67] σ σ49 → wx z 1 94 56 [(0, .inr (.inr (.ref 65))), (4, .inl (v48))] [] σ49 (fun v σ' => v = none ∧ sg_F [65, 66, 67] σ σ') := by
      intro σ49 v48 hF50
      refine wk_b tt_94 4 (pc' := 62) (ls' := [(5, .inl ((v48 - 1))), (0, .inr (.inr (.ref 65))), (4, .inl (v48))]) (st' := []) (σ' := σ49) rfl ?_
      have ex55 : ∀ (σ53 : sg_S), sg_F [65, 66, 67] σ σ53 → wx z 1 94 90 [] [] σ53 (fun v σ' => v = none ∧ sg_F [65, 66, 67] σ σ') := by
        intro σ53 hF54
        exact wk_rV tt_94 rfl rfl ⟨rfl, hF54⟩
      have lp58 : ∀ (m57 : Nat) (σ53 : sg_S) (v52 : Int), sg_F [65, 66, 67] σ σ53 → (sg_R v52) → (v52 + 2147483648).toNat = m57 → wx z 1 94 62 [(0, .inr (.inr (.ref 65))), (5, .inl (v52))] [] σ53 (fun v σ' => v = none ∧ sg_F [65, 66, 67] σ σ') := by
        intro m57
        induction m57 using Nat.strongRecOn with
        | _ m57 ih56 =>
          intro σ53 v52 hF54 hR59 hm60
          have hR59_i := sg_id (z := v52) (by omega)
          refine wk_b tt_94 1 (pc' := 64) (ls' := [(0, .inr (.inr (.ref 65))), (5, .inl (v52))]) (st' := [.inl (v52)]) (σ' := σ53) rfl ?_
          refine wk_ifn tt_94 (tgt := 90) rfl rfl (fun h61 => ?_) (fun h61 => ?_)
          ·
            simp only [sg_c, sg_nc] at h61
            exact wk_ls [] rfl trivial (ex55 σ53 hF54)
          ·
            simp only [sg_c, sg_nc] at h61
            refine wk_b tt_94 5 (pc' := 76) (ls' := [(0, .inr (.inr (.ref 65))), (5, .inl (v52))]) (st' := [.inl (v52), .inr (.inr (.ref 66)), .inl (48), .inr (.inr (.ref 65))]) (σ' := σ53) rfl ?_
            refine wk_callp tt_94 rfl rfl rfl rfl rfl tt_5 rfl (by decide) (at_i z σ53 66 10 (v52) rfl (by decide)) ?_
            generalize sx_at σ53 66 10 (sg_n (v52)) = q65
            refine wk_b tt_94 2 (pc' := 81) (ls' := [(0, .inr (.inr (.ref 65))), (5, .inl (v52))]) (st' := [.inl (((((sg_i ((48 + q65))).toUInt32 % 65536).toInt32).toInt)), .inr (.inr (.ref 65))]) (σ' := σ53) rfl ?_
            refine wk_call tt_94 rfl rfl rfl rfl rfl tt_93 rfl (by decide) (bw_11 z σ53 (((((sg_i ((48 + q65))).toUInt32 % 65536).toInt32).toInt))) (fun w66 σ67 hq68 => ?_)
            obtain ⟨rfl, hF69⟩ := hq68
            have hF70 := sg_F_t hF54 (sg_F_m (L := [65, 66, 67]) hF69 rfl)
            refine wk_b tt_94 2 (pc' := 62) (ls' := [(5, .inl ((v52 + (-1)))), (0, .inr (.inr (.ref 65)))]) (st' := []) (σ' := σ67) rfl ?_
            refine wk_ls [(0, .inr (.inr (.ref 65))), (5, .inl ((v52 + (-1))))] rfl ⟨rfl, rfl, trivial⟩ (ih56 _ ?_ σ67 ((v52 + (-1))) hF70 ?_ rfl)
            · omega
            · omega
      refine wk_ls [(0, .inr (.inr (.ref 65))), (5, .inl ((v48 - 1)))] rfl ⟨rfl, rfl, trivial⟩ ?_
      refine wk_eq (ls' := [(0, .inr (.inr (.ref 65))), (5, .inl (sg_n ((v48 - 1))))]) (by simp only [bm_ls, List.map_cons, bm_v, sg_in]) rfl ?_
      exact lp58 _ σ49 (sg_n ((v48 - 1))) hF50 (sg_Rn _) rfl
    have lp73 : ∀ (m72 : Nat) (σ49 : sg_S) (v47 : Int) (v48 : Int), sg_F [65, 66, 67] σ σ49 → (0 ≤ v48 ∧ v48 < 10) → (2147483647 - v48).toNat = m72 → wx z 1 94 19 [(0, .inr (.inr (.ref 65))), (2, .inr (.inl (v47))), (4, .inl (v48))] [] σ49 (fun v σ' => v = none ∧ sg_F [65, 66, 67] σ σ') := by
      intro m72
      induction m72 using Nat.strongRecOn with
      | _ m72 ih71 =>
        intro σ49 v47 v48 hF50 hR74 hm75
        have hR74_i := sg_id (z := v48) (by omega)
        refine wk_b tt_94 5 (pc' := 29) (ls' := [(0, .inr (.inr (.ref 65))), (2, .inr (.inl (v47))), (4, .inl (v48))]) (st' := [.inr (.inl (10)), .inr (.inl (v47)), .inl (v48), .inr (.inr (.ref 66))]) (σ' := σ49) rfl ?_
        refine wk_lrem tt_94 rfl (by decide) ?_
        generalize (sg_l (v47) - sg_l (v47) / sg_l (10) * sg_l (10)).toInt = q76
        refine wk_b tt_94 1 (pc' := 31) (ls' := [(0, .inr (.inr (.ref 65))), (2, .inr (.inl (v47))), (4, .inl (v48))]) (st' := [.inl (q76), .inl (v48), .inr (.inr (.ref 66))]) (σ' := σ49) rfl ?_
        refine wk_callp tt_94 rfl rfl rfl rfl rfl tt_21 rfl (by decide) (pt_i z σ49 66 10 (v48) (q76) rfl (by decide)) ?_
        have hF80 : sg_F [65, 66, 67] σ (sx_put σ49 66 10 (sg_n (v48)) (q76)) := sg_F_p hF50 rfl _ _ _
        generalize (sx_put σ49 66 10 (sg_n (v48)) (q76)) = σ81 at hF80 ⊢
        refine wk_b tt_94 2 (pc' := 38) (ls' := [(0, .inr (.inr (.ref 65))), (2, .inr (.inl (v47))), (4, .inl (v48))]) (st' := [.inr (.inl (10)), .inr (.inl (v47))]) (σ' := σ81) rfl ?_
        refine wk_ldiv tt_94 rfl (by decide) ?_
        generalize (sg_l (v47) / sg_l (10)).toInt = q82
        refine wk_b tt_94 5 (pc' := 46) (ls' := [(4, .inl ((v48 + 1))), (2, .inr (.inl (q82))), (0, .inr (.inr (.ref 65)))]) (st' := [.inl ((bm_lc (q82) (0)))]) (σ' := σ81) rfl ?_
        refine wk_ifb tt_94 (tgt := 56) rfl rfl ?_ ?_
        ·
          exact wk_ls [(0, .inr (.inr (.ref 65))), (4, .inl ((v48 + 1)))] rfl ⟨rfl, rfl, trivial⟩ (ex51 σ81 ((v48 + 1)) hF80)
        ·
          refine wk_b tt_94 2 (pc' := 53) (ls' := [(4, .inl ((v48 + 1))), (2, .inr (.inl (q82))), (0, .inr (.inr (.ref 65)))]) (st' := [.inl (10), .inl ((v48 + 1))]) (σ' := σ81) rfl ?_
          refine wk_if2n tt_94 (tgt := 19) rfl rfl (fun h84 => ?_) (fun h84 => ?_)
          ·
            have h84_r := sg_Rn (10)
            have h84_q := sg_Rn ((v48 + 1))
            have h84_l := sg_id (z := 10) (by decide)
            have h84_x := sg_id (z := (v48 + 1)) (by omega)
            simp only [sg_c, sg_nc] at h84
            refine wk_ls [(0, .inr (.inr (.ref 65))), (2, .inr (.inl (q82))), (4, .inl ((v48 + 1)))] rfl ⟨rfl, rfl, rfl, trivial⟩ (ih71 _ ?_ σ81 (q82) ((v48 + 1)) hF80 ?_ rfl)
            · omega
            · omega
          ·
            have h84_r := sg_Rn (10)
            have h84_q := sg_Rn ((v48 + 1))
            have h84_l := sg_id (z := 10) (by decide)
            have h84_x := sg_id (z := (v48 + 1)) (by omega)
            simp only [sg_c, sg_nc] at h84
            exact wk_ls [(0, .inr (.inr (.ref 65))), (4, .inl ((v48 + 1)))] rfl ⟨rfl, rfl, trivial⟩ (ex51 σ81 ((v48 + 1)) hF80)
    refine wk_ls [(0, .inr (.inr (.ref 65))), (2, .inr (.inl (q46))), (4, .inl (0))] rfl ⟨rfl, rfl, rfl, trivial⟩ ?_
    exact lp73 _ σ42 (q46) (0) hF45 (by omega) rfl
-- NestedVectors$Image.write x.flatRun.image a1
set_option maxRecDepth 8000 in
theorem bw_13 (z : Value) (σ : sg_S) (a1 : Int) (hp : sg_n a1 ≤ 0) : wx z 2 97 0 [(0, .inr (.inr (.ref 65))), (1, .inl (a1))] [] σ (fun v σ' => v = none ∧ sg_F [65, 66, 67] σ σ') := by
  have hF0 := sg_F_r [65, 66, 67] σ
  refine wk_b tt_97 4 (pc' := 8) (ls' := [(0, .inr (.inr (.ref 65))), (1, .inl (a1))]) (st' := [.inl ((sg_g σ 65 3)), .inr (.inr (.ref 68))]) (σ' := σ) rfl ?_
  refine wk_callp tt_97 rfl rfl rfl rfl rfl tt_5 rfl (by decide) (at_i z σ 68 6001 ((sg_g σ 65 3)) rfl (by decide)) ?_
  generalize sx_at σ 68 6001 (sg_n ((sg_g σ 65 3))) = q4
  refine wk_b tt_97 8 (pc' := 23) (ls' := [(2, .inl (q4)), (0, .inr (.inr (.ref 65))), (1, .inl (a1))]) (st' := [.inl (a1)]) (σ' := (sg_w σ 65 3 (((sg_g σ 65 3) + 1)))) rfl ?_
  have hF5 : sg_F [65, 66, 67] σ (sg_w σ 65 3 (((sg_g σ 65 3) + 1))) := (sg_F_w hF0 rfl _)
  generalize (sg_w σ 65 3 (((sg_g σ 65 3) + 1))) = σ6 at hF5 ⊢
  refine wk_ifn tt_97 (tgt := 32) rfl rfl (fun h7 => ?_) (fun h7 => ?_)
  ·
    simp only [sg_c, sg_nc] at h7
    refine wk_b tt_97 2 (pc' := 35) (ls' := [(2, .inl (q4)), (0, .inr (.inr (.ref 65))), (1, .inl (a1))]) (st' := [.inl (91), .inr (.inr (.ref 65))]) (σ' := σ6) rfl ?_
    refine wk_call tt_97 rfl rfl rfl rfl rfl tt_93 rfl (by decide) (bw_11 z σ6 (91)) (fun w8 σ9 hq10 => ?_)
    obtain ⟨rfl, hF11⟩ := hq10
    have hF12 := sg_F_t hF5 (sg_F_m (L := [65, 66, 67]) hF11 rfl)
    refine wk_b tt_97 2 (pc' := 40) (ls' := [(3, .inl (0)), (2, .inl (q4)), (0, .inr (.inr (.ref 65))), (1, .inl (a1))]) (st' := []) (σ' := σ9) rfl ?_
    have ex16 : ∀ (σ14 : sg_S), sg_F [65, 66, 67] σ σ14 → wx z 2 97 75 [(0, .inr (.inr (.ref 65)))] [] σ14 (fun v σ' => v = none ∧ sg_F [65, 66, 67] σ σ') := by
      intro σ14 hF15
      refine wk_b tt_97 2 (pc' := 78) (ls' := [(0, .inr (.inr (.ref 65)))]) (st' := [.inl (93), .inr (.inr (.ref 65))]) (σ' := σ14) rfl ?_
      refine wk_call tt_97 rfl rfl rfl rfl rfl tt_93 rfl (by decide) (bw_11 z σ14 (93)) (fun w17 σ18 hq19 => ?_)
      obtain ⟨rfl, hF20⟩ := hq19
      have hF21 := sg_F_t hF15 (sg_F_m (L := [65, 66, 67]) hF20 rfl)
      exact wk_rV tt_97 rfl rfl ⟨rfl, hF21⟩
    have lp24 : ∀ (m23 : Nat) (σ14 : sg_S) (v13 : Int), sg_F [65, 66, 67] σ σ14 → (sg_R v13) → (2147483647 - v13).toNat = m23 → wx z 2 97 40 [(0, .inr (.inr (.ref 65))), (1, .inl (a1)), (2, .inl (q4)), (3, .inl (v13))] [] σ14 (fun v σ' => v = none ∧ sg_F [65, 66, 67] σ σ') := by
      intro m23
      induction m23 using Nat.strongRecOn with
      | _ m23 ih22 =>
        intro σ14 v13 hF15 hR25 hm26
        have hR25_i := sg_id (z := v13) (by omega)
        refine wk_b tt_97 2 (pc' := 42) (ls' := [(0, .inr (.inr (.ref 65))), (1, .inl (a1)), (2, .inl (q4)), (3, .inl (v13))]) (st' := [.inl (q4), .inl (v13)]) (σ' := σ14) rfl ?_
        refine wk_if2n tt_97 (tgt := 75) rfl rfl (fun h27 => ?_) (fun h27 => ?_)
        ·
          have h27_r := sg_Rn (q4)
          have h27_q := sg_Rn (v13)
          simp only [sg_c, sg_nc] at h27
          exact wk_ls [(0, .inr (.inr (.ref 65)))] rfl ⟨rfl, trivial⟩ (ex16 σ14 hF15)
        ·
          have h27_r := sg_Rn (q4)
          have h27_q := sg_Rn (v13)
          simp only [sg_c, sg_nc] at h27
          refine wk_b tt_97 2 (pc' := 49) (ls' := [(0, .inr (.inr (.ref 65))), (1, .inl (a1)), (2, .inl (q4)), (3, .inl (v13))]) (st' := [.inl (200), .inl (v13)]) (σ' := σ14) rfl ?_
          refine wk_if2n tt_97 (tgt := 75) rfl rfl (fun h28 => ?_) (fun h28 => ?_)
          ·
            have h28_r := sg_Rn (200)
            have h28_q := sg_Rn (v13)
            have h28_l := sg_id (z := 200) (by decide)
            simp only [sg_c, sg_nc] at h28
            exact wk_ls [(0, .inr (.inr (.ref 65)))] rfl ⟨rfl, trivial⟩ (ex16 σ14 hF15)
          ·
            have h28_r := sg_Rn (200)
            have h28_q := sg_Rn (v13)
            have h28_l := sg_id (z := 200) (by decide)
            simp only [sg_c, sg_nc] at h28
            refine wk_b tt_97 1 (pc' := 53) (ls' := [(0, .inr (.inr (.ref 65))), (1, .inl (a1)), (2, .inl (q4)), (3, .inl (v13))]) (st' := [.inl (v13)]) (σ' := σ14) rfl ?_
            refine wk_ifn tt_97 (tgt := 62) rfl rfl (fun h29 => ?_) (fun h29 => ?_)
            ·
              simp only [sg_c, sg_nc] at h29
              refine wk_b tt_97 4 (pc' := 66) (ls' := [(0, .inr (.inr (.ref 65))), (1, .inl (a1)), (2, .inl (q4)), (3, .inl (v13))]) (st' := [.inl ((a1 - 1)), .inr (.inr (.ref 65))]) (σ' := σ14) rfl ?_
              exfalso; omega
            ·
              simp only [sg_c, sg_nc] at h29
              refine wk_b tt_97 2 (pc' := 59) (ls' := [(0, .inr (.inr (.ref 65))), (1, .inl (a1)), (2, .inl (q4)), (3, .inl (v13))]) (st' := [.inl (44), .inr (.inr (.ref 65))]) (σ' := σ14) rfl ?_
              refine wk_call tt_97 rfl rfl rfl rfl rfl tt_93 rfl (by decide) (bw_11 z σ14 (44)) (fun w30 σ31 hq32 => ?_)
              obtain ⟨rfl, hF33⟩ := hq32
              have hF34 := sg_F_t hF15 (sg_F_m (L := [65, 66, 67]) hF33 rfl)
              refine wk_b tt_97 4 (pc' := 66) (ls' := [(0, .inr (.inr (.ref 65))), (1, .inl (a1)), (2, .inl (q4)), (3, .inl (v13))]) (st' := [.inl ((a1 - 1)), .inr (.inr (.ref 65))]) (σ' := σ31) rfl ?_
              exfalso; omega
    refine wk_ls [(0, .inr (.inr (.ref 65))), (1, .inl (a1)), (2, .inl (q4)), (3, .inl (0))] rfl ⟨rfl, rfl, rfl, rfl, trivial⟩ ?_
    exact lp24 _ σ9 (0) hF12 (by omega) rfl
  ·
    simp only [sg_c, sg_nc] at h7
    refine wk_b tt_97 2 (pc' := 28) (ls' := [(2, .inl (q4)), (0, .inr (.inr (.ref 65))), (1, .inl (a1))]) (st' := [.inl (q4), .inr (.inr (.ref 65))]) (σ' := σ6) rfl ?_
    refine wk_call tt_97 rfl rfl rfl rfl rfl tt_94 rfl (by decide) (bw_12 z σ6 (q4)) (fun w35 σ36 hq37 => ?_)
    obtain ⟨rfl, hF38⟩ := hq37
    have hF39 := sg_F_t hF5 (sg_F_m (L := [65, 66, 67]) hF38 rfl)
    exact wk_rV tt_97 rfl rfl ⟨rfl, hF39⟩
-- NestedVectors$Image.write x.flatRun.image a1
set_option maxRecDepth 8000 in
theorem bw_14 (z : Value) (σ : sg_S) (a1 : Int) (hp : sg_n a1 ≤ 1) : wx z 3 97 0 [(0, .inr (.inr (.ref 65))), (1, .inl (a1))] [] σ (fun v σ' => v = none ∧ sg_F [65, 66, 67] σ σ') := by
  have hF0 := sg_F_r [65, 66, 67] σ
  refine wk_b tt_97 4 (pc' := 8) (ls' := [(0, .inr (.inr (.ref 65))), (1, .inl (a1))]) (st' := [.inl ((sg_g σ 65 3)), .inr (.inr (.ref 68))]) (σ' := σ) rfl ?_
  refine wk_callp tt_97 rfl rfl rfl rfl rfl tt_5 rfl (by decide) (at_i z σ 68 6001 ((sg_g σ 65 3)) rfl (by decide)) ?_
  generalize sx_at σ 68 6001 (sg_n ((sg_g σ 65 3))) = q4
  refine wk_b tt_97 8 (pc' := 23) (ls' := [(2, .inl (q4)), (0, .inr (.inr (.ref 65))), (1, .inl (a1))]) (st' := [.inl (a1)]) (σ' := (sg_w σ 65 3 (((sg_g σ 65 3) + 1)))) rfl ?_
  have hF5 : sg_F [65, 66, 67] σ (sg_w σ 65 3 (((sg_g σ 65 3) + 1))) := (sg_F_w hF0 rfl _)
  generalize (sg_w σ 65 3 (((sg_g σ 65 3) + 1))) = σ6 at hF5 ⊢
  refine wk_ifn tt_97 (tgt := 32) rfl rfl (fun h7 => ?_) (fun h7 => ?_)
  ·
    simp only [sg_c, sg_nc] at h7
    refine wk_b tt_97 2 (pc' := 35) (ls' := [(2, .inl (q4)), (0, .inr (.inr (.ref 65))), (1, .inl (a1))]) (st' := [.inl (91), .inr (.inr (.ref 65))]) (σ' := σ6) rfl ?_
    refine wk_call tt_97 rfl rfl rfl rfl rfl tt_93 rfl (by decide) (bw_11 z σ6 (91)) (fun w8 σ9 hq10 => ?_)
    obtain ⟨rfl, hF11⟩ := hq10
    have hF12 := sg_F_t hF5 (sg_F_m (L := [65, 66, 67]) hF11 rfl)
    refine wk_b tt_97 2 (pc' := 40) (ls' := [(3, .inl (0)), (2, .inl (q4)), (0, .inr (.inr (.ref 65))), (1, .inl (a1))]) (st' := []) (σ' := σ9) rfl ?_
    have ex16 : ∀ (σ14 : sg_S), sg_F [65, 66, 67] σ σ14 → wx z 3 97 75 [(0, .inr (.inr (.ref 65)))] [] σ14 (fun v σ' => v = none ∧ sg_F [65, 66, 67] σ σ') := by
      intro σ14 hF15
      refine wk_b tt_97 2 (pc' := 78) (ls' := [(0, .inr (.inr (.ref 65)))]) (st' := [.inl (93), .inr (.inr (.ref 65))]) (σ' := σ14) rfl ?_
      refine wk_call tt_97 rfl rfl rfl rfl rfl tt_93 rfl (by decide) (bw_11 z σ14 (93)) (fun w17 σ18 hq19 => ?_)
      obtain ⟨rfl, hF20⟩ := hq19
      have hF21 := sg_F_t hF15 (sg_F_m (L := [65, 66, 67]) hF20 rfl)
      exact wk_rV tt_97 rfl rfl ⟨rfl, hF21⟩
    have lp24 : ∀ (m23 : Nat) (σ14 : sg_S) (v13 : Int), sg_F [65, 66, 67] σ σ14 → (sg_R v13) → (2147483647 - v13).toNat = m23 → wx z 3 97 40 [(0, .inr (.inr (.ref 65))), (1, .inl (a1)), (2, .inl (q4)), (3, .inl (v13))] [] σ14 (fun v σ' => v = none ∧ sg_F [65, 66, 67] σ σ') := by
      intro m23
      induction m23 using Nat.strongRecOn with
      | _ m23 ih22 =>
        intro σ14 v13 hF15 hR25 hm26
        have hR25_i := sg_id (z := v13) (by omega)
        refine wk_b tt_97 2 (pc' := 42) (ls' := [(0, .inr (.inr (.ref 65))), (1, .inl (a1)), (2, .inl (q4)), (3, .inl (v13))]) (st' := [.inl (q4), .inl (v13)]) (σ' := σ14) rfl ?_
        refine wk_if2n tt_97 (tgt := 75) rfl rfl (fun h27 => ?_) (fun h27 => ?_)
        ·
          have h27_r := sg_Rn (q4)
          have h27_q := sg_Rn (v13)
          simp only [sg_c, sg_nc] at h27
          exact wk_ls [(0, .inr (.inr (.ref 65)))] rfl ⟨rfl, trivial⟩ (ex16 σ14 hF15)
        ·
          have h27_r := sg_Rn (q4)
          have h27_q := sg_Rn (v13)
          simp only [sg_c, sg_nc] at h27
          refine wk_b tt_97 2 (pc' := 49) (ls' := [(0, .inr (.inr (.ref 65))), (1, .inl (a1)), (2, .inl (q4)), (3, .inl (v13))]) (st' := [.inl (200), .inl (v13)]) (σ' := σ14) rfl ?_
          refine wk_if2n tt_97 (tgt := 75) rfl rfl (fun h28 => ?_) (fun h28 => ?_)
          ·
            have h28_r := sg_Rn (200)
            have h28_q := sg_Rn (v13)
            have h28_l := sg_id (z := 200) (by decide)
            simp only [sg_c, sg_nc] at h28
            exact wk_ls [(0, .inr (.inr (.ref 65)))] rfl ⟨rfl, trivial⟩ (ex16 σ14 hF15)
          ·
            have h28_r := sg_Rn (200)
            have h28_q := sg_Rn (v13)
            have h28_l := sg_id (z := 200) (by decide)
            simp only [sg_c, sg_nc] at h28
            refine wk_b tt_97 1 (pc' := 53) (ls' := [(0, .inr (.inr (.ref 65))), (1, .inl (a1)), (2, .inl (q4)), (3, .inl (v13))]) (st' := [.inl (v13)]) (σ' := σ14) rfl ?_
            refine wk_ifn tt_97 (tgt := 62) rfl rfl (fun h29 => ?_) (fun h29 => ?_)
            ·
              simp only [sg_c, sg_nc] at h29
              refine wk_b tt_97 4 (pc' := 66) (ls' := [(0, .inr (.inr (.ref 65))), (1, .inl (a1)), (2, .inl (q4)), (3, .inl (v13))]) (st' := [.inl ((a1 - 1)), .inr (.inr (.ref 65))]) (σ' := σ14) rfl ?_
              refine wk_call tt_97 rfl rfl rfl rfl rfl tt_97 rfl (by decide) (bw_13 z σ14 ((a1 - 1)) (by have := sg_n_pred (x := a1) (by omega); omega)) (fun w30 σ31 hq32 => ?_)
              obtain ⟨rfl, hF33⟩ := hq32
              have hF34 := sg_F_t hF15 (sg_F_m (L := [65, 66, 67]) hF33 rfl)
              refine wk_b tt_97 2 (pc' := 40) (ls' := [(3, .inl ((v13 + 1))), (0, .inr (.inr (.ref 65))), (1, .inl (a1)), (2, .inl (q4))]) (st' := []) (σ' := σ31) rfl ?_
              refine wk_ls [(0, .inr (.inr (.ref 65))), (1, .inl (a1)), (2, .inl (q4)), (3, .inl ((v13 + 1)))] rfl ⟨rfl, rfl, rfl, rfl, trivial⟩ (ih22 _ ?_ σ31 ((v13 + 1)) hF34 ?_ rfl)
              · omega
              · omega
            ·
              simp only [sg_c, sg_nc] at h29
              refine wk_b tt_97 2 (pc' := 59) (ls' := [(0, .inr (.inr (.ref 65))), (1, .inl (a1)), (2, .inl (q4)), (3, .inl (v13))]) (st' := [.inl (44), .inr (.inr (.ref 65))]) (σ' := σ14) rfl ?_
              refine wk_call tt_97 rfl rfl rfl rfl rfl tt_93 rfl (by decide) (bw_11 z σ14 (44)) (fun w35 σ36 hq37 => ?_)
              obtain ⟨rfl, hF38⟩ := hq37
              have hF39 := sg_F_t hF15 (sg_F_m (L := [65, 66, 67]) hF38 rfl)
              refine wk_b tt_97 4 (pc' := 66) (ls' := [(0, .inr (.inr (.ref 65))), (1, .inl (a1)), (2, .inl (q4)), (3, .inl (v13))]) (st' := [.inl ((a1 - 1)), .inr (.inr (.ref 65))]) (σ' := σ36) rfl ?_
              refine wk_call tt_97 rfl rfl rfl rfl rfl tt_97 rfl (by decide) (bw_13 z σ36 ((a1 - 1)) (by have := sg_n_pred (x := a1) (by omega); omega)) (fun w40 σ41 hq42 => ?_)
              obtain ⟨rfl, hF43⟩ := hq42
              have hF44 := sg_F_t hF39 (sg_F_m (L := [65, 66, 67]) hF43 rfl)
              refine wk_b tt_97 2 (pc' := 40) (ls' := [(3, .inl ((v13 + 1))), (0, .inr (.inr (.ref 65))), (1, .inl (a1)), (2, .inl (q4))]) (st' := []) (σ' := σ41) rfl ?_
              refine wk_ls [(0, .inr (.inr (.ref 65))), (1, .inl (a1)), (2, .inl (q4)), (3, .inl ((v13 + 1)))] rfl ⟨rfl, rfl, rfl, rfl, trivial⟩ (ih22 _ ?_ σ41 ((v13 + 1)) hF44 ?_ rfl)
              · omega
              · omega
    refine wk_ls [(0, .inr (.inr (.ref 65))), (1, .inl (a1)), (2, .inl (q4)), (3, .inl (0))] rfl ⟨rfl, rfl, rfl, rfl, trivial⟩ ?_
    exact lp24 _ σ9 (0) hF12 (by omega) rfl
  ·
    simp only [sg_c, sg_nc] at h7
    refine wk_b tt_97 2 (pc' := 28) (ls' := [(2, .inl (q4)), (0, .inr (.inr (.ref 65))), (1, .inl (a1))]) (st' := [.inl (q4), .inr (.inr (.ref 65))]) (σ' := σ6) rfl ?_
    refine wk_call tt_97 rfl rfl rfl rfl rfl tt_94 rfl (by decide) (bw_12 z σ6 (q4)) (fun w45 σ46 hq47 => ?_)
    obtain ⟨rfl, hF48⟩ := hq47
    have hF49 := sg_F_t hF5 (sg_F_m (L := [65, 66, 67]) hF48 rfl)
    exact wk_rV tt_97 rfl rfl ⟨rfl, hF49⟩
-- NestedVectors$Image.write x.flatRun.image a1
set_option maxRecDepth 8000 in
theorem bw_15 (z : Value) (σ : sg_S) (a1 : Int) (hp : sg_n a1 ≤ 2) : wx z 4 97 0 [(0, .inr (.inr (.ref 65))), (1, .inl (a1))] [] σ (fun v σ' => v = none ∧ sg_F [65, 66, 67] σ σ') := by
  have hF0 := sg_F_r [65, 66, 67] σ
  refine wk_b tt_97 4 (pc' := 8) (ls' := [(0, .inr (.inr (.ref 65))), (1, .inl (a1))]) (st' := [.inl ((sg_g σ 65 3)), .inr (.inr (.ref 68))]) (σ' := σ) rfl ?_
  refine wk_callp tt_97 rfl rfl rfl rfl rfl tt_5 rfl (by decide) (at_i z σ 68 6001 ((sg_g σ 65 3)) rfl (by decide)) ?_
  generalize sx_at σ 68 6001 (sg_n ((sg_g σ 65 3))) = q4
  refine wk_b tt_97 8 (pc' := 23) (ls' := [(2, .inl (q4)), (0, .inr (.inr (.ref 65))), (1, .inl (a1))]) (st' := [.inl (a1)]) (σ' := (sg_w σ 65 3 (((sg_g σ 65 3) + 1)))) rfl ?_
  have hF5 : sg_F [65, 66, 67] σ (sg_w σ 65 3 (((sg_g σ 65 3) + 1))) := (sg_F_w hF0 rfl _)
  generalize (sg_w σ 65 3 (((sg_g σ 65 3) + 1))) = σ6 at hF5 ⊢
  refine wk_ifn tt_97 (tgt := 32) rfl rfl (fun h7 => ?_) (fun h7 => ?_)
  ·
    simp only [sg_c, sg_nc] at h7
    refine wk_b tt_97 2 (pc' := 35) (ls' := [(2, .inl (q4)), (0, .inr (.inr (.ref 65))), (1, .inl (a1))]) (st' := [.inl (91), .inr (.inr (.ref 65))]) (σ' := σ6) rfl ?_
    refine wk_call tt_97 rfl rfl rfl rfl rfl tt_93 rfl (by decide) (bw_11 z σ6 (91)) (fun w8 σ9 hq10 => ?_)
    obtain ⟨rfl, hF11⟩ := hq10
    have hF12 := sg_F_t hF5 (sg_F_m (L := [65, 66, 67]) hF11 rfl)
    refine wk_b tt_97 2 (pc' := 40) (ls' := [(3, .inl (0)), (2, .inl (q4)), (0, .inr (.inr (.ref 65))), (1, .inl (a1))]) (st' := []) (σ' := σ9) rfl ?_
    have ex16 : ∀ (σ14 : sg_S), sg_F [65, 66, 67] σ σ14 → wx z 4 97 75 [(0, .inr (.inr (.ref 65)))] [] σ14 (fun v σ' => v = none ∧ sg_F [65, 66, 67] σ σ') := by
      intro σ14 hF15
      refine wk_b tt_97 2 (pc' := 78) (ls' := [(0, .inr (.inr (.ref 65)))]) (st' := [.inl (93), .inr (.inr (.ref 65))]) (σ' := σ14) rfl ?_
      refine wk_call tt_97 rfl rfl rfl rfl rfl tt_93 rfl (by decide) (bw_11 z σ14 (93)) (fun w17 σ18 hq19 => ?_)
      obtain ⟨rfl, hF20⟩ := hq19
      have hF21 := sg_F_t hF15 (sg_F_m (L := [65, 66, 67]) hF20 rfl)
      exact wk_rV tt_97 rfl rfl ⟨rfl, hF21⟩
    have lp24 : ∀ (m23 : Nat) (σ14 : sg_S) (v13 : Int), sg_F [65, 66, 67] σ σ14 → (sg_R v13) → (2147483647 - v13).toNat = m23 → wx z 4 97 40 [(0, .inr (.inr (.ref 65))), (1, .inl (a1)), (2, .inl (q4)), (3, .inl (v13))] [] σ14 (fun v σ' => v = none ∧ sg_F [65, 66, 67] σ σ') := by
      intro m23
      induction m23 using Nat.strongRecOn with
      | _ m23 ih22 =>
        intro σ14 v13 hF15 hR25 hm26
        have hR25_i := sg_id (z := v13) (by omega)
        refine wk_b tt_97 2 (pc' := 42) (ls' := [(0, .inr (.inr (.ref 65))), (1, .inl (a1)), (2, .inl (q4)), (3, .inl (v13))]) (st' := [.inl (q4), .inl (v13)]) (σ' := σ14) rfl ?_
        refine wk_if2n tt_97 (tgt := 75) rfl rfl (fun h27 => ?_) (fun h27 => ?_)
        ·
          have h27_r := sg_Rn (q4)
          have h27_q := sg_Rn (v13)
          simp only [sg_c, sg_nc] at h27
          exact wk_ls [(0, .inr (.inr (.ref 65)))] rfl ⟨rfl, trivial⟩ (ex16 σ14 hF15)
        ·
          have h27_r := sg_Rn (q4)
          have h27_q := sg_Rn (v13)
          simp only [sg_c, sg_nc] at h27
          refine wk_b tt_97 2 (pc' := 49) (ls' := [(0, .inr (.inr (.ref 65))), (1, .inl (a1)), (2, .inl (q4)), (3, .inl (v13))]) (st' := [.inl (200), .inl (v13)]) (σ' := σ14) rfl ?_
          refine wk_if2n tt_97 (tgt := 75) rfl rfl (fun h28 => ?_) (fun h28 => ?_)
          ·
            have h28_r := sg_Rn (200)
            have h28_q := sg_Rn (v13)
            have h28_l := sg_id (z := 200) (by decide)
            simp only [sg_c, sg_nc] at h28
            exact wk_ls [(0, .inr (.inr (.ref 65)))] rfl ⟨rfl, trivial⟩ (ex16 σ14 hF15)
          ·
            have h28_r := sg_Rn (200)
            have h28_q := sg_Rn (v13)
            have h28_l := sg_id (z := 200) (by decide)
            simp only [sg_c, sg_nc] at h28
            refine wk_b tt_97 1 (pc' := 53) (ls' := [(0, .inr (.inr (.ref 65))), (1, .inl (a1)), (2, .inl (q4)), (3, .inl (v13))]) (st' := [.inl (v13)]) (σ' := σ14) rfl ?_
            refine wk_ifn tt_97 (tgt := 62) rfl rfl (fun h29 => ?_) (fun h29 => ?_)
            ·
              simp only [sg_c, sg_nc] at h29
              refine wk_b tt_97 4 (pc' := 66) (ls' := [(0, .inr (.inr (.ref 65))), (1, .inl (a1)), (2, .inl (q4)), (3, .inl (v13))]) (st' := [.inl ((a1 - 1)), .inr (.inr (.ref 65))]) (σ' := σ14) rfl ?_
              refine wk_call tt_97 rfl rfl rfl rfl rfl tt_97 rfl (by decide) (bw_14 z σ14 ((a1 - 1)) (by have := sg_n_pred (x := a1) (by omega); omega)) (fun w30 σ31 hq32 => ?_)
              obtain ⟨rfl, hF33⟩ := hq32
              have hF34 := sg_F_t hF15 (sg_F_m (L := [65, 66, 67]) hF33 rfl)
              refine wk_b tt_97 2 (pc' := 40) (ls' := [(3, .inl ((v13 + 1))), (0, .inr (.inr (.ref 65))), (1, .inl (a1)), (2, .inl (q4))]) (st' := []) (σ' := σ31) rfl ?_
              refine wk_ls [(0, .inr (.inr (.ref 65))), (1, .inl (a1)), (2, .inl (q4)), (3, .inl ((v13 + 1)))] rfl ⟨rfl, rfl, rfl, rfl, trivial⟩ (ih22 _ ?_ σ31 ((v13 + 1)) hF34 ?_ rfl)
              · omega
              · omega
            ·
              simp only [sg_c, sg_nc] at h29
              refine wk_b tt_97 2 (pc' := 59) (ls' := [(0, .inr (.inr (.ref 65))), (1, .inl (a1)), (2, .inl (q4)), (3, .inl (v13))]) (st' := [.inl (44), .inr (.inr (.ref 65))]) (σ' := σ14) rfl ?_
              refine wk_call tt_97 rfl rfl rfl rfl rfl tt_93 rfl (by decide) (bw_11 z σ14 (44)) (fun w35 σ36 hq37 => ?_)
              obtain ⟨rfl, hF38⟩ := hq37
              have hF39 := sg_F_t hF15 (sg_F_m (L := [65, 66, 67]) hF38 rfl)
              refine wk_b tt_97 4 (pc' := 66) (ls' := [(0, .inr (.inr (.ref 65))), (1, .inl (a1)), (2, .inl (q4)), (3, .inl (v13))]) (st' := [.inl ((a1 - 1)), .inr (.inr (.ref 65))]) (σ' := σ36) rfl ?_
              refine wk_call tt_97 rfl rfl rfl rfl rfl tt_97 rfl (by decide) (bw_14 z σ36 ((a1 - 1)) (by have := sg_n_pred (x := a1) (by omega); omega)) (fun w40 σ41 hq42 => ?_)
              obtain ⟨rfl, hF43⟩ := hq42
              have hF44 := sg_F_t hF39 (sg_F_m (L := [65, 66, 67]) hF43 rfl)
              refine wk_b tt_97 2 (pc' := 40) (ls' := [(3, .inl ((v13 + 1))), (0, .inr (.inr (.ref 65))), (1, .inl (a1)), (2, .inl (q4))]) (st' := []) (σ' := σ41) rfl ?_
              refine wk_ls [(0, .inr (.inr (.ref 65))), (1, .inl (a1)), (2, .inl (q4)), (3, .inl ((v13 + 1)))] rfl ⟨rfl, rfl, rfl, rfl, trivial⟩ (ih22 _ ?_ σ41 ((v13 + 1)) hF44 ?_ rfl)
              · omega
              · omega
    refine wk_ls [(0, .inr (.inr (.ref 65))), (1, .inl (a1)), (2, .inl (q4)), (3, .inl (0))] rfl ⟨rfl, rfl, rfl, rfl, trivial⟩ ?_
    exact lp24 _ σ9 (0) hF12 (by omega) rfl
  ·
    simp only [sg_c, sg_nc] at h7
    refine wk_b tt_97 2 (pc' := 28) (ls' := [(2, .inl (q4)), (0, .inr (.inr (.ref 65))), (1, .inl (a1))]) (st' := [.inl (q4), .inr (.inr (.ref 65))]) (σ' := σ6) rfl ?_
    refine wk_call tt_97 rfl rfl rfl rfl rfl tt_94 rfl (by decide) (bw_12 z σ6 (q4)) (fun w45 σ46 hq47 => ?_)
    obtain ⟨rfl, hF48⟩ := hq47
    have hF49 := sg_F_t hF5 (sg_F_m (L := [65, 66, 67]) hF48 rfl)
    exact wk_rV tt_97 rfl rfl ⟨rfl, hF49⟩
-- NestedVectors$Image.write x.flatRun.image a1
set_option maxRecDepth 8000 in
theorem bw_16 (z : Value) (σ : sg_S) (a1 : Int) (hp : sg_n a1 ≤ 3) : wx z 5 97 0 [(0, .inr (.inr (.ref 65))), (1, .inl (a1))] [] σ (fun v σ' => v = none ∧ sg_F [65, 66, 67] σ σ') := by
  have hF0 := sg_F_r [65, 66, 67] σ
  refine wk_b tt_97 4 (pc' := 8) (ls' := [(0, .inr (.inr (.ref 65))), (1, .inl (a1))]) (st' := [.inl ((sg_g σ 65 3)), .inr (.inr (.ref 68))]) (σ' := σ) rfl ?_
  refine wk_callp tt_97 rfl rfl rfl rfl rfl tt_5 rfl (by decide) (at_i z σ 68 6001 ((sg_g σ 65 3)) rfl (by decide)) ?_
  generalize sx_at σ 68 6001 (sg_n ((sg_g σ 65 3))) = q4
  refine wk_b tt_97 8 (pc' := 23) (ls' := [(2, .inl (q4)), (0, .inr (.inr (.ref 65))), (1, .inl (a1))]) (st' := [.inl (a1)]) (σ' := (sg_w σ 65 3 (((sg_g σ 65 3) + 1)))) rfl ?_
  have hF5 : sg_F [65, 66, 67] σ (sg_w σ 65 3 (((sg_g σ 65 3) + 1))) := (sg_F_w hF0 rfl _)
  generalize (sg_w σ 65 3 (((sg_g σ 65 3) + 1))) = σ6 at hF5 ⊢
  refine wk_ifn tt_97 (tgt := 32) rfl rfl (fun h7 => ?_) (fun h7 => ?_)
  ·
    simp only [sg_c, sg_nc] at h7
    refine wk_b tt_97 2 (pc' := 35) (ls' := [(2, .inl (q4)), (0, .inr (.inr (.ref 65))), (1, .inl (a1))]) (st' := [.inl (91), .inr (.inr (.ref 65))]) (σ' := σ6) rfl ?_
    refine wk_call tt_97 rfl rfl rfl rfl rfl tt_93 rfl (by decide) (bw_11 z σ6 (91)) (fun w8 σ9 hq10 => ?_)
    obtain ⟨rfl, hF11⟩ := hq10
    have hF12 := sg_F_t hF5 (sg_F_m (L := [65, 66, 67]) hF11 rfl)
    refine wk_b tt_97 2 (pc' := 40) (ls' := [(3, .inl (0)), (2, .inl (q4)), (0, .inr (.inr (.ref 65))), (1, .inl (a1))]) (st' := []) (σ' := σ9) rfl ?_
    have ex16 : ∀ (σ14 : sg_S), sg_F [65, 66, 67] σ σ14 → wx z 5 97 75 [(0, .inr (.inr (.ref 65)))] [] σ14 (fun v σ' => v = none ∧ sg_F [65, 66, 67] σ σ') := by
      intro σ14 hF15
      refine wk_b tt_97 2 (pc' := 78) (ls' := [(0, .inr (.inr (.ref 65)))]) (st' := [.inl (93), .inr (.inr (.ref 65))]) (σ' := σ14) rfl ?_
      refine wk_call tt_97 rfl rfl rfl rfl rfl tt_93 rfl (by decide) (bw_11 z σ14 (93)) (fun w17 σ18 hq19 => ?_)
      obtain ⟨rfl, hF20⟩ := hq19
      have hF21 := sg_F_t hF15 (sg_F_m (L := [65, 66, 67]) hF20 rfl)
      exact wk_rV tt_97 rfl rfl ⟨rfl, hF21⟩
    have lp24 : ∀ (m23 : Nat) (σ14 : sg_S) (v13 : Int), sg_F [65, 66, 67] σ σ14 → (sg_R v13) → (2147483647 - v13).toNat = m23 → wx z 5 97 40 [(0, .inr (.inr (.ref 65))), (1, .inl (a1)), (2, .inl (q4)), (3, .inl (v13))] [] σ14 (fun v σ' => v = none ∧ sg_F [65, 66, 67] σ σ') := by
      intro m23
      induction m23 using Nat.strongRecOn with
      | _ m23 ih22 =>
        intro σ14 v13 hF15 hR25 hm26
        have hR25_i := sg_id (z := v13) (by omega)
        refine wk_b tt_97 2 (pc' := 42) (ls' := [(0, .inr (.inr (.ref 65))), (1, .inl (a1)), (2, .inl (q4)), (3, .inl (v13))]) (st' := [.inl (q4), .inl (v13)]) (σ' := σ14) rfl ?_
        refine wk_if2n tt_97 (tgt := 75) rfl rfl (fun h27 => ?_) (fun h27 => ?_)
        ·
          have h27_r := sg_Rn (q4)
          have h27_q := sg_Rn (v13)
          simp only [sg_c, sg_nc] at h27
          exact wk_ls [(0, .inr (.inr (.ref 65)))] rfl ⟨rfl, trivial⟩ (ex16 σ14 hF15)
        ·
          have h27_r := sg_Rn (q4)
          have h27_q := sg_Rn (v13)
          simp only [sg_c, sg_nc] at h27
          refine wk_b tt_97 2 (pc' := 49) (ls' := [(0, .inr (.inr (.ref 65))), (1, .inl (a1)), (2, .inl (q4)), (3, .inl (v13))]) (st' := [.inl (200), .inl (v13)]) (σ' := σ14) rfl ?_
          refine wk_if2n tt_97 (tgt := 75) rfl rfl (fun h28 => ?_) (fun h28 => ?_)
          ·
            have h28_r := sg_Rn (200)
            have h28_q := sg_Rn (v13)
            have h28_l := sg_id (z := 200) (by decide)
            simp only [sg_c, sg_nc] at h28
            exact wk_ls [(0, .inr (.inr (.ref 65)))] rfl ⟨rfl, trivial⟩ (ex16 σ14 hF15)
          ·
            have h28_r := sg_Rn (200)
            have h28_q := sg_Rn (v13)
            have h28_l := sg_id (z := 200) (by decide)
            simp only [sg_c, sg_nc] at h28
            refine wk_b tt_97 1 (pc' := 53) (ls' := [(0, .inr (.inr (.ref 65))), (1, .inl (a1)), (2, .inl (q4)), (3, .inl (v13))]) (st' := [.inl (v13)]) (σ' := σ14) rfl ?_
            refine wk_ifn tt_97 (tgt := 62) rfl rfl (fun h29 => ?_) (fun h29 => ?_)
            ·
              simp only [sg_c, sg_nc] at h29
              refine wk_b tt_97 4 (pc' := 66) (ls' := [(0, .inr (.inr (.ref 65))), (1, .inl (a1)), (2, .inl (q4)), (3, .inl (v13))]) (st' := [.inl ((a1 - 1)), .inr (.inr (.ref 65))]) (σ' := σ14) rfl ?_
              refine wk_call tt_97 rfl rfl rfl rfl rfl tt_97 rfl (by decide) (bw_15 z σ14 ((a1 - 1)) (by have := sg_n_pred (x := a1) (by omega); omega)) (fun w30 σ31 hq32 => ?_)
              obtain ⟨rfl, hF33⟩ := hq32
              have hF34 := sg_F_t hF15 (sg_F_m (L := [65, 66, 67]) hF33 rfl)
              refine wk_b tt_97 2 (pc' := 40) (ls' := [(3, .inl ((v13 + 1))), (0, .inr (.inr (.ref 65))), (1, .inl (a1)), (2, .inl (q4))]) (st' := []) (σ' := σ31) rfl ?_
              refine wk_ls [(0, .inr (.inr (.ref 65))), (1, .inl (a1)), (2, .inl (q4)), (3, .inl ((v13 + 1)))] rfl ⟨rfl, rfl, rfl, rfl, trivial⟩ (ih22 _ ?_ σ31 ((v13 + 1)) hF34 ?_ rfl)
              · omega
              · omega
            ·
              simp only [sg_c, sg_nc] at h29
              refine wk_b tt_97 2 (pc' := 59) (ls' := [(0, .inr (.inr (.ref 65))), (1, .inl (a1)), (2, .inl (q4)), (3, .inl (v13))]) (st' := [.inl (44), .inr (.inr (.ref 65))]) (σ' := σ14) rfl ?_
              refine wk_call tt_97 rfl rfl rfl rfl rfl tt_93 rfl (by decide) (bw_11 z σ14 (44)) (fun w35 σ36 hq37 => ?_)
              obtain ⟨rfl, hF38⟩ := hq37
              have hF39 := sg_F_t hF15 (sg_F_m (L := [65, 66, 67]) hF38 rfl)
              refine wk_b tt_97 4 (pc' := 66) (ls' := [(0, .inr (.inr (.ref 65))), (1, .inl (a1)), (2, .inl (q4)), (3, .inl (v13))]) (st' := [.inl ((a1 - 1)), .inr (.inr (.ref 65))]) (σ' := σ36) rfl ?_
              refine wk_call tt_97 rfl rfl rfl rfl rfl tt_97 rfl (by decide) (bw_15 z σ36 ((a1 - 1)) (by have := sg_n_pred (x := a1) (by omega); omega)) (fun w40 σ41 hq42 => ?_)
              obtain ⟨rfl, hF43⟩ := hq42
              have hF44 := sg_F_t hF39 (sg_F_m (L := [65, 66, 67]) hF43 rfl)
              refine wk_b tt_97 2 (pc' := 40) (ls' := [(3, .inl ((v13 + 1))), (0, .inr (.inr (.ref 65))), (1, .inl (a1)), (2, .inl (q4))]) (st' := []) (σ' := σ41) rfl ?_
              refine wk_ls [(0, .inr (.inr (.ref 65))), (1, .inl (a1)), (2, .inl (q4)), (3, .inl ((v13 + 1)))] rfl ⟨rfl, rfl, rfl, rfl, trivial⟩ (ih22 _ ?_ σ41 ((v13 + 1)) hF44 ?_ rfl)
              · omega
              · omega
    refine wk_ls [(0, .inr (.inr (.ref 65))), (1, .inl (a1)), (2, .inl (q4)), (3, .inl (0))] rfl ⟨rfl, rfl, rfl, rfl, trivial⟩ ?_
    exact lp24 _ σ9 (0) hF12 (by omega) rfl
  ·
    simp only [sg_c, sg_nc] at h7
    refine wk_b tt_97 2 (pc' := 28) (ls' := [(2, .inl (q4)), (0, .inr (.inr (.ref 65))), (1, .inl (a1))]) (st' := [.inl (q4), .inr (.inr (.ref 65))]) (σ' := σ6) rfl ?_
    refine wk_call tt_97 rfl rfl rfl rfl rfl tt_94 rfl (by decide) (bw_12 z σ6 (q4)) (fun w45 σ46 hq47 => ?_)
    obtain ⟨rfl, hF48⟩ := hq47
    have hF49 := sg_F_t hF5 (sg_F_m (L := [65, 66, 67]) hF48 rfl)
    exact wk_rV tt_97 rfl rfl ⟨rfl, hF49⟩
