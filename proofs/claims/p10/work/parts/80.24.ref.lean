/-! Conditions of the reference's methods, by program (24). -/
-- NestedVectorsModel.show
def V_show (σ : sg_S) (a1 : Int) (Q : sg_S → Prop) : Prop := (0 ≤ (sg_g σ 88 78) ∧ (sg_g σ 88 78) < 160000) ∧ ∀ σ2, σ2 = (sg_w σ 136 ((sg_g σ 88 78)) (a1)) → sg_R ((sg_g σ 88 78) + 1) ∧ ∀ σ6, σ6 = (sg_w σ2 88 78 (((sg_g σ 88 78) + 1))) → Q σ6
set_option maxHeartbeats 4000000 in
set_option maxRecDepth 8000 in
theorem w_show (z : Value) (σ : sg_S) (a1 : Int) (Q : sg_S → Prop) (ra1 : sg_R a1) (w : V_show σ a1 Q) : wx z 0 324 0 [(0, .inr (.inr (.ref 88))), (1, .inl (a1))] [] σ (fun v σ' => v = none ∧ sg_F [136, 79088] σ σ' ∧ Q σ') := by
  unfold V_show at w
  refine wk_b tt_324 5 (pc' := 9) (ls' := [(0, .inr (.inr (.ref 88))), (1, .inl (a1))]) (st' := [.inl (a1), .inl ((sg_g σ 88 78)), .inr (.inr (.ref 136))]) (σ' := σ) rfl ?_
  obtain ⟨c1, w⟩ := w
  refine wk_is tt_324 rfl rfl c1.1 c1.2 (sg_Rg _ _ _) ?_
  generalize hs3 : (sg_w σ 136 ((sg_g σ 88 78)) (a1)) = σ2
  have w := w σ2 hs3.symm
  have hF4 : sg_F [136] σ σ2 := by rw [← hs3]; exact sg_F_w (sg_F_r _ _) rfl _
  obtain ⟨c5, w⟩ := w
  refine wk_b tt_324 6 (pc' := 20) (ls' := [(0, .inr (.inr (.ref 88))), (1, .inl (a1))]) (st' := []) (σ' := (sg_w σ2 88 78 (((sg_g σ2 88 78) + 1)))) rfl ?_
  rw [show (sg_g σ2 88 78) = (sg_g σ 88 78) from by rw [sg_F_ga hF4 rfl]]
  generalize hs7 : (sg_w σ2 88 78 (((sg_g σ 88 78) + 1))) = σ6
  have w := w σ6 hs7.symm
  have hF8 : sg_F [79088] σ2 σ6 := by rw [← hs7]; exact sg_F_w (sg_F_r _ _) rfl _
  exact wk_rV tt_324 rfl rfl ⟨rfl, (sg_F_t (sg_F_t (sg_F_r [136, 79088] σ) (sg_F_m (L := [136, 79088]) hF4 rfl)) (sg_F_m (L := [136, 79088]) hF8 rfl)), w⟩
-- NestedVectorsModel.showNumber
def V_showNumber (σ : sg_S) (a1 : Int) (Q : sg_S → Prop) : Prop := ((0 ≤ a1 → True) ∧ (a1 < 0 → sg_RL (-a1) ∧ True)) ∧ ∀ v3 : Int, v3 = (if 0 ≤ a1 then a1 else (-a1)) → sg_RL v3 → (∃ P8 : sg_S → Prop, ((0 ≤ a1 → P8 σ) ∧ (a1 < 0 → V_show σ (45) (fun σ67 => sg_F [136, 79088] σ σ67 → P8 σ67))) ∧ (∀ (σ9 : sg_S), sg_F [136, 79088] σ σ9 → P8 σ9 → (∃ (I15 : Nat → Int → Prop) (X17 : Int → Prop), (∃ n, I15 n (1)) ∧ (∀ (n25 : Nat) (v12 : Int), sg_RL v12 → I15 n25 v12 → sg_RL (v12 * 10) ∧ ((v3 < (v12 * 10) → X17 (v12)) ∧ ((v12 * 10) ≤ v3 → (∃ m, m < n25 ∧ I15 m ((v12 * 10)))))) ∧ (∀ (v12 : Int), sg_RL v12 → X17 v12 → ((v12 ≤ 0 → Q σ9) ∧ (0 < v12 → (¬ v12 = 0) ∧ sg_RL (48 + ((sg_l (((sg_l (v3) / sg_l (v12)).toInt)) - sg_l (((sg_l (v3) / sg_l (v12)).toInt)) / sg_l (10) * sg_l (10)).toInt)) ∧ sg_R ((48 + ((sg_l (((sg_l (v3) / sg_l (v12)).toInt)) - sg_l (((sg_l (v3) / sg_l (v12)).toInt)) / sg_l (10) * sg_l (10)).toInt))) ∧ V_show σ9 ((48 + ((sg_l (((sg_l (v3) / sg_l (v12)).toInt)) - sg_l (((sg_l (v3) / sg_l (v12)).toInt)) / sg_l (10) * sg_l (10)).toInt))) (fun σ32 => sg_F [136, 79088] σ9 σ32 → (∃ (I40 : Nat → Int → sg_S → Prop) (X42 : sg_S → Prop), (∃ n, I40 n (((sg_l (v12) / sg_l (10)).toInt)) σ32) ∧ (∀ (n50 : Nat) (v37 : Int) (σ38 : sg_S), sg_RL v37 → sg_F [136, 79088] σ32 σ38 → I40 n50 v37 σ38 → ((v37 ≤ 0 → X42 σ38) ∧ (0 < v37 → (¬ v37 = 0) ∧ sg_RL (48 + ((sg_l (((sg_l (v3) / sg_l (v37)).toInt)) - sg_l (((sg_l (v3) / sg_l (v37)).toInt)) / sg_l (10) * sg_l (10)).toInt)) ∧ sg_R ((48 + ((sg_l (((sg_l (v3) / sg_l (v37)).toInt)) - sg_l (((sg_l (v3) / sg_l (v37)).toInt)) / sg_l (10) * sg_l (10)).toInt))) ∧ V_show σ38 ((48 + ((sg_l (((sg_l (v3) / sg_l (v37)).toInt)) - sg_l (((sg_l (v3) / sg_l (v37)).toInt)) / sg_l (10) * sg_l (10)).toInt))) (fun σ57 => sg_F [136, 79088] σ38 σ57 → (∃ m, m < n50 ∧ I40 m (((sg_l (v37) / sg_l (10)).toInt)) σ57))))) ∧ (∀ (σ38 : sg_S), sg_F [136, 79088] σ32 σ38 → X42 σ38 → Q σ38)))))))))
set_option maxHeartbeats 4000000 in
set_option maxRecDepth 8000 in
theorem w_showNumber (z : Value) (σ : sg_S) (a1 : Int) (Q : sg_S → Prop) (ra1 : sg_R a1) (w : V_showNumber σ a1 Q) : wx z 1 327 0 [(0, .inr (.inr (.ref 88))), (1, .inl (a1))] [] σ (fun v σ' => v = none ∧ sg_F [136, 79088] σ σ' ∧ Q σ') := by
  unfold V_showNumber at w
  refine wk_b tt_327 1 (pc' := 1) (ls' := [(0, .inr (.inr (.ref 88))), (1, .inl (a1))]) (st' := [.inl (a1)]) (σ' := σ) rfl ?_
  obtain ⟨wp, w⟩ := w
  have jn2 : ∀ v3 : Int, v3 = (if 0 ≤ a1 then a1 else (-a1)) → sg_RL v3 → wx z 1 327 12 [(0, .inr (.inr (.ref 88))), (1, .inl (a1))] [.inr (.inl (v3))] σ (fun v σ' => v = none ∧ sg_F [136, 79088] σ σ' ∧ Q σ') := by
    intro v3 e5 r4
    have w := w v3 e5 r4
    refine wk_b tt_327 2 (pc' := 14) (ls' := [(2, .inr (.inl (v3))), (0, .inr (.inr (.ref 88))), (1, .inl (a1))]) (st' := [.inl (a1)]) (σ' := σ) rfl ?_
    obtain ⟨P8, w, w11⟩ := w
    have jn7 : ∀ (σ9 : sg_S), sg_F [136, 79088] σ σ9 → P8 σ9 → wx z 1 327 23 [(0, .inr (.inr (.ref 88))), (2, .inr (.inl (v3)))] [] σ9 (fun v σ' => v = none ∧ sg_F [136, 79088] σ σ' ∧ Q σ') := by
      intro σ9 hF10 w
      have w := w11 σ9 hF10 w
      refine wk_b tt_327 2 (pc' := 26) (ls' := [(4, .inr (.inl (1))), (0, .inr (.inr (.ref 88))), (2, .inr (.inl (v3)))]) (st' := []) (σ' := σ9) rfl ?_
      obtain ⟨I15, X17, ⟨μ16, w22⟩, w23, w24⟩ := w
      have ex26 : ∀ (v12 : Int), sg_RL v12 → X17 v12 → wx z 1 327 48 [(0, .inr (.inr (.ref 88))), (2, .inr (.inl (v3))), (4, .inr (.inl (v12)))] [] σ9 (fun v σ' => v = none ∧ sg_F [136, 79088] σ σ' ∧ Q σ') := by
        intro v12 r18 w
        have w := w24 v12 r18 w
        refine wk_b tt_327 2 (pc' := 51) (ls' := [(0, .inr (.inr (.ref 88))), (2, .inr (.inl (v3))), (4, .inr (.inl (v12)))]) (st' := [.inr (.inl (0)), .inr (.inl (v12))]) (σ' := σ9) rfl ?_
        refine wk_lcif tt_327 (tgt := 83) rfl rfl rfl r18 (by decide) (fun (h27 : v12 ≤ 0) => ?_) (fun (h27 : 0 < v12) => ?_)
        ·
          have w := w.1 h27
          exact wk_rV tt_327 rfl rfl ⟨rfl, (sg_F_t (sg_F_r [136, 79088] σ) (sg_F_m (L := [136, 79088]) hF10 rfl)), w⟩
        ·
          have w := w.2 h27
          refine wk_b tt_327 4 (pc' := 62) (ls' := [(0, .inr (.inr (.ref 88))), (2, .inr (.inl (v3))), (4, .inr (.inl (v12)))]) (st' := [.inr (.inl (v12)), .inr (.inl (v3)), .inr (.inl (48)), .inr (.inr (.ref 88))]) (σ' := σ9) rfl ?_
          obtain ⟨c28, w⟩ := w
          refine wk_ldiv tt_327 rfl (by rw [sg_idl r18]; exact c28) ?_
          refine wk_b tt_327 1 (pc' := 66) (ls' := [(0, .inr (.inr (.ref 88))), (2, .inr (.inl (v3))), (4, .inr (.inl (v12)))]) (st' := [.inr (.inl (10)), .inr (.inl (((sg_l (v3) / sg_l (v12)).toInt))), .inr (.inl (48)), .inr (.inr (.ref 88))]) (σ' := σ9) rfl ?_
          refine wk_lrem tt_327 rfl (by decide) ?_
          obtain ⟨c29, w⟩ := w
          obtain ⟨c30, w⟩ := w
          refine wk_b tt_327 2 (pc' := 69) (ls' := [(0, .inr (.inr (.ref 88))), (2, .inr (.inl (v3))), (4, .inr (.inl (v12)))]) (st' := [.inl ((48 + ((sg_l (((sg_l (v3) / sg_l (v12)).toInt)) - sg_l (((sg_l (v3) / sg_l (v12)).toInt)) / sg_l (10) * sg_l (10)).toInt))), .inr (.inr (.ref 88))]) (σ' := σ9) rfl ?_
          refine wk_call tt_327 rfl rfl rfl rfl rfl tt_324 rfl (by decide) (w_show z σ9 ((48 + ((sg_l (((sg_l (v3) / sg_l (v12)).toInt)) - sg_l (((sg_l (v3) / sg_l (v12)).toInt)) / sg_l (10) * sg_l (10)).toInt))) _ c30 w) (fun u36 σ32 hq34 => ?_)
          obtain ⟨rfl, hF33, w⟩ := hq34
          have w := w hF33
          refine wk_b tt_327 2 (pc' := 77) (ls' := [(0, .inr (.inr (.ref 88))), (2, .inr (.inl (v3))), (4, .inr (.inl (v12)))]) (st' := [.inr (.inl (10)), .inr (.inl (v12))]) (σ' := σ32) rfl ?_
          refine wk_ldiv tt_327 rfl (by decide) ?_
          refine wk_b tt_327 2 (pc' := 48) (ls' := [(4, .inr (.inl (((sg_l (v12) / sg_l (10)).toInt)))), (0, .inr (.inr (.ref 88))), (2, .inr (.inl (v3)))]) (st' := []) (σ' := σ32) rfl ?_
          obtain ⟨I40, X42, ⟨μ41, w47⟩, w48, w49⟩ := w
          have ex51 : ∀ (σ38 : sg_S), sg_F [136, 79088] σ32 σ38 → X42 σ38 → wx z 1 327 83 [] [] σ38 (fun v σ' => v = none ∧ sg_F [136, 79088] σ σ' ∧ Q σ') := by
            intro σ38 hF39 w
            have w := w49 σ38 hF39 w
            exact wk_rV tt_327 rfl rfl ⟨rfl, (sg_F_t (sg_F_t (sg_F_t (sg_F_r [136, 79088] σ) (sg_F_m (L := [136, 79088]) hF10 rfl)) (sg_F_m (L := [136, 79088]) hF33 rfl)) (sg_F_m (L := [136, 79088]) hF39 rfl)), w⟩
          have lp46 : ∀ (n50 : Nat) (v37 : Int) (σ38 : sg_S), sg_RL v37 → sg_F [136, 79088] σ32 σ38 → I40 n50 v37 σ38 → wx z 1 327 48 [(0, .inr (.inr (.ref 88))), (2, .inr (.inl (v3))), (4, .inr (.inl (v37)))] [] σ38 (fun v σ' => v = none ∧ sg_F [136, 79088] σ σ' ∧ Q σ') := by
            intro n50
            induction n50 using Nat.strongRecOn with
            | _ n50 ih44 =>
              intro v37 σ38 r43 hF39 w
              have w := w48 n50 v37 σ38 r43 hF39 w
              refine wk_b tt_327 2 (pc' := 51) (ls' := [(0, .inr (.inr (.ref 88))), (2, .inr (.inl (v3))), (4, .inr (.inl (v37)))]) (st' := [.inr (.inl (0)), .inr (.inl (v37))]) (σ' := σ38) rfl ?_
              refine wk_lcif tt_327 (tgt := 83) rfl rfl rfl r43 (by decide) (fun (h52 : v37 ≤ 0) => ?_) (fun (h52 : 0 < v37) => ?_)
              ·
                have w := w.1 h52
                exact wk_ls [] rfl trivial (ex51  σ38  (sg_F_t (sg_F_r [136, 79088] σ32) (sg_F_m (L := [136, 79088]) hF39 rfl)) w)
              ·
                have w := w.2 h52
                refine wk_b tt_327 4 (pc' := 62) (ls' := [(0, .inr (.inr (.ref 88))), (2, .inr (.inl (v3))), (4, .inr (.inl (v37)))]) (st' := [.inr (.inl (v37)), .inr (.inl (v3)), .inr (.inl (48)), .inr (.inr (.ref 88))]) (σ' := σ38) rfl ?_
                obtain ⟨c53, w⟩ := w
                refine wk_ldiv tt_327 rfl (by rw [sg_idl r43]; exact c53) ?_
                refine wk_b tt_327 1 (pc' := 66) (ls' := [(0, .inr (.inr (.ref 88))), (2, .inr (.inl (v3))), (4, .inr (.inl (v37)))]) (st' := [.inr (.inl (10)), .inr (.inl (((sg_l (v3) / sg_l (v37)).toInt))), .inr (.inl (48)), .inr (.inr (.ref 88))]) (σ' := σ38) rfl ?_
                refine wk_lrem tt_327 rfl (by decide) ?_
                obtain ⟨c54, w⟩ := w
                obtain ⟨c55, w⟩ := w
                refine wk_b tt_327 2 (pc' := 69) (ls' := [(0, .inr (.inr (.ref 88))), (2, .inr (.inl (v3))), (4, .inr (.inl (v37)))]) (st' := [.inl ((48 + ((sg_l (((sg_l (v3) / sg_l (v37)).toInt)) - sg_l (((sg_l (v3) / sg_l (v37)).toInt)) / sg_l (10) * sg_l (10)).toInt))), .inr (.inr (.ref 88))]) (σ' := σ38) rfl ?_
                refine wk_call tt_327 rfl rfl rfl rfl rfl tt_324 rfl (by decide) (w_show z σ38 ((48 + ((sg_l (((sg_l (v3) / sg_l (v37)).toInt)) - sg_l (((sg_l (v3) / sg_l (v37)).toInt)) / sg_l (10) * sg_l (10)).toInt))) _ c55 w) (fun u61 σ57 hq59 => ?_)
                obtain ⟨rfl, hF58, w⟩ := hq59
                have w := w hF58
                refine wk_b tt_327 2 (pc' := 77) (ls' := [(0, .inr (.inr (.ref 88))), (2, .inr (.inl (v3))), (4, .inr (.inl (v37)))]) (st' := [.inr (.inl (10)), .inr (.inl (v37))]) (σ' := σ57) rfl ?_
                refine wk_ldiv tt_327 rfl (by decide) ?_
                refine wk_b tt_327 2 (pc' := 48) (ls' := [(4, .inr (.inl (((sg_l (v37) / sg_l (10)).toInt)))), (0, .inr (.inr (.ref 88))), (2, .inr (.inl (v3)))]) (st' := []) (σ' := σ57) rfl ?_
                obtain ⟨m62, hm62, w⟩ := w
                exact wk_ls [(0, .inr (.inr (.ref 88))), (2, .inr (.inl (v3))), (4, .inr (.inl (((sg_l (v37) / sg_l (10)).toInt))))] rfl ⟨rfl, rfl, rfl, trivial⟩ (ih44 m62 hm62 (((sg_l (v37) / sg_l (10)).toInt)) σ57 (sg_RLr _) (sg_F_t (sg_F_t (sg_F_r [136, 79088] σ32) (sg_F_m (L := [136, 79088]) hF39 rfl)) (sg_F_m (L := [136, 79088]) hF58 rfl)) w)
          exact wk_ls [(0, .inr (.inr (.ref 88))), (2, .inr (.inl (v3))), (4, .inr (.inl (((sg_l (v12) / sg_l (10)).toInt))))] rfl ⟨rfl, rfl, rfl, trivial⟩ (lp46 μ41 (((sg_l (v12) / sg_l (10)).toInt)) σ32 (sg_RLr _) (sg_F_r _ _) w47)
      have lp21 : ∀ (n25 : Nat) (v12 : Int), sg_RL v12 → I15 n25 v12 → wx z 1 327 26 [(0, .inr (.inr (.ref 88))), (2, .inr (.inl (v3))), (4, .inr (.inl (v12)))] [] σ9 (fun v σ' => v = none ∧ sg_F [136, 79088] σ σ' ∧ Q σ') := by
        intro n25
        induction n25 using Nat.strongRecOn with
        | _ n25 ih19 =>
          intro v12 r18 w
          have w := w23 n25 v12 r18 w
          obtain ⟨c63, w⟩ := w
          refine wk_b tt_327 4 (pc' := 33) (ls' := [(0, .inr (.inr (.ref 88))), (2, .inr (.inl (v3))), (4, .inr (.inl (v12)))]) (st' := [.inr (.inl (v3)), .inr (.inl ((v12 * 10)))]) (σ' := σ9) rfl ?_
          refine wk_lcif tt_327 (tgt := 48) rfl rfl rfl c63 r4 (fun (h64 : v3 < (v12 * 10)) => ?_) (fun (h64 : (v12 * 10) ≤ v3) => ?_)
          ·
            have w := w.1 h64
            exact wk_ls [(0, .inr (.inr (.ref 88))), (2, .inr (.inl (v3))), (4, .inr (.inl (v12)))] rfl ⟨rfl, rfl, rfl, trivial⟩ (ex26 (v12)  r18  w)
          ·
            have w := w.2 h64
            refine wk_b tt_327 5 (pc' := 26) (ls' := [(4, .inr (.inl ((v12 * 10)))), (0, .inr (.inr (.ref 88))), (2, .inr (.inl (v3)))]) (st' := []) (σ' := σ9) rfl ?_
            obtain ⟨m65, hm65, w⟩ := w
            exact wk_ls [(0, .inr (.inr (.ref 88))), (2, .inr (.inl (v3))), (4, .inr (.inl ((v12 * 10))))] rfl ⟨rfl, rfl, rfl, trivial⟩ (ih19 m65 hm65 ((v12 * 10))  c63  w)
      exact wk_ls [(0, .inr (.inr (.ref 88))), (2, .inr (.inl (v3))), (4, .inr (.inl (1)))] rfl ⟨rfl, rfl, rfl, trivial⟩ (lp21 μ16 (1)  (by decide)  w22)
    refine wk_if tt_327 (tgt := 23) rfl rfl ra1 (fun (h6 : 0 ≤ a1) => ?_) (fun (h6 : a1 < 0) => ?_)
    ·
      have w := w.1 h6
      exact wk_ls [(0, .inr (.inr (.ref 88))), (2, .inr (.inl (v3)))] rfl ⟨rfl, rfl, trivial⟩ (jn7 σ (sg_F_r [136, 79088] σ) w)
    ·
      have w := w.2 h6
      refine wk_b tt_327 2 (pc' := 20) (ls' := [(2, .inr (.inl (v3))), (0, .inr (.inr (.ref 88))), (1, .inl (a1))]) (st' := [.inl (45), .inr (.inr (.ref 88))]) (σ' := σ) rfl ?_
      refine wk_call tt_327 rfl rfl rfl rfl rfl tt_324 rfl (by decide) (w_show z σ (45) _ (by decide) w) (fun u71 σ67 hq69 => ?_)
      obtain ⟨rfl, hF68, w⟩ := hq69
      have w := w hF68
      exact wk_ls [(0, .inr (.inr (.ref 88))), (2, .inr (.inl (v3)))] rfl ⟨rfl, rfl, trivial⟩ (jn7 σ67 (sg_F_t (sg_F_r [136, 79088] σ) (sg_F_m (L := [136, 79088]) hF68 rfl)) w)
  have w := wp
  refine wk_if tt_327 (tgt := 10) rfl rfl ra1 (fun (h1 : 0 ≤ a1) => ?_) (fun (h1 : a1 < 0) => ?_)
  ·
    have w := w.1 h1
    refine wk_b tt_327 2 (pc' := 12) (ls' := [(0, .inr (.inr (.ref 88))), (1, .inl (a1))]) (st' := [.inr (.inl ((sg_n (a1))))]) (σ' := σ) rfl ?_
    rw [show (sg_n (a1)) = a1 from by rw [sg_id ra1]]
    exact wk_ls [(0, .inr (.inr (.ref 88))), (1, .inl (a1))] rfl ⟨rfl, rfl, trivial⟩ (jn2 (a1) (by simp only [if_pos h1]) (sg_Rgl2 ra1))
  ·
    have w := w.2 h1
    obtain ⟨c72, w⟩ := w
    refine wk_b tt_327 4 (pc' := 12) (ls' := [(0, .inr (.inr (.ref 88))), (1, .inl (a1))]) (st' := [.inr (.inl ((-(sg_n (a1)))))]) (σ' := σ) rfl ?_
    rw [show (sg_n (a1)) = a1 from by rw [sg_id ra1]]
    exact wk_ls [(0, .inr (.inr (.ref 88))), (1, .inl (a1))] rfl ⟨rfl, rfl, trivial⟩ (jn2 ((-a1)) (by simp only [if_neg (show ¬ (0 ≤ a1) by omega)]) c72)
-- NestedVectorsModel.showFlat
def V_showFlat (σ : sg_S) (Q : sg_S → Prop) : Prop := ∀ σ1, σ1 = (sg_w σ 88 78 (80000)) → ((¬ (sg_g σ 88 83) = 0 → ((¬ (sg_g σ 88 83) = 0 → ∀ σ6, σ6 = (sg_w σ1 88 77 (0)) → Q σ6) ∧ ((sg_g σ 88 83) = 0 → (∃ (I12 : Nat → Int → sg_S → Prop) (X14 : sg_S → Prop), (∃ n, I12 n (0) σ1) ∧ (∀ (n22 : Nat) (v9 : Int) (σ10 : sg_S), sg_R v9 → sg_F [151] σ1 σ10 → I12 n22 v9 σ10 → ((5 ≤ v9 → X14 σ10) ∧ (v9 < 5 → (0 ≤ v9 ∧ v9 < 5) ∧ ∀ σ126, σ126 = (sg_w σ10 151 (v9) (0)) → sg_R (v9 + 1) ∧ (∃ m, m < n22 ∧ I12 m ((v9 + 1)) σ126)))) ∧ (∀ (σ10 : sg_S), sg_F [151] σ1 σ10 → X14 σ10 → p_rowAt σ ((sg_g σ 133 (0))) (0) ∧ ∀ σ26, σ26 = (sg_w σ10 137 (0) ((v_rowAt σ ((sg_g σ 133 (0))) (0)))) → ∀ σ29, σ29 = (sg_w σ26 138 (0) (0)) → V_show σ29 (91) (fun σ33 => sg_F [136, 79088] σ29 σ33 → (∃ (I41 : Nat → Int → sg_S → Prop) (X43 : sg_S → Prop), (∃ n, I41 n (1) σ33) ∧ (∀ (n51 : Nat) (v38 : Int) (σ39 : sg_S), sg_R v38 → sg_F [136, 137, 138, 151, 79088] σ33 σ39 → I41 n51 v38 σ39 → ((v38 ≤ 0 → X43 σ39) ∧ (0 < v38 → sg_R (v38 - 1) ∧ (0 ≤ (v38 - 1) ∧ (v38 - 1) < 4) ∧ (∃ P62 : Int → sg_S → Prop, ((¬ (sg_g σ39 138 ((v38 - 1))) = (sg_g σ39 137 ((v38 - 1))) → (∃ P71 : sg_S → Prop, (((sg_g σ39 138 ((v38 - 1))) ≤ 0 → P71 σ39) ∧ (0 < (sg_g σ39 138 ((v38 - 1))) → V_show σ39 (44) (fun σ112 => sg_F [136, 79088] σ39 σ112 → P71 σ112))) ∧ (∀ (σ72 : sg_S), sg_F [136, 79088] σ39 σ72 → P71 σ72 → sg_R ((sg_g σ39 138 ((v38 - 1))) + 1) ∧ ∀ σ76, σ76 = (sg_w σ72 138 ((v38 - 1)) (((sg_g σ39 138 ((v38 - 1))) + 1))) → sg_R (4 * (sg_g σ 133 (0))) ∧ sg_R ((4 * (sg_g σ 133 (0))) + v38) ∧ (0 ≤ ((4 * (sg_g σ 133 (0))) + v38) ∧ ((4 * (sg_g σ 133 (0))) + v38) < 120000) ∧ (0 ≤ v38 ∧ v38 < 5) ∧ sg_R ((sg_g σ 140 (((4 * (sg_g σ 133 (0))) + v38))) + (sg_g σ39 151 (v38))) ∧ (0 ≤ ((sg_g σ 140 (((4 * (sg_g σ 133 (0))) + v38))) + (sg_g σ39 151 (v38))) ∧ ((sg_g σ 140 (((4 * (sg_g σ 133 (0))) + v38))) + (sg_g σ39 151 (v38))) < 60000) ∧ sg_R ((sg_g σ39 151 (v38)) + 1) ∧ ∀ σ86, σ86 = (sg_w σ76 151 (v38) (((sg_g σ39 151 (v38)) + 1))) → (0 ≤ (sg_g σ 88 27) ∧ (sg_g σ 88 27) < 210) ∧ ((¬ v38 = (sg_g σ 101 ((sg_g σ 88 27))) → (0 ≤ v38 ∧ v38 < 4) ∧ ∀ σ92, σ92 = (sg_w σ86 137 (v38) ((sg_g σ 142 (((sg_g σ 140 (((4 * (sg_g σ 133 (0))) + v38))) + (sg_g σ39 151 (v38))))))) → ∀ σ95, σ95 = (sg_w σ92 138 (v38) (0)) → V_show σ95 (91) (fun σ99 => sg_F [136, 79088] σ95 σ99 → sg_R (v38 + 1) ∧ P62 ((v38 + 1)) σ99)) ∧ (v38 = (sg_g σ 101 ((sg_g σ 88 27))) → V_showNumber σ86 ((sg_g σ 142 (((sg_g σ 140 (((4 * (sg_g σ 133 (0))) + v38))) + (sg_g σ39 151 (v38)))))) (fun σ106 => sg_F [136, 79088] σ86 σ106 → P62 (v38) σ106)))))) ∧ ((sg_g σ39 138 ((v38 - 1))) = (sg_g σ39 137 ((v38 - 1))) → V_show σ39 (93) (fun σ118 => sg_F [136, 79088] σ39 σ118 → sg_R (v38 + (-1)) ∧ P62 ((v38 + (-1))) σ118))) ∧ (∀ (v65 : Int) (σ63 : sg_S), sg_R v65 → sg_F [136, 137, 138, 151, 79088] σ39 σ63 → P62 v65 σ63 → (∃ m, m < n51 ∧ I41 m (v65) σ63)))))) ∧ (∀ (σ39 : sg_S), sg_F [136, 137, 138, 151, 79088] σ33 σ39 → X43 σ39 → sg_R ((sg_g σ39 88 78) - 80000) ∧ ∀ σ54, σ54 = (sg_w σ39 88 77 (((sg_g σ39 88 78) - 80000))) → Q σ54)))))))) ∧ ((sg_g σ 88 83) = 0 → (0 ≤ (sg_g σ 88 27) ∧ (sg_g σ 88 27) < 210) ∧ ((¬ (sg_g σ 101 ((sg_g σ 88 27))) = 0 → ((¬ (sg_g σ 88 83) = 0 → ∀ σ134, σ134 = (sg_w σ1 88 77 (0)) → Q σ134) ∧ ((sg_g σ 88 83) = 0 → (∃ (I140 : Nat → Int → sg_S → Prop) (X142 : sg_S → Prop), (∃ n, I140 n (0) σ1) ∧ (∀ (n150 : Nat) (v137 : Int) (σ138 : sg_S), sg_R v137 → sg_F [151] σ1 σ138 → I140 n150 v137 σ138 → ((5 ≤ v137 → X142 σ138) ∧ (v137 < 5 → (0 ≤ v137 ∧ v137 < 5) ∧ ∀ σ253, σ253 = (sg_w σ138 151 (v137) (0)) → sg_R (v137 + 1) ∧ (∃ m, m < n150 ∧ I140 m ((v137 + 1)) σ253)))) ∧ (∀ (σ138 : sg_S), sg_F [151] σ1 σ138 → X142 σ138 → p_rowAt σ ((sg_g σ 133 (0))) (0) ∧ ∀ σ154, σ154 = (sg_w σ138 137 (0) ((v_rowAt σ ((sg_g σ 133 (0))) (0)))) → ∀ σ157, σ157 = (sg_w σ154 138 (0) (0)) → V_show σ157 (91) (fun σ161 => sg_F [136, 79088] σ157 σ161 → (∃ (I169 : Nat → Int → sg_S → Prop) (X171 : sg_S → Prop), (∃ n, I169 n (1) σ161) ∧ (∀ (n179 : Nat) (v166 : Int) (σ167 : sg_S), sg_R v166 → sg_F [136, 137, 138, 151, 79088] σ161 σ167 → I169 n179 v166 σ167 → ((v166 ≤ 0 → X171 σ167) ∧ (0 < v166 → sg_R (v166 - 1) ∧ (0 ≤ (v166 - 1) ∧ (v166 - 1) < 4) ∧ (∃ P190 : Int → sg_S → Prop, ((¬ (sg_g σ167 138 ((v166 - 1))) = (sg_g σ167 137 ((v166 - 1))) → (∃ P199 : sg_S → Prop, (((sg_g σ167 138 ((v166 - 1))) ≤ 0 → P199 σ167) ∧ (0 < (sg_g σ167 138 ((v166 - 1))) → V_show σ167 (44) (fun σ239 => sg_F [136, 79088] σ167 σ239 → P199 σ239))) ∧ (∀ (σ200 : sg_S), sg_F [136, 79088] σ167 σ200 → P199 σ200 → sg_R ((sg_g σ167 138 ((v166 - 1))) + 1) ∧ ∀ σ204, σ204 = (sg_w σ200 138 ((v166 - 1)) (((sg_g σ167 138 ((v166 - 1))) + 1))) → sg_R (4 * (sg_g σ 133 (0))) ∧ sg_R ((4 * (sg_g σ 133 (0))) + v166) ∧ (0 ≤ ((4 * (sg_g σ 133 (0))) + v166) ∧ ((4 * (sg_g σ 133 (0))) + v166) < 120000) ∧ (0 ≤ v166 ∧ v166 < 5) ∧ sg_R ((sg_g σ 140 (((4 * (sg_g σ 133 (0))) + v166))) + (sg_g σ167 151 (v166))) ∧ (0 ≤ ((sg_g σ 140 (((4 * (sg_g σ 133 (0))) + v166))) + (sg_g σ167 151 (v166))) ∧ ((sg_g σ 140 (((4 * (sg_g σ 133 (0))) + v166))) + (sg_g σ167 151 (v166))) < 60000) ∧ sg_R ((sg_g σ167 151 (v166)) + 1) ∧ ∀ σ214, σ214 = (sg_w σ204 151 (v166) (((sg_g σ167 151 (v166)) + 1))) → ((¬ v166 = (sg_g σ 101 ((sg_g σ 88 27))) → (0 ≤ v166 ∧ v166 < 4) ∧ ∀ σ219, σ219 = (sg_w σ214 137 (v166) ((sg_g σ 142 (((sg_g σ 140 (((4 * (sg_g σ 133 (0))) + v166))) + (sg_g σ167 151 (v166))))))) → ∀ σ222, σ222 = (sg_w σ219 138 (v166) (0)) → V_show σ222 (91) (fun σ226 => sg_F [136, 79088] σ222 σ226 → sg_R (v166 + 1) ∧ P190 ((v166 + 1)) σ226)) ∧ (v166 = (sg_g σ 101 ((sg_g σ 88 27))) → V_showNumber σ214 ((sg_g σ 142 (((sg_g σ 140 (((4 * (sg_g σ 133 (0))) + v166))) + (sg_g σ167 151 (v166)))))) (fun σ233 => sg_F [136, 79088] σ214 σ233 → P190 (v166) σ233)))))) ∧ ((sg_g σ167 138 ((v166 - 1))) = (sg_g σ167 137 ((v166 - 1))) → V_show σ167 (93) (fun σ245 => sg_F [136, 79088] σ167 σ245 → sg_R (v166 + (-1)) ∧ P190 ((v166 + (-1))) σ245))) ∧ (∀ (v193 : Int) (σ191 : sg_S), sg_R v193 → sg_F [136, 137, 138, 151, 79088] σ167 σ191 → P190 v193 σ191 → (∃ m, m < n179 ∧ I169 m (v193) σ191)))))) ∧ (∀ (σ167 : sg_S), sg_F [136, 137, 138, 151, 79088] σ161 σ167 → X171 σ167 → sg_R ((sg_g σ167 88 78) - 80000) ∧ ∀ σ182, σ182 = (sg_w σ167 88 77 (((sg_g σ167 88 78) - 80000))) → Q σ182)))))))) ∧ ((sg_g σ 101 ((sg_g σ 88 27))) = 0 → p_rowAt σ ((sg_g σ 133 (0))) (0) ∧ V_showNumber σ1 ((v_rowAt σ ((sg_g σ 133 (0))) (0))) (fun σ261 => sg_F [136, 79088] σ1 σ261 → sg_R ((sg_g σ261 88 78) - 80000) ∧ ∀ σ267, σ267 = (sg_w σ261 88 77 (((sg_g σ261 88 78) - 80000))) → Q σ267)))))
set_option maxHeartbeats 4000000 in
set_option maxRecDepth 8000 in
theorem w_showFlat (z : Value) (σ : sg_S) (Q : sg_S → Prop)  (w : V_showFlat σ  Q) : wx z 2 325 0 [(0, .inr (.inr (.ref 88)))] [] σ (fun v σ' => v = none ∧ sg_F [136, 137, 138, 151, 78088, 79088] σ σ' ∧ Q σ') := by
  unfold V_showFlat at w
  refine wk_b tt_325 3 (pc' := 7) (ls' := [(0, .inr (.inr (.ref 88)))]) (st' := []) (σ' := (sg_w σ 88 78 (80000))) rfl ?_
  generalize hs2 : (sg_w σ 88 78 (80000)) = σ1
  have w := w σ1 hs2.symm
  have hF3 : sg_F [79088] σ σ1 := by rw [← hs2]; exact sg_F_w (sg_F_r _ _) rfl _
  refine wk_b tt_325 3 (pc' := 12) (ls' := [(0, .inr (.inr (.ref 88)))]) (st' := [.inl (0), .inr (.inr (.ref 133))]) (σ' := σ1) rfl ?_
  refine wk_ia tt_325 rfl rfl (by decide) (by decide) (by decide) ?_
  rw [show (sg_g σ1 133 (0)) = (sg_g σ 133 (0)) from by rw [sg_F_ga hF3 rfl]]
  refine wk_b tt_325 3 (pc' := 18) (ls' := [(1, .inl ((sg_g σ 133 (0)))), (0, .inr (.inr (.ref 88)))]) (st' := [.inl ((sg_g σ1 88 83))]) (σ' := σ1) rfl ?_
  rw [show (sg_g σ1 88 83) = (sg_g σ 88 83) from by rw [sg_F_g hF3 rfl]]
  refine wk_if tt_325 (tgt := 46) rfl rfl (sg_Rg _ _ _) (fun (h4 : ¬ (sg_g σ 88 83) = 0) => ?_) (fun (h4 : (sg_g σ 88 83) = 0) => ?_)
  ·
    have w := w.1 h4
    refine wk_b tt_325 2 (pc' := 50) (ls' := [(1, .inl ((sg_g σ 133 (0)))), (0, .inr (.inr (.ref 88)))]) (st' := [.inl ((sg_g σ1 88 83))]) (σ' := σ1) rfl ?_
    rw [show (sg_g σ1 88 83) = (sg_g σ 88 83) from by rw [sg_F_g hF3 rfl]]
    refine wk_if tt_325 (tgt := 243) rfl rfl (sg_Rg _ _ _) (fun (h5 : ¬ (sg_g σ 88 83) = 0) => ?_) (fun (h5 : (sg_g σ 88 83) = 0) => ?_)
    ·
      have w := w.1 h5
      refine wk_b tt_325 6 (pc' := 255) (ls' := [(1, .inl ((sg_g σ 133 (0)))), (0, .inr (.inr (.ref 88)))]) (st' := []) (σ' := (sg_w σ1 88 77 (((sg_g σ1 88 78) - 80000)))) rfl ?_
      rw [show (sg_g σ1 88 78) = 80000 from by rw [(show sg_g σ1 88 78 = 80000 from by rw [← hs2]; exact sg_gw_e _ _ _ _ (by decide))]]
      show wx z 2 325 255 [(1, .inl ((sg_g σ 133 (0)))), (0, .inr (.inr (.ref 88)))] [] (sg_w σ1 88 77 (0)) (fun v σ' => v = none ∧ sg_F [136, 137, 138, 151, 78088, 79088] σ σ' ∧ Q σ')
      generalize hs7 : (sg_w σ1 88 77 (0)) = σ6
      have w := w σ6 hs7.symm
      have hF8 : sg_F [78088] σ1 σ6 := by rw [← hs7]; exact sg_F_w (sg_F_r _ _) rfl _
      exact wk_rV tt_325 rfl rfl ⟨rfl, (sg_F_t (sg_F_t (sg_F_r [136, 137, 138, 151, 78088, 79088] σ) (sg_F_m (L := [136, 137, 138, 151, 78088, 79088]) hF3 rfl)) (sg_F_m (L := [136, 137, 138, 151, 78088, 79088]) hF8 rfl)), w⟩
    ·
      have w := w.2 h5
      refine wk_b tt_325 2 (pc' := 55) (ls' := [(2, .inl (0)), (1, .inl ((sg_g σ 133 (0)))), (0, .inr (.inr (.ref 88)))]) (st' := []) (σ' := σ1) rfl ?_
      obtain ⟨I12, X14, ⟨μ13, w19⟩, w20, w21⟩ := w
      have ex23 : ∀ (σ10 : sg_S), sg_F [151] σ1 σ10 → X14 σ10 → wx z 2 325 73 [(0, .inr (.inr (.ref 88))), (1, .inl ((sg_g σ 133 (0))))] [] σ10 (fun v σ' => v = none ∧ sg_F [136, 137, 138, 151, 78088, 79088] σ σ' ∧ Q σ') := by
        intro σ10 hF11 w
        have w := w21 σ10 hF11 w
        refine wk_b tt_325 8 (pc' := 83) (ls' := [(2, .inl (1)), (0, .inr (.inr (.ref 88))), (1, .inl ((sg_g σ 133 (0))))]) (st' := [.inl (0), .inl ((sg_g σ 133 (0))), .inr (.inr (.ref 88)), .inl (0), .inr (.inr (.ref 137))]) (σ' := σ10) rfl ?_
        obtain ⟨c24, w⟩ := w
        have c24 : p_rowAt σ10 ((sg_g σ 133 (0))) (0) := by
          rw [pF_rowAt hF11 rfl rfl, pF_rowAt hF3 rfl rfl]; exact c24
        refine wk_callp tt_325 rfl rfl rfl rfl rfl tt_322 rfl (by decide) (w_rowAt z σ10 ((sg_g σ 133 (0))) (0) (sg_Rg _ _ _) (by decide) c24) ?_
        rw [vF_rowAt hF11 rfl rfl, vF_rowAt hF3 rfl rfl]
        have r25 := vr_rowAt σ  ((sg_g σ 133 (0))) (0) (sg_Rg _ _ _) (by decide) (by have q := c24; rw [pF_rowAt hF11 rfl rfl, pF_rowAt hF3 rfl rfl] at q; exact q)
        refine wk_is tt_325 rfl rfl (by decide) (by decide) (by decide) ?_
        generalize hs27 : (sg_w σ10 137 (0) ((v_rowAt σ ((sg_g σ 133 (0))) (0)))) = σ26
        have w := w σ26 hs27.symm
        have hF28 : sg_F [137] σ10 σ26 := by rw [← hs27]; exact sg_F_w (sg_F_r _ _) rfl _
        refine wk_b tt_325 4 (pc' := 93) (ls' := [(2, .inl (1)), (0, .inr (.inr (.ref 88))), (1, .inl ((sg_g σ 133 (0))))]) (st' := [.inl (0), .inl (0), .inr (.inr (.ref 138))]) (σ' := σ26) rfl ?_
        refine wk_is tt_325 rfl rfl (by decide) (by decide) (by decide) ?_
        generalize hs30 : (sg_w σ26 138 (0) (0)) = σ29
        have w := w σ29 hs30.symm
        have hF31 : sg_F [138] σ26 σ29 := by rw [← hs30]; exact sg_F_w (sg_F_r _ _) rfl _
        refine wk_b tt_325 2 (pc' := 97) (ls' := [(2, .inl (1)), (0, .inr (.inr (.ref 88))), (1, .inl ((sg_g σ 133 (0))))]) (st' := [.inl (91), .inr (.inr (.ref 88))]) (σ' := σ29) rfl ?_
        refine wk_call tt_325 rfl rfl rfl rfl rfl tt_324 rfl (by decide) (w_show z σ29 (91) _ (by decide) w) (fun u37 σ33 hq35 => ?_)
        obtain ⟨rfl, hF34, w⟩ := hq35
        have w := w hF34
        obtain ⟨I41, X43, ⟨μ42, w48⟩, w49, w50⟩ := w
        have ex52 : ∀ (σ39 : sg_S), sg_F [136, 137, 138, 151, 79088] σ33 σ39 → X43 σ39 → wx z 2 325 243 [(0, .inr (.inr (.ref 88)))] [] σ39 (fun v σ' => v = none ∧ sg_F [136, 137, 138, 151, 78088, 79088] σ σ' ∧ Q σ') := by
          intro σ39 hF40 w
          have w := w50 σ39 hF40 w
          obtain ⟨c53, w⟩ := w
          refine wk_b tt_325 6 (pc' := 255) (ls' := [(0, .inr (.inr (.ref 88)))]) (st' := []) (σ' := (sg_w σ39 88 77 (((sg_g σ39 88 78) - 80000)))) rfl ?_
          generalize hs55 : (sg_w σ39 88 77 (((sg_g σ39 88 78) - 80000))) = σ54
          have w := w σ54 hs55.symm
          have hF56 : sg_F [78088] σ39 σ54 := by rw [← hs55]; exact sg_F_w (sg_F_r _ _) rfl _
          exact wk_rV tt_325 rfl rfl ⟨rfl, (sg_F_t (sg_F_t (sg_F_t (sg_F_t (sg_F_t (sg_F_t (sg_F_t (sg_F_r [136, 137, 138, 151, 78088, 79088] σ) (sg_F_m (L := [136, 137, 138, 151, 78088, 79088]) hF3 rfl)) (sg_F_m (L := [136, 137, 138, 151, 78088, 79088]) hF11 rfl)) (sg_F_m (L := [136, 137, 138, 151, 78088, 79088]) hF28 rfl)) (sg_F_m (L := [136, 137, 138, 151, 78088, 79088]) hF31 rfl)) (sg_F_m (L := [136, 137, 138, 151, 78088, 79088]) hF34 rfl)) (sg_F_m (L := [136, 137, 138, 151, 78088, 79088]) hF40 rfl)) (sg_F_m (L := [136, 137, 138, 151, 78088, 79088]) hF56 rfl)), w⟩
        have lp47 : ∀ (n51 : Nat) (v38 : Int) (σ39 : sg_S), sg_R v38 → sg_F [136, 137, 138, 151, 79088] σ33 σ39 → I41 n51 v38 σ39 → wx z 2 325 100 [(0, .inr (.inr (.ref 88))), (1, .inl ((sg_g σ 133 (0)))), (2, .inl (v38))] [] σ39 (fun v σ' => v = none ∧ sg_F [136, 137, 138, 151, 78088, 79088] σ σ' ∧ Q σ') := by
          intro n51
          induction n51 using Nat.strongRecOn with
          | _ n51 ih45 =>
            intro v38 σ39 r44 hF40 w
            have w := w49 n51 v38 σ39 r44 hF40 w
            refine wk_b tt_325 1 (pc' := 101) (ls' := [(0, .inr (.inr (.ref 88))), (1, .inl ((sg_g σ 133 (0)))), (2, .inl (v38))]) (st' := [.inl (v38)]) (σ' := σ39) rfl ?_
            refine wk_if tt_325 (tgt := 243) rfl rfl r44 (fun (h57 : v38 ≤ 0) => ?_) (fun (h57 : 0 < v38) => ?_)
            ·
              have w := w.1 h57
              exact wk_ls [(0, .inr (.inr (.ref 88)))] rfl ⟨rfl, trivial⟩ (ex52  σ39  (sg_F_t (sg_F_r [136, 137, 138, 151, 79088] σ33) (sg_F_m (L := [136, 137, 138, 151, 79088]) hF40 rfl)) w)
            ·
              have w := w.2 h57
              obtain ⟨c58, w⟩ := w
              refine wk_b tt_325 7 (pc' := 113) (ls' := [(3, .inl ((v38 - 1))), (0, .inr (.inr (.ref 88))), (1, .inl ((sg_g σ 133 (0)))), (2, .inl (v38))]) (st' := [.inl ((v38 - 1)), .inr (.inr (.ref 138))]) (σ' := σ39) rfl ?_
              obtain ⟨c59, w⟩ := w
              refine wk_ia tt_325 rfl rfl c59.1 c59.2 c58 ?_
              refine wk_b tt_325 3 (pc' := 119) (ls' := [(3, .inl ((v38 - 1))), (0, .inr (.inr (.ref 88))), (1, .inl ((sg_g σ 133 (0)))), (2, .inl (v38))]) (st' := [.inl ((v38 - 1)), .inr (.inr (.ref 137)), .inl ((sg_g σ39 138 ((v38 - 1))))]) (σ' := σ39) rfl ?_
              refine wk_ia tt_325 rfl rfl c59.1 c59.2 c58 ?_
              obtain ⟨P62, w, w67⟩ := w
              have jn61 : ∀ (v65 : Int) (σ63 : sg_S), sg_R v65 → sg_F [136, 137, 138, 151, 79088] σ39 σ63 → P62 v65 σ63 → wx z 2 325 240 [(0, .inr (.inr (.ref 88))), (1, .inl ((sg_g σ 133 (0)))), (2, .inl (v65))] [] σ63 (fun v σ' => v = none ∧ sg_F [136, 137, 138, 151, 78088, 79088] σ σ' ∧ Q σ') := by
                intro v65 σ63 r66 hF64 w
                have w := w67 v65 σ63 r66 hF64 w
                refine wk_b tt_325 1 (pc' := 100) (ls' := [(0, .inr (.inr (.ref 88))), (1, .inl ((sg_g σ 133 (0)))), (2, .inl (v65))]) (st' := []) (σ' := σ63) rfl ?_
                obtain ⟨m68, hm68, w⟩ := w
                exact wk_ls [(0, .inr (.inr (.ref 88))), (1, .inl ((sg_g σ 133 (0)))), (2, .inl (v65))] rfl ⟨rfl, rfl, rfl, trivial⟩ (ih45 m68 hm68 (v65) σ63 r66 (sg_F_t (sg_F_t (sg_F_r [136, 137, 138, 151, 79088] σ33) (sg_F_m (L := [136, 137, 138, 151, 79088]) hF40 rfl)) (sg_F_m (L := [136, 137, 138, 151, 79088]) hF64 rfl)) w)
              refine wk_if2 tt_325 (tgt := 135) rfl rfl (sg_Rg _ _ _) (sg_Rg _ _ _) (fun (h60 : ¬ (sg_g σ39 138 ((v38 - 1))) = (sg_g σ39 137 ((v38 - 1)))) => ?_) (fun (h60 : (sg_g σ39 138 ((v38 - 1))) = (sg_g σ39 137 ((v38 - 1)))) => ?_)
              ·
                have w := w.1 h60
                refine wk_b tt_325 3 (pc' := 140) (ls' := [(3, .inl ((v38 - 1))), (0, .inr (.inr (.ref 88))), (1, .inl ((sg_g σ 133 (0)))), (2, .inl (v38))]) (st' := [.inl ((v38 - 1)), .inr (.inr (.ref 138))]) (σ' := σ39) rfl ?_
                refine wk_ia tt_325 rfl rfl c59.1 c59.2 c58 ?_
                obtain ⟨P71, w, w74⟩ := w
                have jn70 : ∀ (σ72 : sg_S), sg_F [136, 79088] σ39 σ72 → P71 σ72 → wx z 2 325 150 [(0, .inr (.inr (.ref 88))), (1, .inl ((sg_g σ 133 (0)))), (2, .inl (v38)), (3, .inl ((v38 - 1)))] [] σ72 (fun v σ' => v = none ∧ sg_F [136, 137, 138, 151, 78088, 79088] σ σ' ∧ Q σ') := by
                  intro σ72 hF73 w
                  have w := w74 σ72 hF73 w
                  refine wk_b tt_325 4 (pc' := 156) (ls' := [(0, .inr (.inr (.ref 88))), (1, .inl ((sg_g σ 133 (0)))), (2, .inl (v38)), (3, .inl ((v38 - 1)))]) (st' := [.inl ((v38 - 1)), .inr (.inr (.ref 138)), .inl ((v38 - 1)), .inr (.inr (.ref 138))]) (σ' := σ72) rfl ?_
                  refine wk_ia tt_325 rfl rfl c59.1 c59.2 c58 ?_
                  rw [show (sg_g σ72 138 ((v38 - 1))) = (sg_g σ39 138 ((v38 - 1))) from by rw [sg_F_ga hF73 rfl]]
                  obtain ⟨c75, w⟩ := w
                  refine wk_b tt_325 2 (pc' := 159) (ls' := [(0, .inr (.inr (.ref 88))), (1, .inl ((sg_g σ 133 (0)))), (2, .inl (v38)), (3, .inl ((v38 - 1)))]) (st' := [.inl (((sg_g σ39 138 ((v38 - 1))) + 1)), .inl ((v38 - 1)), .inr (.inr (.ref 138))]) (σ' := σ72) rfl ?_
                  refine wk_is tt_325 rfl rfl c59.1 c59.2 c58 ?_
                  generalize hs77 : (sg_w σ72 138 ((v38 - 1)) (((sg_g σ39 138 ((v38 - 1))) + 1))) = σ76
                  have w := w σ76 hs77.symm
                  have hF78 : sg_F [138] σ72 σ76 := by rw [← hs77]; exact sg_F_w (sg_F_r _ _) rfl _
                  obtain ⟨c79, w⟩ := w
                  obtain ⟨c80, w⟩ := w
                  refine wk_b tt_325 9 (pc' := 173) (ls' := [(0, .inr (.inr (.ref 88))), (1, .inl ((sg_g σ 133 (0)))), (2, .inl (v38)), (3, .inl ((v38 - 1)))]) (st' := [.inl (((4 * (sg_g σ 133 (0))) + v38)), .inr (.inr (.ref 140)), .inr (.inr (.ref 142))]) (σ' := σ76) rfl ?_
                  obtain ⟨c81, w⟩ := w
                  refine wk_ia tt_325 rfl rfl c81.1 c81.2 c80 ?_
                  rw [show (sg_g σ76 140 (((4 * (sg_g σ 133 (0))) + v38))) = (sg_g σ 140 (((4 * (sg_g σ 133 (0))) + v38))) from by rw [sg_F_ga hF78 rfl, sg_F_ga hF73 rfl, sg_F_ga hF40 rfl, sg_F_ga hF34 rfl, sg_F_ga hF31 rfl, sg_F_ga hF28 rfl, sg_F_ga hF11 rfl, sg_F_ga hF3 rfl]]
                  refine wk_b tt_325 3 (pc' := 179) (ls' := [(0, .inr (.inr (.ref 88))), (1, .inl ((sg_g σ 133 (0)))), (2, .inl (v38)), (3, .inl ((v38 - 1)))]) (st' := [.inl (v38), .inr (.inr (.ref 151)), .inl ((sg_g σ 140 (((4 * (sg_g σ 133 (0))) + v38)))), .inr (.inr (.ref 142))]) (σ' := σ76) rfl ?_
                  obtain ⟨c82, w⟩ := w
                  refine wk_ia tt_325 rfl rfl c82.1 c82.2 r44 ?_
                  rw [show (sg_g σ76 151 (v38)) = (sg_g σ39 151 (v38)) from by rw [sg_F_ga hF78 rfl, sg_F_ga hF73 rfl]]
                  obtain ⟨c83, w⟩ := w
                  refine wk_b tt_325 1 (pc' := 181) (ls' := [(0, .inr (.inr (.ref 88))), (1, .inl ((sg_g σ 133 (0)))), (2, .inl (v38)), (3, .inl ((v38 - 1)))]) (st' := [.inl (((sg_g σ 140 (((4 * (sg_g σ 133 (0))) + v38))) + (sg_g σ39 151 (v38)))), .inr (.inr (.ref 142))]) (σ' := σ76) rfl ?_
                  obtain ⟨c84, w⟩ := w
                  refine wk_ia tt_325 rfl rfl c84.1 c84.2 c83 ?_
                  rw [show (sg_g σ76 142 (((sg_g σ 140 (((4 * (sg_g σ 133 (0))) + v38))) + (sg_g σ39 151 (v38))))) = (sg_g σ 142 (((sg_g σ 140 (((4 * (sg_g σ 133 (0))) + v38))) + (sg_g σ39 151 (v38))))) from by rw [sg_F_ga hF78 rfl, sg_F_ga hF73 rfl, sg_F_ga hF40 rfl, sg_F_ga hF34 rfl, sg_F_ga hF31 rfl, sg_F_ga hF28 rfl, sg_F_ga hF11 rfl, sg_F_ga hF3 rfl]]
                  refine wk_b tt_325 5 (pc' := 190) (ls' := [(4, .inl ((sg_g σ 142 (((sg_g σ 140 (((4 * (sg_g σ 133 (0))) + v38))) + (sg_g σ39 151 (v38))))))), (0, .inr (.inr (.ref 88))), (1, .inl ((sg_g σ 133 (0)))), (2, .inl (v38)), (3, .inl ((v38 - 1)))]) (st' := [.inl (v38), .inr (.inr (.ref 151)), .inl (v38), .inr (.inr (.ref 151))]) (σ' := σ76) rfl ?_
                  refine wk_ia tt_325 rfl rfl c82.1 c82.2 r44 ?_
                  rw [show (sg_g σ76 151 (v38)) = (sg_g σ39 151 (v38)) from by rw [sg_F_ga hF78 rfl, sg_F_ga hF73 rfl]]
                  obtain ⟨c85, w⟩ := w
                  refine wk_b tt_325 2 (pc' := 193) (ls' := [(4, .inl ((sg_g σ 142 (((sg_g σ 140 (((4 * (sg_g σ 133 (0))) + v38))) + (sg_g σ39 151 (v38))))))), (0, .inr (.inr (.ref 88))), (1, .inl ((sg_g σ 133 (0)))), (2, .inl (v38)), (3, .inl ((v38 - 1)))]) (st' := [.inl (((sg_g σ39 151 (v38)) + 1)), .inl (v38), .inr (.inr (.ref 151))]) (σ' := σ76) rfl ?_
                  refine wk_is tt_325 rfl rfl c82.1 c82.2 r44 ?_
                  generalize hs87 : (sg_w σ76 151 (v38) (((sg_g σ39 151 (v38)) + 1))) = σ86
                  have w := w σ86 hs87.symm
                  have hF88 : sg_F [151] σ76 σ86 := by rw [← hs87]; exact sg_F_w (sg_F_r _ _) rfl _
                  refine wk_b tt_325 5 (pc' := 203) (ls' := [(4, .inl ((sg_g σ 142 (((sg_g σ 140 (((4 * (sg_g σ 133 (0))) + v38))) + (sg_g σ39 151 (v38))))))), (0, .inr (.inr (.ref 88))), (1, .inl ((sg_g σ 133 (0)))), (2, .inl (v38)), (3, .inl ((v38 - 1)))]) (st' := [.inl ((sg_g σ86 88 27)), .inr (.inr (.ref 101)), .inl (v38)]) (σ' := σ86) rfl ?_
                  rw [show (sg_g σ86 88 27) = (sg_g σ 88 27) from by rw [sg_F_ga hF88 rfl, sg_F_ga hF78 rfl, sg_F_g hF73 rfl, sg_F_g hF40 rfl, sg_F_g hF34 rfl, sg_F_ga hF31 rfl, sg_F_ga hF28 rfl, sg_F_ga hF11 rfl, sg_F_g hF3 rfl]]
                  obtain ⟨c89, w⟩ := w
                  refine wk_ia tt_325 rfl rfl c89.1 c89.2 (sg_Rg _ _ _) ?_
                  rw [show (sg_g σ86 101 ((sg_g σ 88 27))) = (sg_g σ 101 ((sg_g σ 88 27))) from by rw [sg_F_ga hF88 rfl, sg_F_ga hF78 rfl, sg_F_ga hF73 rfl, sg_F_ga hF40 rfl, sg_F_ga hF34 rfl, sg_F_ga hF31 rfl, sg_F_ga hF28 rfl, sg_F_ga hF11 rfl, sg_F_ga hF3 rfl]]
                  refine wk_if2 tt_325 (tgt := 216) rfl rfl r44 (sg_Rg _ _ _) (fun (h90 : ¬ v38 = (sg_g σ 101 ((sg_g σ 88 27)))) => ?_) (fun (h90 : v38 = (sg_g σ 101 ((sg_g σ 88 27)))) => ?_)
                  ·
                    have w := w.1 h90
                    refine wk_b tt_325 4 (pc' := 223) (ls' := [(4, .inl ((sg_g σ 142 (((sg_g σ 140 (((4 * (sg_g σ 133 (0))) + v38))) + (sg_g σ39 151 (v38))))))), (0, .inr (.inr (.ref 88))), (1, .inl ((sg_g σ 133 (0)))), (2, .inl (v38)), (3, .inl ((v38 - 1)))]) (st' := [.inl ((sg_g σ 142 (((sg_g σ 140 (((4 * (sg_g σ 133 (0))) + v38))) + (sg_g σ39 151 (v38)))))), .inl (v38), .inr (.inr (.ref 137))]) (σ' := σ86) rfl ?_
                    obtain ⟨c91, w⟩ := w
                    refine wk_is tt_325 rfl rfl c91.1 c91.2 r44 ?_
                    generalize hs93 : (sg_w σ86 137 (v38) ((sg_g σ 142 (((sg_g σ 140 (((4 * (sg_g σ 133 (0))) + v38))) + (sg_g σ39 151 (v38))))))) = σ92
                    have w := w σ92 hs93.symm
                    have hF94 : sg_F [137] σ86 σ92 := by rw [← hs93]; exact sg_F_w (sg_F_r _ _) rfl _
                    refine wk_b tt_325 4 (pc' := 230) (ls' := [(4, .inl ((sg_g σ 142 (((sg_g σ 140 (((4 * (sg_g σ 133 (0))) + v38))) + (sg_g σ39 151 (v38))))))), (0, .inr (.inr (.ref 88))), (1, .inl ((sg_g σ 133 (0)))), (2, .inl (v38)), (3, .inl ((v38 - 1)))]) (st' := [.inl (0), .inl (v38), .inr (.inr (.ref 138))]) (σ' := σ92) rfl ?_
                    refine wk_is tt_325 rfl rfl c91.1 c91.2 r44 ?_
                    generalize hs96 : (sg_w σ92 138 (v38) (0)) = σ95
                    have w := w σ95 hs96.symm
                    have hF97 : sg_F [138] σ92 σ95 := by rw [← hs96]; exact sg_F_w (sg_F_r _ _) rfl _
                    refine wk_b tt_325 2 (pc' := 234) (ls' := [(4, .inl ((sg_g σ 142 (((sg_g σ 140 (((4 * (sg_g σ 133 (0))) + v38))) + (sg_g σ39 151 (v38))))))), (0, .inr (.inr (.ref 88))), (1, .inl ((sg_g σ 133 (0)))), (2, .inl (v38)), (3, .inl ((v38 - 1)))]) (st' := [.inl (91), .inr (.inr (.ref 88))]) (σ' := σ95) rfl ?_
                    refine wk_call tt_325 rfl rfl rfl rfl rfl tt_324 rfl (by decide) (w_show z σ95 (91) _ (by decide) w) (fun u103 σ99 hq101 => ?_)
                    obtain ⟨rfl, hF100, w⟩ := hq101
                    have w := w hF100
                    obtain ⟨c104, w⟩ := w
                    refine wk_b tt_325 1 (pc' := 240) (ls' := [(2, .inl ((v38 + 1))), (4, .inl ((sg_g σ 142 (((sg_g σ 140 (((4 * (sg_g σ 133 (0))) + v38))) + (sg_g σ39 151 (v38))))))), (0, .inr (.inr (.ref 88))), (1, .inl ((sg_g σ 133 (0)))), (3, .inl ((v38 - 1)))]) (st' := []) (σ' := σ99) rfl ?_
                    exact wk_ls [(0, .inr (.inr (.ref 88))), (1, .inl ((sg_g σ 133 (0)))), (2, .inl ((v38 + 1)))] rfl ⟨rfl, rfl, rfl, trivial⟩ (jn61 ((v38 + 1)) σ99 c104 (sg_F_t (sg_F_t (sg_F_t (sg_F_t (sg_F_t (sg_F_t (sg_F_r [136, 137, 138, 151, 79088] σ39) (sg_F_m (L := [136, 137, 138, 151, 79088]) hF73 rfl)) (sg_F_m (L := [136, 137, 138, 151, 79088]) hF78 rfl)) (sg_F_m (L := [136, 137, 138, 151, 79088]) hF88 rfl)) (sg_F_m (L := [136, 137, 138, 151, 79088]) hF94 rfl)) (sg_F_m (L := [136, 137, 138, 151, 79088]) hF97 rfl)) (sg_F_m (L := [136, 137, 138, 151, 79088]) hF100 rfl)) w)
                  ·
                    have w := w.2 h90
                    refine wk_b tt_325 2 (pc' := 210) (ls' := [(4, .inl ((sg_g σ 142 (((sg_g σ 140 (((4 * (sg_g σ 133 (0))) + v38))) + (sg_g σ39 151 (v38))))))), (0, .inr (.inr (.ref 88))), (1, .inl ((sg_g σ 133 (0)))), (2, .inl (v38)), (3, .inl ((v38 - 1)))]) (st' := [.inl ((sg_g σ 142 (((sg_g σ 140 (((4 * (sg_g σ 133 (0))) + v38))) + (sg_g σ39 151 (v38)))))), .inr (.inr (.ref 88))]) (σ' := σ86) rfl ?_
                    refine wk_call tt_325 rfl rfl rfl rfl rfl tt_327 rfl (by decide) (w_showNumber z σ86 ((sg_g σ 142 (((sg_g σ 140 (((4 * (sg_g σ 133 (0))) + v38))) + (sg_g σ39 151 (v38)))))) _ (sg_Rg _ _ _) w) (fun u110 σ106 hq108 => ?_)
                    obtain ⟨rfl, hF107, w⟩ := hq108
                    have w := w hF107
                    refine wk_b tt_325 1 (pc' := 240) (ls' := [(4, .inl ((sg_g σ 142 (((sg_g σ 140 (((4 * (sg_g σ 133 (0))) + v38))) + (sg_g σ39 151 (v38))))))), (0, .inr (.inr (.ref 88))), (1, .inl ((sg_g σ 133 (0)))), (2, .inl (v38)), (3, .inl ((v38 - 1)))]) (st' := []) (σ' := σ106) rfl ?_
                    exact wk_ls [(0, .inr (.inr (.ref 88))), (1, .inl ((sg_g σ 133 (0)))), (2, .inl (v38))] rfl ⟨rfl, rfl, rfl, trivial⟩ (jn61 (v38) σ106 r44 (sg_F_t (sg_F_t (sg_F_t (sg_F_t (sg_F_r [136, 137, 138, 151, 79088] σ39) (sg_F_m (L := [136, 137, 138, 151, 79088]) hF73 rfl)) (sg_F_m (L := [136, 137, 138, 151, 79088]) hF78 rfl)) (sg_F_m (L := [136, 137, 138, 151, 79088]) hF88 rfl)) (sg_F_m (L := [136, 137, 138, 151, 79088]) hF107 rfl)) w)
                refine wk_if tt_325 (tgt := 150) rfl rfl (sg_Rg _ _ _) (fun (h69 : (sg_g σ39 138 ((v38 - 1))) ≤ 0) => ?_) (fun (h69 : 0 < (sg_g σ39 138 ((v38 - 1)))) => ?_)
                ·
                  have w := w.1 h69
                  exact wk_ls [(0, .inr (.inr (.ref 88))), (1, .inl ((sg_g σ 133 (0)))), (2, .inl (v38)), (3, .inl ((v38 - 1)))] rfl ⟨rfl, rfl, rfl, rfl, trivial⟩ (jn70 σ39 (sg_F_r [136, 79088] σ39) w)
                ·
                  have w := w.2 h69
                  refine wk_b tt_325 2 (pc' := 147) (ls' := [(3, .inl ((v38 - 1))), (0, .inr (.inr (.ref 88))), (1, .inl ((sg_g σ 133 (0)))), (2, .inl (v38))]) (st' := [.inl (44), .inr (.inr (.ref 88))]) (σ' := σ39) rfl ?_
                  refine wk_call tt_325 rfl rfl rfl rfl rfl tt_324 rfl (by decide) (w_show z σ39 (44) _ (by decide) w) (fun u116 σ112 hq114 => ?_)
                  obtain ⟨rfl, hF113, w⟩ := hq114
                  have w := w hF113
                  exact wk_ls [(0, .inr (.inr (.ref 88))), (1, .inl ((sg_g σ 133 (0)))), (2, .inl (v38)), (3, .inl ((v38 - 1)))] rfl ⟨rfl, rfl, rfl, rfl, trivial⟩ (jn70 σ112 (sg_F_t (sg_F_r [136, 79088] σ39) (sg_F_m (L := [136, 79088]) hF113 rfl)) w)
              ·
                have w := w.2 h60
                refine wk_b tt_325 2 (pc' := 126) (ls' := [(3, .inl ((v38 - 1))), (0, .inr (.inr (.ref 88))), (1, .inl ((sg_g σ 133 (0)))), (2, .inl (v38))]) (st' := [.inl (93), .inr (.inr (.ref 88))]) (σ' := σ39) rfl ?_
                refine wk_call tt_325 rfl rfl rfl rfl rfl tt_324 rfl (by decide) (w_show z σ39 (93) _ (by decide) w) (fun u122 σ118 hq120 => ?_)
                obtain ⟨rfl, hF119, w⟩ := hq120
                have w := w hF119
                obtain ⟨c123, w⟩ := w
                refine wk_b tt_325 2 (pc' := 240) (ls' := [(2, .inl ((v38 + (-1)))), (3, .inl ((v38 - 1))), (0, .inr (.inr (.ref 88))), (1, .inl ((sg_g σ 133 (0))))]) (st' := []) (σ' := σ118) rfl ?_
                exact wk_ls [(0, .inr (.inr (.ref 88))), (1, .inl ((sg_g σ 133 (0)))), (2, .inl ((v38 + (-1))))] rfl ⟨rfl, rfl, rfl, trivial⟩ (jn61 ((v38 + (-1))) σ118 c123 (sg_F_t (sg_F_r [136, 137, 138, 151, 79088] σ39) (sg_F_m (L := [136, 137, 138, 151, 79088]) hF119 rfl)) w)
        exact wk_ls [(0, .inr (.inr (.ref 88))), (1, .inl ((sg_g σ 133 (0)))), (2, .inl (1))] rfl ⟨rfl, rfl, rfl, trivial⟩ (lp47 μ42 (1) σ33 (by decide) (sg_F_r _ _) w48)
      have lp18 : ∀ (n22 : Nat) (v9 : Int) (σ10 : sg_S), sg_R v9 → sg_F [151] σ1 σ10 → I12 n22 v9 σ10 → wx z 2 325 55 [(0, .inr (.inr (.ref 88))), (1, .inl ((sg_g σ 133 (0)))), (2, .inl (v9))] [] σ10 (fun v σ' => v = none ∧ sg_F [136, 137, 138, 151, 78088, 79088] σ σ' ∧ Q σ') := by
        intro n22
        induction n22 using Nat.strongRecOn with
        | _ n22 ih16 =>
          intro v9 σ10 r15 hF11 w
          have w := w20 n22 v9 σ10 r15 hF11 w
          refine wk_b tt_325 2 (pc' := 57) (ls' := [(0, .inr (.inr (.ref 88))), (1, .inl ((sg_g σ 133 (0)))), (2, .inl (v9))]) (st' := [.inl (5), .inl (v9)]) (σ' := σ10) rfl ?_
          refine wk_if2 tt_325 (tgt := 73) rfl rfl r15 (by decide) (fun (h124 : 5 ≤ v9) => ?_) (fun (h124 : v9 < 5) => ?_)
          ·
            have w := w.1 h124
            exact wk_ls [(0, .inr (.inr (.ref 88))), (1, .inl ((sg_g σ 133 (0))))] rfl ⟨rfl, rfl, trivial⟩ (ex23  σ10  (sg_F_t (sg_F_r [151] σ1) (sg_F_m (L := [151]) hF11 rfl)) w)
          ·
            have w := w.2 h124
            refine wk_b tt_325 4 (pc' := 66) (ls' := [(0, .inr (.inr (.ref 88))), (1, .inl ((sg_g σ 133 (0)))), (2, .inl (v9))]) (st' := [.inl (0), .inl (v9), .inr (.inr (.ref 151))]) (σ' := σ10) rfl ?_
            obtain ⟨c125, w⟩ := w
            refine wk_is tt_325 rfl rfl c125.1 c125.2 r15 ?_
            generalize hs127 : (sg_w σ10 151 (v9) (0)) = σ126
            have w := w σ126 hs127.symm
            have hF128 : sg_F [151] σ10 σ126 := by rw [← hs127]; exact sg_F_w (sg_F_r _ _) rfl _
            obtain ⟨c129, w⟩ := w
            refine wk_b tt_325 2 (pc' := 55) (ls' := [(2, .inl ((v9 + 1))), (0, .inr (.inr (.ref 88))), (1, .inl ((sg_g σ 133 (0))))]) (st' := []) (σ' := σ126) rfl ?_
            obtain ⟨m130, hm130, w⟩ := w
            exact wk_ls [(0, .inr (.inr (.ref 88))), (1, .inl ((sg_g σ 133 (0)))), (2, .inl ((v9 + 1)))] rfl ⟨rfl, rfl, rfl, trivial⟩ (ih16 m130 hm130 ((v9 + 1)) σ126 c129 (sg_F_t (sg_F_t (sg_F_r [151] σ1) (sg_F_m (L := [151]) hF11 rfl)) (sg_F_m (L := [151]) hF128 rfl)) w)
      exact wk_ls [(0, .inr (.inr (.ref 88))), (1, .inl ((sg_g σ 133 (0)))), (2, .inl (0))] rfl ⟨rfl, rfl, rfl, trivial⟩ (lp18 μ13 (0) σ1 (by decide) (sg_F_r _ _) w19)
  ·
    have w := w.2 h4
    refine wk_b tt_325 4 (pc' := 29) (ls' := [(1, .inl ((sg_g σ 133 (0)))), (0, .inr (.inr (.ref 88)))]) (st' := [.inl ((sg_g σ1 88 27)), .inr (.inr (.ref 101))]) (σ' := σ1) rfl ?_
    rw [show (sg_g σ1 88 27) = (sg_g σ 88 27) from by rw [sg_F_g hF3 rfl]]
    obtain ⟨c131, w⟩ := w
    refine wk_ia tt_325 rfl rfl c131.1 c131.2 (sg_Rg _ _ _) ?_
    rw [show (sg_g σ1 101 ((sg_g σ 88 27))) = (sg_g σ 101 ((sg_g σ 88 27))) from by rw [sg_F_ga hF3 rfl]]
    refine wk_if tt_325 (tgt := 46) rfl rfl (sg_Rg _ _ _) (fun (h132 : ¬ (sg_g σ 101 ((sg_g σ 88 27))) = 0) => ?_) (fun (h132 : (sg_g σ 101 ((sg_g σ 88 27))) = 0) => ?_)
    ·
      have w := w.1 h132
      refine wk_b tt_325 2 (pc' := 50) (ls' := [(1, .inl ((sg_g σ 133 (0)))), (0, .inr (.inr (.ref 88)))]) (st' := [.inl ((sg_g σ1 88 83))]) (σ' := σ1) rfl ?_
      rw [show (sg_g σ1 88 83) = (sg_g σ 88 83) from by rw [sg_F_g hF3 rfl]]
      refine wk_if tt_325 (tgt := 243) rfl rfl (sg_Rg _ _ _) (fun (h133 : ¬ (sg_g σ 88 83) = 0) => ?_) (fun (h133 : (sg_g σ 88 83) = 0) => ?_)
      ·
        have w := w.1 h133
        refine wk_b tt_325 6 (pc' := 255) (ls' := [(1, .inl ((sg_g σ 133 (0)))), (0, .inr (.inr (.ref 88)))]) (st' := []) (σ' := (sg_w σ1 88 77 (((sg_g σ1 88 78) - 80000)))) rfl ?_
        rw [show (sg_g σ1 88 78) = 80000 from by rw [(show sg_g σ1 88 78 = 80000 from by rw [← hs2]; exact sg_gw_e _ _ _ _ (by decide))]]
        show wx z 2 325 255 [(1, .inl ((sg_g σ 133 (0)))), (0, .inr (.inr (.ref 88)))] [] (sg_w σ1 88 77 (0)) (fun v σ' => v = none ∧ sg_F [136, 137, 138, 151, 78088, 79088] σ σ' ∧ Q σ')
        generalize hs135 : (sg_w σ1 88 77 (0)) = σ134
        have w := w σ134 hs135.symm
        have hF136 : sg_F [78088] σ1 σ134 := by rw [← hs135]; exact sg_F_w (sg_F_r _ _) rfl _
        exact wk_rV tt_325 rfl rfl ⟨rfl, (sg_F_t (sg_F_t (sg_F_r [136, 137, 138, 151, 78088, 79088] σ) (sg_F_m (L := [136, 137, 138, 151, 78088, 79088]) hF3 rfl)) (sg_F_m (L := [136, 137, 138, 151, 78088, 79088]) hF136 rfl)), w⟩
      ·
        have w := w.2 h133
        refine wk_b tt_325 2 (pc' := 55) (ls' := [(2, .inl (0)), (1, .inl ((sg_g σ 133 (0)))), (0, .inr (.inr (.ref 88)))]) (st' := []) (σ' := σ1) rfl ?_
        obtain ⟨I140, X142, ⟨μ141, w147⟩, w148, w149⟩ := w
        have ex151 : ∀ (σ138 : sg_S), sg_F [151] σ1 σ138 → X142 σ138 → wx z 2 325 73 [(0, .inr (.inr (.ref 88))), (1, .inl ((sg_g σ 133 (0))))] [] σ138 (fun v σ' => v = none ∧ sg_F [136, 137, 138, 151, 78088, 79088] σ σ' ∧ Q σ') := by
          intro σ138 hF139 w
          have w := w149 σ138 hF139 w
          refine wk_b tt_325 8 (pc' := 83) (ls' := [(2, .inl (1)), (0, .inr (.inr (.ref 88))), (1, .inl ((sg_g σ 133 (0))))]) (st' := [.inl (0), .inl ((sg_g σ 133 (0))), .inr (.inr (.ref 88)), .inl (0), .inr (.inr (.ref 137))]) (σ' := σ138) rfl ?_
          obtain ⟨c152, w⟩ := w
          have c152 : p_rowAt σ138 ((sg_g σ 133 (0))) (0) := by
            rw [pF_rowAt hF139 rfl rfl, pF_rowAt hF3 rfl rfl]; exact c152
          refine wk_callp tt_325 rfl rfl rfl rfl rfl tt_322 rfl (by decide) (w_rowAt z σ138 ((sg_g σ 133 (0))) (0) (sg_Rg _ _ _) (by decide) c152) ?_
          rw [vF_rowAt hF139 rfl rfl, vF_rowAt hF3 rfl rfl]
          have r153 := vr_rowAt σ  ((sg_g σ 133 (0))) (0) (sg_Rg _ _ _) (by decide) (by have q := c152; rw [pF_rowAt hF139 rfl rfl, pF_rowAt hF3 rfl rfl] at q; exact q)
          refine wk_is tt_325 rfl rfl (by decide) (by decide) (by decide) ?_
          generalize hs155 : (sg_w σ138 137 (0) ((v_rowAt σ ((sg_g σ 133 (0))) (0)))) = σ154
          have w := w σ154 hs155.symm
          have hF156 : sg_F [137] σ138 σ154 := by rw [← hs155]; exact sg_F_w (sg_F_r _ _) rfl _
          refine wk_b tt_325 4 (pc' := 93) (ls' := [(2, .inl (1)), (0, .inr (.inr (.ref 88))), (1, .inl ((sg_g σ 133 (0))))]) (st' := [.inl (0), .inl (0), .inr (.inr (.ref 138))]) (σ' := σ154) rfl ?_
          refine wk_is tt_325 rfl rfl (by decide) (by decide) (by decide) ?_
          generalize hs158 : (sg_w σ154 138 (0) (0)) = σ157
          have w := w σ157 hs158.symm
          have hF159 : sg_F [138] σ154 σ157 := by rw [← hs158]; exact sg_F_w (sg_F_r _ _) rfl _
          refine wk_b tt_325 2 (pc' := 97) (ls' := [(2, .inl (1)), (0, .inr (.inr (.ref 88))), (1, .inl ((sg_g σ 133 (0))))]) (st' := [.inl (91), .inr (.inr (.ref 88))]) (σ' := σ157) rfl ?_
          refine wk_call tt_325 rfl rfl rfl rfl rfl tt_324 rfl (by decide) (w_show z σ157 (91) _ (by decide) w) (fun u165 σ161 hq163 => ?_)
          obtain ⟨rfl, hF162, w⟩ := hq163
          have w := w hF162
          obtain ⟨I169, X171, ⟨μ170, w176⟩, w177, w178⟩ := w
          have ex180 : ∀ (σ167 : sg_S), sg_F [136, 137, 138, 151, 79088] σ161 σ167 → X171 σ167 → wx z 2 325 243 [(0, .inr (.inr (.ref 88)))] [] σ167 (fun v σ' => v = none ∧ sg_F [136, 137, 138, 151, 78088, 79088] σ σ' ∧ Q σ') := by
            intro σ167 hF168 w
            have w := w178 σ167 hF168 w
            obtain ⟨c181, w⟩ := w
            refine wk_b tt_325 6 (pc' := 255) (ls' := [(0, .inr (.inr (.ref 88)))]) (st' := []) (σ' := (sg_w σ167 88 77 (((sg_g σ167 88 78) - 80000)))) rfl ?_
            generalize hs183 : (sg_w σ167 88 77 (((sg_g σ167 88 78) - 80000))) = σ182
            have w := w σ182 hs183.symm
            have hF184 : sg_F [78088] σ167 σ182 := by rw [← hs183]; exact sg_F_w (sg_F_r _ _) rfl _
            exact wk_rV tt_325 rfl rfl ⟨rfl, (sg_F_t (sg_F_t (sg_F_t (sg_F_t (sg_F_t (sg_F_t (sg_F_t (sg_F_r [136, 137, 138, 151, 78088, 79088] σ) (sg_F_m (L := [136, 137, 138, 151, 78088, 79088]) hF3 rfl)) (sg_F_m (L := [136, 137, 138, 151, 78088, 79088]) hF139 rfl)) (sg_F_m (L := [136, 137, 138, 151, 78088, 79088]) hF156 rfl)) (sg_F_m (L := [136, 137, 138, 151, 78088, 79088]) hF159 rfl)) (sg_F_m (L := [136, 137, 138, 151, 78088, 79088]) hF162 rfl)) (sg_F_m (L := [136, 137, 138, 151, 78088, 79088]) hF168 rfl)) (sg_F_m (L := [136, 137, 138, 151, 78088, 79088]) hF184 rfl)), w⟩
          have lp175 : ∀ (n179 : Nat) (v166 : Int) (σ167 : sg_S), sg_R v166 → sg_F [136, 137, 138, 151, 79088] σ161 σ167 → I169 n179 v166 σ167 → wx z 2 325 100 [(0, .inr (.inr (.ref 88))), (1, .inl ((sg_g σ 133 (0)))), (2, .inl (v166))] [] σ167 (fun v σ' => v = none ∧ sg_F [136, 137, 138, 151, 78088, 79088] σ σ' ∧ Q σ') := by
            intro n179
            induction n179 using Nat.strongRecOn with
            | _ n179 ih173 =>
              intro v166 σ167 r172 hF168 w
              have w := w177 n179 v166 σ167 r172 hF168 w
              refine wk_b tt_325 1 (pc' := 101) (ls' := [(0, .inr (.inr (.ref 88))), (1, .inl ((sg_g σ 133 (0)))), (2, .inl (v166))]) (st' := [.inl (v166)]) (σ' := σ167) rfl ?_
              refine wk_if tt_325 (tgt := 243) rfl rfl r172 (fun (h185 : v166 ≤ 0) => ?_) (fun (h185 : 0 < v166) => ?_)
              ·
                have w := w.1 h185
                exact wk_ls [(0, .inr (.inr (.ref 88)))] rfl ⟨rfl, trivial⟩ (ex180  σ167  (sg_F_t (sg_F_r [136, 137, 138, 151, 79088] σ161) (sg_F_m (L := [136, 137, 138, 151, 79088]) hF168 rfl)) w)
              ·
                have w := w.2 h185
                obtain ⟨c186, w⟩ := w
                refine wk_b tt_325 7 (pc' := 113) (ls' := [(3, .inl ((v166 - 1))), (0, .inr (.inr (.ref 88))), (1, .inl ((sg_g σ 133 (0)))), (2, .inl (v166))]) (st' := [.inl ((v166 - 1)), .inr (.inr (.ref 138))]) (σ' := σ167) rfl ?_
                obtain ⟨c187, w⟩ := w
                refine wk_ia tt_325 rfl rfl c187.1 c187.2 c186 ?_
                refine wk_b tt_325 3 (pc' := 119) (ls' := [(3, .inl ((v166 - 1))), (0, .inr (.inr (.ref 88))), (1, .inl ((sg_g σ 133 (0)))), (2, .inl (v166))]) (st' := [.inl ((v166 - 1)), .inr (.inr (.ref 137)), .inl ((sg_g σ167 138 ((v166 - 1))))]) (σ' := σ167) rfl ?_
                refine wk_ia tt_325 rfl rfl c187.1 c187.2 c186 ?_
                obtain ⟨P190, w, w195⟩ := w
                have jn189 : ∀ (v193 : Int) (σ191 : sg_S), sg_R v193 → sg_F [136, 137, 138, 151, 79088] σ167 σ191 → P190 v193 σ191 → wx z 2 325 240 [(0, .inr (.inr (.ref 88))), (1, .inl ((sg_g σ 133 (0)))), (2, .inl (v193))] [] σ191 (fun v σ' => v = none ∧ sg_F [136, 137, 138, 151, 78088, 79088] σ σ' ∧ Q σ') := by
                  intro v193 σ191 r194 hF192 w
                  have w := w195 v193 σ191 r194 hF192 w
                  refine wk_b tt_325 1 (pc' := 100) (ls' := [(0, .inr (.inr (.ref 88))), (1, .inl ((sg_g σ 133 (0)))), (2, .inl (v193))]) (st' := []) (σ' := σ191) rfl ?_
                  obtain ⟨m196, hm196, w⟩ := w
                  exact wk_ls [(0, .inr (.inr (.ref 88))), (1, .inl ((sg_g σ 133 (0)))), (2, .inl (v193))] rfl ⟨rfl, rfl, rfl, trivial⟩ (ih173 m196 hm196 (v193) σ191 r194 (sg_F_t (sg_F_t (sg_F_r [136, 137, 138, 151, 79088] σ161) (sg_F_m (L := [136, 137, 138, 151, 79088]) hF168 rfl)) (sg_F_m (L := [136, 137, 138, 151, 79088]) hF192 rfl)) w)
                refine wk_if2 tt_325 (tgt := 135) rfl rfl (sg_Rg _ _ _) (sg_Rg _ _ _) (fun (h188 : ¬ (sg_g σ167 138 ((v166 - 1))) = (sg_g σ167 137 ((v166 - 1)))) => ?_) (fun (h188 : (sg_g σ167 138 ((v166 - 1))) = (sg_g σ167 137 ((v166 - 1)))) => ?_)
                ·
                  have w := w.1 h188
                  refine wk_b tt_325 3 (pc' := 140) (ls' := [(3, .inl ((v166 - 1))), (0, .inr (.inr (.ref 88))), (1, .inl ((sg_g σ 133 (0)))), (2, .inl (v166))]) (st' := [.inl ((v166 - 1)), .inr (.inr (.ref 138))]) (σ' := σ167) rfl ?_
                  refine wk_ia tt_325 rfl rfl c187.1 c187.2 c186 ?_
                  obtain ⟨P199, w, w202⟩ := w
                  have jn198 : ∀ (σ200 : sg_S), sg_F [136, 79088] σ167 σ200 → P199 σ200 → wx z 2 325 150 [(0, .inr (.inr (.ref 88))), (1, .inl ((sg_g σ 133 (0)))), (2, .inl (v166)), (3, .inl ((v166 - 1)))] [] σ200 (fun v σ' => v = none ∧ sg_F [136, 137, 138, 151, 78088, 79088] σ σ' ∧ Q σ') := by
                    intro σ200 hF201 w
                    have w := w202 σ200 hF201 w
                    refine wk_b tt_325 4 (pc' := 156) (ls' := [(0, .inr (.inr (.ref 88))), (1, .inl ((sg_g σ 133 (0)))), (2, .inl (v166)), (3, .inl ((v166 - 1)))]) (st' := [.inl ((v166 - 1)), .inr (.inr (.ref 138)), .inl ((v166 - 1)), .inr (.inr (.ref 138))]) (σ' := σ200) rfl ?_
                    refine wk_ia tt_325 rfl rfl c187.1 c187.2 c186 ?_
                    rw [show (sg_g σ200 138 ((v166 - 1))) = (sg_g σ167 138 ((v166 - 1))) from by rw [sg_F_ga hF201 rfl]]
                    obtain ⟨c203, w⟩ := w
                    refine wk_b tt_325 2 (pc' := 159) (ls' := [(0, .inr (.inr (.ref 88))), (1, .inl ((sg_g σ 133 (0)))), (2, .inl (v166)), (3, .inl ((v166 - 1)))]) (st' := [.inl (((sg_g σ167 138 ((v166 - 1))) + 1)), .inl ((v166 - 1)), .inr (.inr (.ref 138))]) (σ' := σ200) rfl ?_
                    refine wk_is tt_325 rfl rfl c187.1 c187.2 c186 ?_
                    generalize hs205 : (sg_w σ200 138 ((v166 - 1)) (((sg_g σ167 138 ((v166 - 1))) + 1))) = σ204
                    have w := w σ204 hs205.symm
                    have hF206 : sg_F [138] σ200 σ204 := by rw [← hs205]; exact sg_F_w (sg_F_r _ _) rfl _
                    obtain ⟨c207, w⟩ := w
                    obtain ⟨c208, w⟩ := w
                    refine wk_b tt_325 9 (pc' := 173) (ls' := [(0, .inr (.inr (.ref 88))), (1, .inl ((sg_g σ 133 (0)))), (2, .inl (v166)), (3, .inl ((v166 - 1)))]) (st' := [.inl (((4 * (sg_g σ 133 (0))) + v166)), .inr (.inr (.ref 140)), .inr (.inr (.ref 142))]) (σ' := σ204) rfl ?_
                    obtain ⟨c209, w⟩ := w
                    refine wk_ia tt_325 rfl rfl c209.1 c209.2 c208 ?_
                    rw [show (sg_g σ204 140 (((4 * (sg_g σ 133 (0))) + v166))) = (sg_g σ 140 (((4 * (sg_g σ 133 (0))) + v166))) from by rw [sg_F_ga hF206 rfl, sg_F_ga hF201 rfl, sg_F_ga hF168 rfl, sg_F_ga hF162 rfl, sg_F_ga hF159 rfl, sg_F_ga hF156 rfl, sg_F_ga hF139 rfl, sg_F_ga hF3 rfl]]
                    refine wk_b tt_325 3 (pc' := 179) (ls' := [(0, .inr (.inr (.ref 88))), (1, .inl ((sg_g σ 133 (0)))), (2, .inl (v166)), (3, .inl ((v166 - 1)))]) (st' := [.inl (v166), .inr (.inr (.ref 151)), .inl ((sg_g σ 140 (((4 * (sg_g σ 133 (0))) + v166)))), .inr (.inr (.ref 142))]) (σ' := σ204) rfl ?_
                    obtain ⟨c210, w⟩ := w
                    refine wk_ia tt_325 rfl rfl c210.1 c210.2 r172 ?_
                    rw [show (sg_g σ204 151 (v166)) = (sg_g σ167 151 (v166)) from by rw [sg_F_ga hF206 rfl, sg_F_ga hF201 rfl]]
                    obtain ⟨c211, w⟩ := w
                    refine wk_b tt_325 1 (pc' := 181) (ls' := [(0, .inr (.inr (.ref 88))), (1, .inl ((sg_g σ 133 (0)))), (2, .inl (v166)), (3, .inl ((v166 - 1)))]) (st' := [.inl (((sg_g σ 140 (((4 * (sg_g σ 133 (0))) + v166))) + (sg_g σ167 151 (v166)))), .inr (.inr (.ref 142))]) (σ' := σ204) rfl ?_
                    obtain ⟨c212, w⟩ := w
                    refine wk_ia tt_325 rfl rfl c212.1 c212.2 c211 ?_
                    rw [show (sg_g σ204 142 (((sg_g σ 140 (((4 * (sg_g σ 133 (0))) + v166))) + (sg_g σ167 151 (v166))))) = (sg_g σ 142 (((sg_g σ 140 (((4 * (sg_g σ 133 (0))) + v166))) + (sg_g σ167 151 (v166))))) from by rw [sg_F_ga hF206 rfl, sg_F_ga hF201 rfl, sg_F_ga hF168 rfl, sg_F_ga hF162 rfl, sg_F_ga hF159 rfl, sg_F_ga hF156 rfl, sg_F_ga hF139 rfl, sg_F_ga hF3 rfl]]
                    refine wk_b tt_325 5 (pc' := 190) (ls' := [(4, .inl ((sg_g σ 142 (((sg_g σ 140 (((4 * (sg_g σ 133 (0))) + v166))) + (sg_g σ167 151 (v166))))))), (0, .inr (.inr (.ref 88))), (1, .inl ((sg_g σ 133 (0)))), (2, .inl (v166)), (3, .inl ((v166 - 1)))]) (st' := [.inl (v166), .inr (.inr (.ref 151)), .inl (v166), .inr (.inr (.ref 151))]) (σ' := σ204) rfl ?_
                    refine wk_ia tt_325 rfl rfl c210.1 c210.2 r172 ?_
                    rw [show (sg_g σ204 151 (v166)) = (sg_g σ167 151 (v166)) from by rw [sg_F_ga hF206 rfl, sg_F_ga hF201 rfl]]
                    obtain ⟨c213, w⟩ := w
                    refine wk_b tt_325 2 (pc' := 193) (ls' := [(4, .inl ((sg_g σ 142 (((sg_g σ 140 (((4 * (sg_g σ 133 (0))) + v166))) + (sg_g σ167 151 (v166))))))), (0, .inr (.inr (.ref 88))), (1, .inl ((sg_g σ 133 (0)))), (2, .inl (v166)), (3, .inl ((v166 - 1)))]) (st' := [.inl (((sg_g σ167 151 (v166)) + 1)), .inl (v166), .inr (.inr (.ref 151))]) (σ' := σ204) rfl ?_
                    refine wk_is tt_325 rfl rfl c210.1 c210.2 r172 ?_
                    generalize hs215 : (sg_w σ204 151 (v166) (((sg_g σ167 151 (v166)) + 1))) = σ214
                    have w := w σ214 hs215.symm
                    have hF216 : sg_F [151] σ204 σ214 := by rw [← hs215]; exact sg_F_w (sg_F_r _ _) rfl _
                    refine wk_b tt_325 5 (pc' := 203) (ls' := [(4, .inl ((sg_g σ 142 (((sg_g σ 140 (((4 * (sg_g σ 133 (0))) + v166))) + (sg_g σ167 151 (v166))))))), (0, .inr (.inr (.ref 88))), (1, .inl ((sg_g σ 133 (0)))), (2, .inl (v166)), (3, .inl ((v166 - 1)))]) (st' := [.inl ((sg_g σ214 88 27)), .inr (.inr (.ref 101)), .inl (v166)]) (σ' := σ214) rfl ?_
                    rw [show (sg_g σ214 88 27) = (sg_g σ 88 27) from by rw [sg_F_ga hF216 rfl, sg_F_ga hF206 rfl, sg_F_g hF201 rfl, sg_F_g hF168 rfl, sg_F_g hF162 rfl, sg_F_ga hF159 rfl, sg_F_ga hF156 rfl, sg_F_ga hF139 rfl, sg_F_g hF3 rfl]]
                    refine wk_ia tt_325 rfl rfl c131.1 c131.2 (sg_Rg _ _ _) ?_
                    rw [show (sg_g σ214 101 ((sg_g σ 88 27))) = (sg_g σ 101 ((sg_g σ 88 27))) from by rw [sg_F_ga hF216 rfl, sg_F_ga hF206 rfl, sg_F_ga hF201 rfl, sg_F_ga hF168 rfl, sg_F_ga hF162 rfl, sg_F_ga hF159 rfl, sg_F_ga hF156 rfl, sg_F_ga hF139 rfl, sg_F_ga hF3 rfl]]
                    refine wk_if2 tt_325 (tgt := 216) rfl rfl r172 (sg_Rg _ _ _) (fun (h217 : ¬ v166 = (sg_g σ 101 ((sg_g σ 88 27)))) => ?_) (fun (h217 : v166 = (sg_g σ 101 ((sg_g σ 88 27)))) => ?_)
                    ·
                      have w := w.1 h217
                      refine wk_b tt_325 4 (pc' := 223) (ls' := [(4, .inl ((sg_g σ 142 (((sg_g σ 140 (((4 * (sg_g σ 133 (0))) + v166))) + (sg_g σ167 151 (v166))))))), (0, .inr (.inr (.ref 88))), (1, .inl ((sg_g σ 133 (0)))), (2, .inl (v166)), (3, .inl ((v166 - 1)))]) (st' := [.inl ((sg_g σ 142 (((sg_g σ 140 (((4 * (sg_g σ 133 (0))) + v166))) + (sg_g σ167 151 (v166)))))), .inl (v166), .inr (.inr (.ref 137))]) (σ' := σ214) rfl ?_
                      obtain ⟨c218, w⟩ := w
                      refine wk_is tt_325 rfl rfl c218.1 c218.2 r172 ?_
                      generalize hs220 : (sg_w σ214 137 (v166) ((sg_g σ 142 (((sg_g σ 140 (((4 * (sg_g σ 133 (0))) + v166))) + (sg_g σ167 151 (v166))))))) = σ219
                      have w := w σ219 hs220.symm
                      have hF221 : sg_F [137] σ214 σ219 := by rw [← hs220]; exact sg_F_w (sg_F_r _ _) rfl _
                      refine wk_b tt_325 4 (pc' := 230) (ls' := [(4, .inl ((sg_g σ 142 (((sg_g σ 140 (((4 * (sg_g σ 133 (0))) + v166))) + (sg_g σ167 151 (v166))))))), (0, .inr (.inr (.ref 88))), (1, .inl ((sg_g σ 133 (0)))), (2, .inl (v166)), (3, .inl ((v166 - 1)))]) (st' := [.inl (0), .inl (v166), .inr (.inr (.ref 138))]) (σ' := σ219) rfl ?_
                      refine wk_is tt_325 rfl rfl c218.1 c218.2 r172 ?_
                      generalize hs223 : (sg_w σ219 138 (v166) (0)) = σ222
                      have w := w σ222 hs223.symm
                      have hF224 : sg_F [138] σ219 σ222 := by rw [← hs223]; exact sg_F_w (sg_F_r _ _) rfl _
                      refine wk_b tt_325 2 (pc' := 234) (ls' := [(4, .inl ((sg_g σ 142 (((sg_g σ 140 (((4 * (sg_g σ 133 (0))) + v166))) + (sg_g σ167 151 (v166))))))), (0, .inr (.inr (.ref 88))), (1, .inl ((sg_g σ 133 (0)))), (2, .inl (v166)), (3, .inl ((v166 - 1)))]) (st' := [.inl (91), .inr (.inr (.ref 88))]) (σ' := σ222) rfl ?_
                      refine wk_call tt_325 rfl rfl rfl rfl rfl tt_324 rfl (by decide) (w_show z σ222 (91) _ (by decide) w) (fun u230 σ226 hq228 => ?_)
                      obtain ⟨rfl, hF227, w⟩ := hq228
                      have w := w hF227
                      obtain ⟨c231, w⟩ := w
                      refine wk_b tt_325 1 (pc' := 240) (ls' := [(2, .inl ((v166 + 1))), (4, .inl ((sg_g σ 142 (((sg_g σ 140 (((4 * (sg_g σ 133 (0))) + v166))) + (sg_g σ167 151 (v166))))))), (0, .inr (.inr (.ref 88))), (1, .inl ((sg_g σ 133 (0)))), (3, .inl ((v166 - 1)))]) (st' := []) (σ' := σ226) rfl ?_
                      exact wk_ls [(0, .inr (.inr (.ref 88))), (1, .inl ((sg_g σ 133 (0)))), (2, .inl ((v166 + 1)))] rfl ⟨rfl, rfl, rfl, trivial⟩ (jn189 ((v166 + 1)) σ226 c231 (sg_F_t (sg_F_t (sg_F_t (sg_F_t (sg_F_t (sg_F_t (sg_F_r [136, 137, 138, 151, 79088] σ167) (sg_F_m (L := [136, 137, 138, 151, 79088]) hF201 rfl)) (sg_F_m (L := [136, 137, 138, 151, 79088]) hF206 rfl)) (sg_F_m (L := [136, 137, 138, 151, 79088]) hF216 rfl)) (sg_F_m (L := [136, 137, 138, 151, 79088]) hF221 rfl)) (sg_F_m (L := [136, 137, 138, 151, 79088]) hF224 rfl)) (sg_F_m (L := [136, 137, 138, 151, 79088]) hF227 rfl)) w)
                    ·
                      have w := w.2 h217
                      refine wk_b tt_325 2 (pc' := 210) (ls' := [(4, .inl ((sg_g σ 142 (((sg_g σ 140 (((4 * (sg_g σ 133 (0))) + v166))) + (sg_g σ167 151 (v166))))))), (0, .inr (.inr (.ref 88))), (1, .inl ((sg_g σ 133 (0)))), (2, .inl (v166)), (3, .inl ((v166 - 1)))]) (st' := [.inl ((sg_g σ 142 (((sg_g σ 140 (((4 * (sg_g σ 133 (0))) + v166))) + (sg_g σ167 151 (v166)))))), .inr (.inr (.ref 88))]) (σ' := σ214) rfl ?_
                      refine wk_call tt_325 rfl rfl rfl rfl rfl tt_327 rfl (by decide) (w_showNumber z σ214 ((sg_g σ 142 (((sg_g σ 140 (((4 * (sg_g σ 133 (0))) + v166))) + (sg_g σ167 151 (v166)))))) _ (sg_Rg _ _ _) w) (fun u237 σ233 hq235 => ?_)
                      obtain ⟨rfl, hF234, w⟩ := hq235
                      have w := w hF234
                      refine wk_b tt_325 1 (pc' := 240) (ls' := [(4, .inl ((sg_g σ 142 (((sg_g σ 140 (((4 * (sg_g σ 133 (0))) + v166))) + (sg_g σ167 151 (v166))))))), (0, .inr (.inr (.ref 88))), (1, .inl ((sg_g σ 133 (0)))), (2, .inl (v166)), (3, .inl ((v166 - 1)))]) (st' := []) (σ' := σ233) rfl ?_
                      exact wk_ls [(0, .inr (.inr (.ref 88))), (1, .inl ((sg_g σ 133 (0)))), (2, .inl (v166))] rfl ⟨rfl, rfl, rfl, trivial⟩ (jn189 (v166) σ233 r172 (sg_F_t (sg_F_t (sg_F_t (sg_F_t (sg_F_r [136, 137, 138, 151, 79088] σ167) (sg_F_m (L := [136, 137, 138, 151, 79088]) hF201 rfl)) (sg_F_m (L := [136, 137, 138, 151, 79088]) hF206 rfl)) (sg_F_m (L := [136, 137, 138, 151, 79088]) hF216 rfl)) (sg_F_m (L := [136, 137, 138, 151, 79088]) hF234 rfl)) w)
                  refine wk_if tt_325 (tgt := 150) rfl rfl (sg_Rg _ _ _) (fun (h197 : (sg_g σ167 138 ((v166 - 1))) ≤ 0) => ?_) (fun (h197 : 0 < (sg_g σ167 138 ((v166 - 1)))) => ?_)
                  ·
                    have w := w.1 h197
                    exact wk_ls [(0, .inr (.inr (.ref 88))), (1, .inl ((sg_g σ 133 (0)))), (2, .inl (v166)), (3, .inl ((v166 - 1)))] rfl ⟨rfl, rfl, rfl, rfl, trivial⟩ (jn198 σ167 (sg_F_r [136, 79088] σ167) w)
                  ·
                    have w := w.2 h197
                    refine wk_b tt_325 2 (pc' := 147) (ls' := [(3, .inl ((v166 - 1))), (0, .inr (.inr (.ref 88))), (1, .inl ((sg_g σ 133 (0)))), (2, .inl (v166))]) (st' := [.inl (44), .inr (.inr (.ref 88))]) (σ' := σ167) rfl ?_
                    refine wk_call tt_325 rfl rfl rfl rfl rfl tt_324 rfl (by decide) (w_show z σ167 (44) _ (by decide) w) (fun u243 σ239 hq241 => ?_)
                    obtain ⟨rfl, hF240, w⟩ := hq241
                    have w := w hF240
                    exact wk_ls [(0, .inr (.inr (.ref 88))), (1, .inl ((sg_g σ 133 (0)))), (2, .inl (v166)), (3, .inl ((v166 - 1)))] rfl ⟨rfl, rfl, rfl, rfl, trivial⟩ (jn198 σ239 (sg_F_t (sg_F_r [136, 79088] σ167) (sg_F_m (L := [136, 79088]) hF240 rfl)) w)
                ·
                  have w := w.2 h188
                  refine wk_b tt_325 2 (pc' := 126) (ls' := [(3, .inl ((v166 - 1))), (0, .inr (.inr (.ref 88))), (1, .inl ((sg_g σ 133 (0)))), (2, .inl (v166))]) (st' := [.inl (93), .inr (.inr (.ref 88))]) (σ' := σ167) rfl ?_
                  refine wk_call tt_325 rfl rfl rfl rfl rfl tt_324 rfl (by decide) (w_show z σ167 (93) _ (by decide) w) (fun u249 σ245 hq247 => ?_)
                  obtain ⟨rfl, hF246, w⟩ := hq247
                  have w := w hF246
                  obtain ⟨c250, w⟩ := w
                  refine wk_b tt_325 2 (pc' := 240) (ls' := [(2, .inl ((v166 + (-1)))), (3, .inl ((v166 - 1))), (0, .inr (.inr (.ref 88))), (1, .inl ((sg_g σ 133 (0))))]) (st' := []) (σ' := σ245) rfl ?_
                  exact wk_ls [(0, .inr (.inr (.ref 88))), (1, .inl ((sg_g σ 133 (0)))), (2, .inl ((v166 + (-1))))] rfl ⟨rfl, rfl, rfl, trivial⟩ (jn189 ((v166 + (-1))) σ245 c250 (sg_F_t (sg_F_r [136, 137, 138, 151, 79088] σ167) (sg_F_m (L := [136, 137, 138, 151, 79088]) hF246 rfl)) w)
          exact wk_ls [(0, .inr (.inr (.ref 88))), (1, .inl ((sg_g σ 133 (0)))), (2, .inl (1))] rfl ⟨rfl, rfl, rfl, trivial⟩ (lp175 μ170 (1) σ161 (by decide) (sg_F_r _ _) w176)
        have lp146 : ∀ (n150 : Nat) (v137 : Int) (σ138 : sg_S), sg_R v137 → sg_F [151] σ1 σ138 → I140 n150 v137 σ138 → wx z 2 325 55 [(0, .inr (.inr (.ref 88))), (1, .inl ((sg_g σ 133 (0)))), (2, .inl (v137))] [] σ138 (fun v σ' => v = none ∧ sg_F [136, 137, 138, 151, 78088, 79088] σ σ' ∧ Q σ') := by
          intro n150
          induction n150 using Nat.strongRecOn with
          | _ n150 ih144 =>
            intro v137 σ138 r143 hF139 w
            have w := w148 n150 v137 σ138 r143 hF139 w
            refine wk_b tt_325 2 (pc' := 57) (ls' := [(0, .inr (.inr (.ref 88))), (1, .inl ((sg_g σ 133 (0)))), (2, .inl (v137))]) (st' := [.inl (5), .inl (v137)]) (σ' := σ138) rfl ?_
            refine wk_if2 tt_325 (tgt := 73) rfl rfl r143 (by decide) (fun (h251 : 5 ≤ v137) => ?_) (fun (h251 : v137 < 5) => ?_)
            ·
              have w := w.1 h251
              exact wk_ls [(0, .inr (.inr (.ref 88))), (1, .inl ((sg_g σ 133 (0))))] rfl ⟨rfl, rfl, trivial⟩ (ex151  σ138  (sg_F_t (sg_F_r [151] σ1) (sg_F_m (L := [151]) hF139 rfl)) w)
            ·
              have w := w.2 h251
              refine wk_b tt_325 4 (pc' := 66) (ls' := [(0, .inr (.inr (.ref 88))), (1, .inl ((sg_g σ 133 (0)))), (2, .inl (v137))]) (st' := [.inl (0), .inl (v137), .inr (.inr (.ref 151))]) (σ' := σ138) rfl ?_
              obtain ⟨c252, w⟩ := w
              refine wk_is tt_325 rfl rfl c252.1 c252.2 r143 ?_
              generalize hs254 : (sg_w σ138 151 (v137) (0)) = σ253
              have w := w σ253 hs254.symm
              have hF255 : sg_F [151] σ138 σ253 := by rw [← hs254]; exact sg_F_w (sg_F_r _ _) rfl _
              obtain ⟨c256, w⟩ := w
              refine wk_b tt_325 2 (pc' := 55) (ls' := [(2, .inl ((v137 + 1))), (0, .inr (.inr (.ref 88))), (1, .inl ((sg_g σ 133 (0))))]) (st' := []) (σ' := σ253) rfl ?_
              obtain ⟨m257, hm257, w⟩ := w
              exact wk_ls [(0, .inr (.inr (.ref 88))), (1, .inl ((sg_g σ 133 (0)))), (2, .inl ((v137 + 1)))] rfl ⟨rfl, rfl, rfl, trivial⟩ (ih144 m257 hm257 ((v137 + 1)) σ253 c256 (sg_F_t (sg_F_t (sg_F_r [151] σ1) (sg_F_m (L := [151]) hF139 rfl)) (sg_F_m (L := [151]) hF255 rfl)) w)
        exact wk_ls [(0, .inr (.inr (.ref 88))), (1, .inl ((sg_g σ 133 (0)))), (2, .inl (0))] rfl ⟨rfl, rfl, rfl, trivial⟩ (lp146 μ141 (0) σ1 (by decide) (sg_F_r _ _) w147)
    ·
      have w := w.2 h132
      refine wk_b tt_325 4 (pc' := 37) (ls' := [(1, .inl ((sg_g σ 133 (0)))), (0, .inr (.inr (.ref 88)))]) (st' := [.inl (0), .inl ((sg_g σ 133 (0))), .inr (.inr (.ref 88)), .inr (.inr (.ref 88))]) (σ' := σ1) rfl ?_
      obtain ⟨c258, w⟩ := w
      have c258 : p_rowAt σ1 ((sg_g σ 133 (0))) (0) := by
        rw [pF_rowAt hF3 rfl rfl]; exact c258
      refine wk_callp tt_325 rfl rfl rfl rfl rfl tt_322 rfl (by decide) (w_rowAt z σ1 ((sg_g σ 133 (0))) (0) (sg_Rg _ _ _) (by decide) c258) ?_
      rw [vF_rowAt hF3 rfl rfl]
      have r259 := vr_rowAt σ  ((sg_g σ 133 (0))) (0) (sg_Rg _ _ _) (by decide) (by have q := c258; rw [pF_rowAt hF3 rfl rfl] at q; exact q)
      refine wk_call tt_325 rfl rfl rfl rfl rfl tt_327 rfl (by decide) (w_showNumber z σ1 ((v_rowAt σ ((sg_g σ 133 (0))) (0))) _ r259 w) (fun u265 σ261 hq263 => ?_)
      obtain ⟨rfl, hF262, w⟩ := hq263
      have w := w hF262
      obtain ⟨c266, w⟩ := w
      refine wk_b tt_325 7 (pc' := 255) (ls' := [(1, .inl ((sg_g σ 133 (0)))), (0, .inr (.inr (.ref 88)))]) (st' := []) (σ' := (sg_w σ261 88 77 (((sg_g σ261 88 78) - 80000)))) rfl ?_
      generalize hs268 : (sg_w σ261 88 77 (((sg_g σ261 88 78) - 80000))) = σ267
      have w := w σ267 hs268.symm
      have hF269 : sg_F [78088] σ261 σ267 := by rw [← hs268]; exact sg_F_w (sg_F_r _ _) rfl _
      exact wk_rV tt_325 rfl rfl ⟨rfl, (sg_F_t (sg_F_t (sg_F_t (sg_F_r [136, 137, 138, 151, 78088, 79088] σ) (sg_F_m (L := [136, 137, 138, 151, 78088, 79088]) hF3 rfl)) (sg_F_m (L := [136, 137, 138, 151, 78088, 79088]) hF262 rfl)) (sg_F_m (L := [136, 137, 138, 151, 78088, 79088]) hF269 rfl)), w⟩
