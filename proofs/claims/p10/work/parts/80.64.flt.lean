/-! What the methods of the flat run ask for (5). -/
-- NestedVectors$FlatRun.divide
def V_fDivide (σ : sg_S) (a1 : Int) (a2 : Int) (Q : sg_S → Prop) : Prop := (∃ (I4 : Nat → Int → sg_S → Prop) (X6 : sg_S → Prop), (∃ n, I4 n (0) σ) ∧ (∀ (n14 : Nat) (v1 : Int) (σ2 : sg_S), sg_R v1 → sg_F [83, 84, 85, 86, 87, 12077, 13077, 14077, 15077, 16077] σ σ2 → I4 n14 v1 σ2 → (((sg_g σ 61 23) ≤ v1 → X6 σ2) ∧ (v1 < (sg_g σ 61 23) → p_lStart σ (a2) (v1) ∧ p_lEnd σ (a2) (v1) ∧ p_lCell σ (a1) (v1) ∧ p_lItems σ (a2) ∧ V_fCannotDivide σ2 ((v_lCell σ (a1) (v1))) ((v_lItems σ (a2))) ((v_lStart σ (a2) (v1))) ((v_lEnd σ (a2) (v1))) (fun q31 _ => sg_R q31 → (∃ P39 : sg_S → Prop, ((q31 = 0 → sg_R ((v_lEnd σ (a2) (v1)) - (v_lStart σ (a2) (v1))) ∧ V_lFirst σ2 (((v_lEnd σ (a2) (v1)) - (v_lStart σ (a2) (v1)))) (fun σ47 => sg_F [83, 12077, 16077] σ2 σ47 → (∃ (I55 : Nat → Int → sg_S → Prop) (X57 : sg_S → Prop), (∃ n, I55 n ((v_lStart σ (a2) (v1))) σ47) ∧ (∀ (n65 : Nat) (v52 : Int) (σ53 : sg_S), sg_R v52 → sg_F [84, 13077, 16077] σ47 σ53 → I55 n65 v52 σ53 → (((v_lEnd σ (a2) (v1)) ≤ v52 → X57 σ53) ∧ (v52 < (v_lEnd σ (a2) (v1)) → p_lItems σ (a2) ∧ p_lCell σ ((v_lItems σ (a2))) (v52) ∧ V_lSecond σ53 ((v_lCell σ ((v_lItems σ (a2))) (v52))) (fun σ85 => sg_F [84, 13077, 16077] σ53 σ85 → sg_R (v52 + 1) ∧ (∃ m, m < n65 ∧ I55 m ((v52 + 1)) σ85))))) ∧ (∀ (σ53 : sg_S), sg_F [84, 13077, 16077] σ47 σ53 → X57 σ53 → p_lItems σ (a1) ∧ p_lStart σ (a1) (v1) ∧ p_lEnd σ (a1) (v1) ∧ V_lPick σ53 ((v_lItems σ (a1))) ((v_lStart σ (a1) (v1))) ((v_lEnd σ (a1) (v1))) (fun σ74 => sg_F [85, 86, 87, 14077, 16077] σ53 σ74 → P39 σ74))))) ∧ (¬ q31 = 0 → V_lMiss σ2 (q31) (fun σ93 => sg_F [15077] σ2 σ93 → V_lFirst σ93 (0) (fun σ99 => sg_F [83, 12077, 16077] σ93 σ99 → P39 σ99)))) ∧ (∀ (σ40 : sg_S), sg_F [83, 84, 85, 86, 87, 12077, 13077, 14077, 15077, 16077] σ2 σ40 → P39 σ40 → sg_R (v1 + 1) ∧ (∃ m, m < n14 ∧ I4 m ((v1 + 1)) σ40))))))) ∧ (∀ (σ2 : sg_S), sg_F [83, 84, 85, 86, 87, 12077, 13077, 14077, 15077, 16077] σ σ2 → X6 σ2 → V_fGive σ2 (2) (fun σ17 => sg_F [64, 78, 79, 80, 81, 82, 85, 86, 87, 8061, 11061, 11077, 12077, 13077, 14077, 15077, 16077, 17077, 18077, 19077] σ2 σ17 → Q σ17)))
set_option maxHeartbeats 4000000 in
set_option maxRecDepth 8000 in
theorem w_fDivide (z : Value) (σ : sg_S) (a1 : Int) (a2 : Int) (Q : sg_S → Prop) (ra1 : sg_R a1) (ra2 : sg_R a2) (w : V_fDivide σ a1 a2 Q) : wx z 4 60 0 [(0, .inr (.inr (.ref 61))), (1, .inl (a1)), (2, .inl (a2))] [] σ (fun v σ' => v = none ∧ sg_F [64, 78, 79, 80, 81, 82, 83, 84, 85, 86, 87, 8061, 11061, 11077, 12077, 13077, 14077, 15077, 16077, 17077, 18077, 19077] σ σ' ∧ Q σ') := by
  unfold V_fDivide at w
  refine wk_b tt_60 2 (pc' := 2) (ls' := [(3, .inl (0)), (0, .inr (.inr (.ref 61))), (1, .inl (a1)), (2, .inl (a2))]) (st' := []) (σ' := σ) rfl ?_
  obtain ⟨I4, X6, ⟨μ5, w11⟩, w12, w13⟩ := w
  have ex15 : ∀ (σ2 : sg_S), sg_F [83, 84, 85, 86, 87, 12077, 13077, 14077, 15077, 16077] σ σ2 → X6 σ2 → wx z 4 60 176 [(0, .inr (.inr (.ref 61)))] [] σ2 (fun v σ' => v = none ∧ sg_F [64, 78, 79, 80, 81, 82, 83, 84, 85, 86, 87, 8061, 11061, 11077, 12077, 13077, 14077, 15077, 16077, 17077, 18077, 19077] σ σ' ∧ Q σ') := by
    intro σ2 hF3 w
    have w := w13 σ2 hF3 w
    refine wk_b tt_60 2 (pc' := 178) (ls' := [(0, .inr (.inr (.ref 61)))]) (st' := [.inl (2), .inr (.inr (.ref 61))]) (σ' := σ2) rfl ?_
    refine wk_call tt_60 rfl rfl rfl rfl rfl tt_65 rfl (by decide) (w_fGive z σ2 (2) _ (by decide) w) (fun u21 σ17 hq19 => ?_)
    obtain ⟨rfl, hF18, w⟩ := hq19
    have w := w hF18
    exact wk_rV tt_60 rfl rfl ⟨rfl, (sg_F_t (sg_F_t (sg_F_r [64, 78, 79, 80, 81, 82, 83, 84, 85, 86, 87, 8061, 11061, 11077, 12077, 13077, 14077, 15077, 16077, 17077, 18077, 19077] σ) (sg_F_m (L := [64, 78, 79, 80, 81, 82, 83, 84, 85, 86, 87, 8061, 11061, 11077, 12077, 13077, 14077, 15077, 16077, 17077, 18077, 19077]) hF3 rfl)) (sg_F_m (L := [64, 78, 79, 80, 81, 82, 83, 84, 85, 86, 87, 8061, 11061, 11077, 12077, 13077, 14077, 15077, 16077, 17077, 18077, 19077]) hF18 rfl)), w⟩
  have lp10 : ∀ (n14 : Nat) (v1 : Int) (σ2 : sg_S), sg_R v1 → sg_F [83, 84, 85, 86, 87, 12077, 13077, 14077, 15077, 16077] σ σ2 → I4 n14 v1 σ2 → wx z 4 60 2 [(0, .inr (.inr (.ref 61))), (1, .inl (a1)), (2, .inl (a2)), (3, .inl (v1))] [] σ2 (fun v σ' => v = none ∧ sg_F [64, 78, 79, 80, 81, 82, 83, 84, 85, 86, 87, 8061, 11061, 11077, 12077, 13077, 14077, 15077, 16077, 17077, 18077, 19077] σ σ' ∧ Q σ') := by
    intro n14
    induction n14 using Nat.strongRecOn with
    | _ n14 ih8 =>
      intro v1 σ2 r7 hF3 w
      have w := w12 n14 v1 σ2 r7 hF3 w
      refine wk_b tt_60 3 (pc' := 7) (ls' := [(0, .inr (.inr (.ref 61))), (1, .inl (a1)), (2, .inl (a2)), (3, .inl (v1))]) (st' := [.inl ((sg_g σ2 61 23)), .inl (v1)]) (σ' := σ2) rfl ?_
      rw [show (sg_g σ2 61 23) = (sg_g σ 61 23) from by rw [sg_F_ga hF3 rfl]]
      refine wk_if2 tt_60 (tgt := 176) rfl rfl r7 (sg_Rg _ _ _) (fun (h22 : (sg_g σ 61 23) ≤ v1) => ?_) (fun (h22 : v1 < (sg_g σ 61 23)) => ?_)
      ·
        have w := w.1 h22
        exact wk_ls [(0, .inr (.inr (.ref 61)))] rfl ⟨rfl, trivial⟩ (ex15  σ2  (sg_F_t (sg_F_r [83, 84, 85, 86, 87, 12077, 13077, 14077, 15077, 16077] σ) (sg_F_m (L := [83, 84, 85, 86, 87, 12077, 13077, 14077, 15077, 16077]) hF3 rfl)) w)
      ·
        have w := w.2 h22
        refine wk_b tt_60 4 (pc' := 16) (ls' := [(0, .inr (.inr (.ref 61))), (1, .inl (a1)), (2, .inl (a2)), (3, .inl (v1))]) (st' := [.inl (v1), .inl (a2), .inr (.inr (.ref 77))]) (σ' := σ2) rfl ?_
        obtain ⟨c23, w⟩ := w
        have c23 : p_lStart σ2 (a2) (v1) := by
          rw [pF_lStart hF3 rfl rfl]; exact c23
        refine wk_callp tt_60 rfl rfl rfl rfl rfl tt_114 rfl (by decide) (w_lStart z σ2 (a2) (v1) ra2 r7 c23) ?_
        rw [vF_lStart hF3 rfl rfl]
        have r24 := vr_lStart σ  (a2) (v1) ra2 r7 (by have q := c23; rw [pF_lStart hF3 rfl rfl] at q; exact q)
        refine wk_b tt_60 5 (pc' := 27) (ls' := [(4, .inl ((v_lStart σ (a2) (v1)))), (0, .inr (.inr (.ref 61))), (1, .inl (a1)), (2, .inl (a2)), (3, .inl (v1))]) (st' := [.inl (v1), .inl (a2), .inr (.inr (.ref 77))]) (σ' := σ2) rfl ?_
        obtain ⟨c25, w⟩ := w
        have c25 : p_lEnd σ2 (a2) (v1) := by
          rw [pF_lEnd hF3 rfl rfl rfl]; exact c25
        refine wk_callp tt_60 rfl rfl rfl rfl rfl tt_104 rfl (by decide) (w_lEnd z σ2 (a2) (v1) ra2 r7 c25) ?_
        rw [vF_lEnd hF3 rfl rfl rfl]
        have r26 := vr_lEnd σ  (a2) (v1) ra2 r7 (by have q := c25; rw [pF_lEnd hF3 rfl rfl rfl] at q; exact q)
        refine wk_b tt_60 6 (pc' := 39) (ls' := [(5, .inl ((v_lEnd σ (a2) (v1)))), (4, .inl ((v_lStart σ (a2) (v1)))), (0, .inr (.inr (.ref 61))), (1, .inl (a1)), (2, .inl (a2)), (3, .inl (v1))]) (st' := [.inl (v1), .inl (a1), .inr (.inr (.ref 77)), .inr (.inr (.ref 61))]) (σ' := σ2) rfl ?_
        obtain ⟨c27, w⟩ := w
        have c27 : p_lCell σ2 (a1) (v1) := by
          rw [pF_lCell hF3 rfl rfl]; exact c27
        refine wk_callp tt_60 rfl rfl rfl rfl rfl tt_100 rfl (by decide) (w_lCell z σ2 (a1) (v1) ra1 r7 c27) ?_
        rw [vF_lCell hF3 rfl rfl]
        have r28 := vr_lCell σ  (a1) (v1) ra1 r7 (by have q := c27; rw [pF_lCell hF3 rfl rfl] at q; exact q)
        refine wk_b tt_60 3 (pc' := 47) (ls' := [(5, .inl ((v_lEnd σ (a2) (v1)))), (4, .inl ((v_lStart σ (a2) (v1)))), (0, .inr (.inr (.ref 61))), (1, .inl (a1)), (2, .inl (a2)), (3, .inl (v1))]) (st' := [.inl (a2), .inr (.inr (.ref 77)), .inl ((v_lCell σ (a1) (v1))), .inr (.inr (.ref 61))]) (σ' := σ2) rfl ?_
        obtain ⟨c29, w⟩ := w
        have c29 : p_lItems σ2 (a2) := by
          rw [pF_lItems hF3 rfl]; exact c29
        refine wk_callp tt_60 rfl rfl rfl rfl rfl tt_106 rfl (by decide) (w_lItems z σ2 (a2) ra2 c29) ?_
        rw [vF_lItems hF3 rfl]
        have r30 := vr_lItems σ  (a2) ra2 (by have q := c29; rw [pF_lItems hF3 rfl] at q; exact q)
        refine wk_b tt_60 2 (pc' := 54) (ls' := [(5, .inl ((v_lEnd σ (a2) (v1)))), (4, .inl ((v_lStart σ (a2) (v1)))), (0, .inr (.inr (.ref 61))), (1, .inl (a1)), (2, .inl (a2)), (3, .inl (v1))]) (st' := [.inl ((v_lEnd σ (a2) (v1))), .inl ((v_lStart σ (a2) (v1))), .inl ((v_lItems σ (a2))), .inl ((v_lCell σ (a1) (v1))), .inr (.inr (.ref 61))]) (σ' := σ2) rfl ?_
        refine wk_call tt_60 rfl rfl rfl rfl rfl tt_54 rfl (by decide) (w_fCannotDivide z σ2 ((v_lCell σ (a1) (v1))) ((v_lItems σ (a2))) ((v_lStart σ (a2) (v1))) ((v_lEnd σ (a2) (v1))) _ r28 r30 r24 r26 w) (fun u36 σ32 hq34 => ?_)
        obtain ⟨q31, rfl, r35, rfl, w⟩ := hq34
        have w := w r35
        refine wk_b tt_60 2 (pc' := 61) (ls' := [(6, .inl (q31)), (5, .inl ((v_lEnd σ (a2) (v1)))), (4, .inl ((v_lStart σ (a2) (v1)))), (0, .inr (.inr (.ref 61))), (1, .inl (a1)), (2, .inl (a2)), (3, .inl (v1))]) (st' := [.inl (q31)]) (σ' := σ2) rfl ?_
        obtain ⟨P39, w, w42⟩ := w
        have jn38 : ∀ (σ40 : sg_S), sg_F [83, 84, 85, 86, 87, 12077, 13077, 14077, 15077, 16077] σ2 σ40 → P39 σ40 → wx z 4 60 170 [(0, .inr (.inr (.ref 61))), (1, .inl (a1)), (2, .inl (a2)), (3, .inl (v1))] [] σ40 (fun v σ' => v = none ∧ sg_F [64, 78, 79, 80, 81, 82, 83, 84, 85, 86, 87, 8061, 11061, 11077, 12077, 13077, 14077, 15077, 16077, 17077, 18077, 19077] σ σ' ∧ Q σ') := by
          intro σ40 hF41 w
          have w := w42 σ40 hF41 w
          obtain ⟨c43, w⟩ := w
          refine wk_b tt_60 2 (pc' := 2) (ls' := [(3, .inl ((v1 + 1))), (0, .inr (.inr (.ref 61))), (1, .inl (a1)), (2, .inl (a2))]) (st' := []) (σ' := σ40) rfl ?_
          obtain ⟨m44, hm44, w⟩ := w
          exact wk_ls [(0, .inr (.inr (.ref 61))), (1, .inl (a1)), (2, .inl (a2)), (3, .inl ((v1 + 1)))] rfl ⟨rfl, rfl, rfl, rfl, trivial⟩ (ih8 m44 hm44 ((v1 + 1)) σ40 c43 (sg_F_t (sg_F_t (sg_F_r [83, 84, 85, 86, 87, 12077, 13077, 14077, 15077, 16077] σ) (sg_F_m (L := [83, 84, 85, 86, 87, 12077, 13077, 14077, 15077, 16077]) hF3 rfl)) (sg_F_m (L := [83, 84, 85, 86, 87, 12077, 13077, 14077, 15077, 16077]) hF41 rfl)) w)
        refine wk_if tt_60 (tgt := 84) rfl rfl r35 (fun (h37 : q31 = 0) => ?_) (fun (h37 : ¬ q31 = 0) => ?_)
        ·
          have w := w.1 h37
          obtain ⟨c45, w⟩ := w
          refine wk_b tt_60 5 (pc' := 93) (ls' := [(6, .inl (q31)), (5, .inl ((v_lEnd σ (a2) (v1)))), (4, .inl ((v_lStart σ (a2) (v1)))), (0, .inr (.inr (.ref 61))), (1, .inl (a1)), (2, .inl (a2)), (3, .inl (v1))]) (st' := [.inl (((v_lEnd σ (a2) (v1)) - (v_lStart σ (a2) (v1)))), .inr (.inr (.ref 77))]) (σ' := σ2) rfl ?_
          refine wk_call tt_60 rfl rfl rfl rfl rfl tt_105 rfl (by decide) (w_lFirst z σ2 (((v_lEnd σ (a2) (v1)) - (v_lStart σ (a2) (v1)))) _ c45 w) (fun u51 σ47 hq49 => ?_)
          obtain ⟨rfl, hF48, w⟩ := hq49
          have w := w hF48
          refine wk_b tt_60 2 (pc' := 100) (ls' := [(7, .inl ((v_lStart σ (a2) (v1)))), (6, .inl (q31)), (5, .inl ((v_lEnd σ (a2) (v1)))), (4, .inl ((v_lStart σ (a2) (v1)))), (0, .inr (.inr (.ref 61))), (1, .inl (a1)), (2, .inl (a2)), (3, .inl (v1))]) (st' := []) (σ' := σ47) rfl ?_
          obtain ⟨I55, X57, ⟨μ56, w62⟩, w63, w64⟩ := w
          have ex66 : ∀ (σ53 : sg_S), sg_F [84, 13077, 16077] σ47 σ53 → X57 σ53 → wx z 4 60 137 [(0, .inr (.inr (.ref 61))), (1, .inl (a1)), (2, .inl (a2)), (3, .inl (v1))] [] σ53 (fun v σ' => v = none ∧ sg_F [64, 78, 79, 80, 81, 82, 83, 84, 85, 86, 87, 8061, 11061, 11077, 12077, 13077, 14077, 15077, 16077, 17077, 18077, 19077] σ σ' ∧ Q σ') := by
            intro σ53 hF54 w
            have w := w64 σ53 hF54 w
            refine wk_b tt_60 5 (pc' := 146) (ls' := [(0, .inr (.inr (.ref 61))), (1, .inl (a1)), (2, .inl (a2)), (3, .inl (v1))]) (st' := [.inl (a1), .inr (.inr (.ref 77)), .inr (.inr (.ref 77))]) (σ' := σ53) rfl ?_
            obtain ⟨c67, w⟩ := w
            have c67 : p_lItems σ53 (a1) := by
              rw [pF_lItems hF54 rfl, pF_lItems hF48 rfl, pF_lItems hF3 rfl]; exact c67
            refine wk_callp tt_60 rfl rfl rfl rfl rfl tt_106 rfl (by decide) (w_lItems z σ53 (a1) ra1 c67) ?_
            rw [vF_lItems hF54 rfl, vF_lItems hF48 rfl, vF_lItems hF3 rfl]
            have r68 := vr_lItems σ  (a1) ra1 (by have q := c67; rw [pF_lItems hF54 rfl, pF_lItems hF48 rfl, pF_lItems hF3 rfl] at q; exact q)
            refine wk_b tt_60 4 (pc' := 155) (ls' := [(0, .inr (.inr (.ref 61))), (1, .inl (a1)), (2, .inl (a2)), (3, .inl (v1))]) (st' := [.inl (v1), .inl (a1), .inr (.inr (.ref 77)), .inl ((v_lItems σ (a1))), .inr (.inr (.ref 77))]) (σ' := σ53) rfl ?_
            obtain ⟨c69, w⟩ := w
            have c69 : p_lStart σ53 (a1) (v1) := by
              rw [pF_lStart hF54 rfl rfl, pF_lStart hF48 rfl rfl, pF_lStart hF3 rfl rfl]; exact c69
            refine wk_callp tt_60 rfl rfl rfl rfl rfl tt_114 rfl (by decide) (w_lStart z σ53 (a1) (v1) ra1 r7 c69) ?_
            rw [vF_lStart hF54 rfl rfl, vF_lStart hF48 rfl rfl, vF_lStart hF3 rfl rfl]
            have r70 := vr_lStart σ  (a1) (v1) ra1 r7 (by have q := c69; rw [pF_lStart hF54 rfl rfl, pF_lStart hF48 rfl rfl, pF_lStart hF3 rfl rfl] at q; exact q)
            refine wk_b tt_60 4 (pc' := 164) (ls' := [(0, .inr (.inr (.ref 61))), (1, .inl (a1)), (2, .inl (a2)), (3, .inl (v1))]) (st' := [.inl (v1), .inl (a1), .inr (.inr (.ref 77)), .inl ((v_lStart σ (a1) (v1))), .inl ((v_lItems σ (a1))), .inr (.inr (.ref 77))]) (σ' := σ53) rfl ?_
            obtain ⟨c71, w⟩ := w
            have c71 : p_lEnd σ53 (a1) (v1) := by
              rw [pF_lEnd hF54 rfl rfl rfl, pF_lEnd hF48 rfl rfl rfl, pF_lEnd hF3 rfl rfl rfl]; exact c71
            refine wk_callp tt_60 rfl rfl rfl rfl rfl tt_104 rfl (by decide) (w_lEnd z σ53 (a1) (v1) ra1 r7 c71) ?_
            rw [vF_lEnd hF54 rfl rfl rfl, vF_lEnd hF48 rfl rfl rfl, vF_lEnd hF3 rfl rfl rfl]
            have r72 := vr_lEnd σ  (a1) (v1) ra1 r7 (by have q := c71; rw [pF_lEnd hF54 rfl rfl rfl, pF_lEnd hF48 rfl rfl rfl, pF_lEnd hF3 rfl rfl rfl] at q; exact q)
            refine wk_call tt_60 rfl rfl rfl rfl rfl tt_109 rfl (by decide) (w_lPick z σ53 ((v_lItems σ (a1))) ((v_lStart σ (a1) (v1))) ((v_lEnd σ (a1) (v1))) _ r68 r70 r72 w) (fun u78 σ74 hq76 => ?_)
            obtain ⟨rfl, hF75, w⟩ := hq76
            have w := w hF75
            exact wk_ls [(0, .inr (.inr (.ref 61))), (1, .inl (a1)), (2, .inl (a2)), (3, .inl (v1))] rfl ⟨rfl, rfl, rfl, rfl, trivial⟩ (jn38 σ74 (sg_F_t (sg_F_t (sg_F_t (sg_F_r [83, 84, 85, 86, 87, 12077, 13077, 14077, 15077, 16077] σ2) (sg_F_m (L := [83, 84, 85, 86, 87, 12077, 13077, 14077, 15077, 16077]) hF48 rfl)) (sg_F_m (L := [83, 84, 85, 86, 87, 12077, 13077, 14077, 15077, 16077]) hF54 rfl)) (sg_F_m (L := [83, 84, 85, 86, 87, 12077, 13077, 14077, 15077, 16077]) hF75 rfl)) w)
          have lp61 : ∀ (n65 : Nat) (v52 : Int) (σ53 : sg_S), sg_R v52 → sg_F [84, 13077, 16077] σ47 σ53 → I55 n65 v52 σ53 → wx z 4 60 100 [(0, .inr (.inr (.ref 61))), (1, .inl (a1)), (2, .inl (a2)), (3, .inl (v1)), (5, .inl ((v_lEnd σ (a2) (v1)))), (7, .inl (v52))] [] σ53 (fun v σ' => v = none ∧ sg_F [64, 78, 79, 80, 81, 82, 83, 84, 85, 86, 87, 8061, 11061, 11077, 12077, 13077, 14077, 15077, 16077, 17077, 18077, 19077] σ σ' ∧ Q σ') := by
            intro n65
            induction n65 using Nat.strongRecOn with
            | _ n65 ih59 =>
              intro v52 σ53 r58 hF54 w
              have w := w63 n65 v52 σ53 r58 hF54 w
              refine wk_b tt_60 2 (pc' := 104) (ls' := [(0, .inr (.inr (.ref 61))), (1, .inl (a1)), (2, .inl (a2)), (3, .inl (v1)), (5, .inl ((v_lEnd σ (a2) (v1)))), (7, .inl (v52))]) (st' := [.inl ((v_lEnd σ (a2) (v1))), .inl (v52)]) (σ' := σ53) rfl ?_
              refine wk_if2 tt_60 (tgt := 137) rfl rfl r58 r26 (fun (h79 : (v_lEnd σ (a2) (v1)) ≤ v52) => ?_) (fun (h79 : v52 < (v_lEnd σ (a2) (v1))) => ?_)
              ·
                have w := w.1 h79
                exact wk_ls [(0, .inr (.inr (.ref 61))), (1, .inl (a1)), (2, .inl (a2)), (3, .inl (v1))] rfl ⟨rfl, rfl, rfl, rfl, trivial⟩ (ex66  σ53  (sg_F_t (sg_F_r [84, 13077, 16077] σ47) (sg_F_m (L := [84, 13077, 16077]) hF54 rfl)) w)
              ·
                have w := w.2 h79
                refine wk_b tt_60 7 (pc' := 120) (ls' := [(0, .inr (.inr (.ref 61))), (1, .inl (a1)), (2, .inl (a2)), (3, .inl (v1)), (5, .inl ((v_lEnd σ (a2) (v1)))), (7, .inl (v52))]) (st' := [.inl (a2), .inr (.inr (.ref 77)), .inr (.inr (.ref 77)), .inr (.inr (.ref 77))]) (σ' := σ53) rfl ?_
                obtain ⟨c80, w⟩ := w
                have c80 : p_lItems σ53 (a2) := by
                  rw [pF_lItems hF54 rfl, pF_lItems hF48 rfl, pF_lItems hF3 rfl]; exact c80
                refine wk_callp tt_60 rfl rfl rfl rfl rfl tt_106 rfl (by decide) (w_lItems z σ53 (a2) ra2 c80) ?_
                rw [vF_lItems hF54 rfl, vF_lItems hF48 rfl, vF_lItems hF3 rfl]
                have r81 := vr_lItems σ  (a2) ra2 (by have q := c80; rw [pF_lItems hF54 rfl, pF_lItems hF48 rfl, pF_lItems hF3 rfl] at q; exact q)
                refine wk_b tt_60 1 (pc' := 125) (ls' := [(0, .inr (.inr (.ref 61))), (1, .inl (a1)), (2, .inl (a2)), (3, .inl (v1)), (5, .inl ((v_lEnd σ (a2) (v1)))), (7, .inl (v52))]) (st' := [.inl (v52), .inl ((v_lItems σ (a2))), .inr (.inr (.ref 77)), .inr (.inr (.ref 77))]) (σ' := σ53) rfl ?_
                obtain ⟨c82, w⟩ := w
                have c82 : p_lCell σ53 ((v_lItems σ (a2))) (v52) := by
                  rw [pF_lCell hF54 rfl rfl, pF_lCell hF48 rfl rfl, pF_lCell hF3 rfl rfl]; exact c82
                refine wk_callp tt_60 rfl rfl rfl rfl rfl tt_100 rfl (by decide) (w_lCell z σ53 ((v_lItems σ (a2))) (v52) r81 r58 c82) ?_
                rw [vF_lCell hF54 rfl rfl, vF_lCell hF48 rfl rfl, vF_lCell hF3 rfl rfl]
                have r83 := vr_lCell σ  ((v_lItems σ (a2))) (v52) r81 r58 (by have q := c82; rw [pF_lCell hF54 rfl rfl, pF_lCell hF48 rfl rfl, pF_lCell hF3 rfl rfl] at q; exact q)
                refine wk_call tt_60 rfl rfl rfl rfl rfl tt_112 rfl (by decide) (w_lSecond z σ53 ((v_lCell σ ((v_lItems σ (a2))) (v52))) _ r83 w) (fun u89 σ85 hq87 => ?_)
                obtain ⟨rfl, hF86, w⟩ := hq87
                have w := w hF86
                obtain ⟨c90, w⟩ := w
                refine wk_b tt_60 2 (pc' := 100) (ls' := [(7, .inl ((v52 + 1))), (0, .inr (.inr (.ref 61))), (1, .inl (a1)), (2, .inl (a2)), (3, .inl (v1)), (5, .inl ((v_lEnd σ (a2) (v1))))]) (st' := []) (σ' := σ85) rfl ?_
                obtain ⟨m91, hm91, w⟩ := w
                exact wk_ls [(0, .inr (.inr (.ref 61))), (1, .inl (a1)), (2, .inl (a2)), (3, .inl (v1)), (5, .inl ((v_lEnd σ (a2) (v1)))), (7, .inl ((v52 + 1)))] rfl ⟨rfl, rfl, rfl, rfl, rfl, rfl, trivial⟩ (ih59 m91 hm91 ((v52 + 1)) σ85 c90 (sg_F_t (sg_F_t (sg_F_r [84, 13077, 16077] σ47) (sg_F_m (L := [84, 13077, 16077]) hF54 rfl)) (sg_F_m (L := [84, 13077, 16077]) hF86 rfl)) w)
          exact wk_ls [(0, .inr (.inr (.ref 61))), (1, .inl (a1)), (2, .inl (a2)), (3, .inl (v1)), (5, .inl ((v_lEnd σ (a2) (v1)))), (7, .inl ((v_lStart σ (a2) (v1))))] rfl ⟨rfl, rfl, rfl, rfl, rfl, rfl, trivial⟩ (lp61 μ56 ((v_lStart σ (a2) (v1))) σ47 r24 (sg_F_r _ _) w62)
        ·
          have w := w.2 h37
          refine wk_b tt_60 3 (pc' := 70) (ls' := [(6, .inl (q31)), (5, .inl ((v_lEnd σ (a2) (v1)))), (4, .inl ((v_lStart σ (a2) (v1)))), (0, .inr (.inr (.ref 61))), (1, .inl (a1)), (2, .inl (a2)), (3, .inl (v1))]) (st' := [.inl (q31), .inr (.inr (.ref 77))]) (σ' := σ2) rfl ?_
          refine wk_call tt_60 rfl rfl rfl rfl rfl tt_108 rfl (by decide) (w_lMiss z σ2 (q31) _ r35 w) (fun u97 σ93 hq95 => ?_)
          obtain ⟨rfl, hF94, w⟩ := hq95
          have w := w hF94
          refine wk_b tt_60 3 (pc' := 78) (ls' := [(6, .inl (q31)), (5, .inl ((v_lEnd σ (a2) (v1)))), (4, .inl ((v_lStart σ (a2) (v1)))), (0, .inr (.inr (.ref 61))), (1, .inl (a1)), (2, .inl (a2)), (3, .inl (v1))]) (st' := [.inl (0), .inr (.inr (.ref 77))]) (σ' := σ93) rfl ?_
          refine wk_call tt_60 rfl rfl rfl rfl rfl tt_105 rfl (by decide) (w_lFirst z σ93 (0) _ (by decide) w) (fun u103 σ99 hq101 => ?_)
          obtain ⟨rfl, hF100, w⟩ := hq101
          have w := w hF100
          refine wk_b tt_60 1 (pc' := 170) (ls' := [(6, .inl (q31)), (5, .inl ((v_lEnd σ (a2) (v1)))), (4, .inl ((v_lStart σ (a2) (v1)))), (0, .inr (.inr (.ref 61))), (1, .inl (a1)), (2, .inl (a2)), (3, .inl (v1))]) (st' := []) (σ' := σ99) rfl ?_
          exact wk_ls [(0, .inr (.inr (.ref 61))), (1, .inl (a1)), (2, .inl (a2)), (3, .inl (v1))] rfl ⟨rfl, rfl, rfl, rfl, trivial⟩ (jn38 σ99 (sg_F_t (sg_F_t (sg_F_r [83, 84, 85, 86, 87, 12077, 13077, 14077, 15077, 16077] σ2) (sg_F_m (L := [83, 84, 85, 86, 87, 12077, 13077, 14077, 15077, 16077]) hF94 rfl)) (sg_F_m (L := [83, 84, 85, 86, 87, 12077, 13077, 14077, 15077, 16077]) hF100 rfl)) w)
  exact wk_ls [(0, .inr (.inr (.ref 61))), (1, .inl (a1)), (2, .inl (a2)), (3, .inl (0))] rfl ⟨rfl, rfl, rfl, rfl, trivial⟩ (lp10 μ5 (0) σ (by decide) (sg_F_r _ _) w11)
-- NestedVectors$Image.add
def V_ImageAdd (σ : sg_S) (a1 : Int) (Q : sg_S → Prop) : Prop := ∀ σ1, σ1 = (sx_put σ 68 6001 ((sg_g σ 65 2)) (a1)) → sg_R ((sg_g σ 65 2) + 1) ∧ ∀ σ5, σ5 = (sg_w σ1 65 2 (((sg_g σ 65 2) + 1))) → Q σ5
set_option maxHeartbeats 4000000 in
set_option maxRecDepth 8000 in
theorem w_ImageAdd (z : Value) (σ : sg_S) (a1 : Int) (Q : sg_S → Prop) (ra1 : sg_R a1) (w : V_ImageAdd σ a1 Q) : wx z 1 91 0 [(0, .inr (.inr (.ref 65))), (1, .inl (a1))] [] σ (fun v σ' => v = none ∧ sg_F [68, 3065] σ σ' ∧ Q σ') := by
  unfold V_ImageAdd at w
  refine wk_b tt_91 5 (pc' := 9) (ls' := [(0, .inr (.inr (.ref 65))), (1, .inl (a1))]) (st' := [.inl (a1), .inl ((sg_g σ 65 2)), .inr (.inr (.ref 68))]) (σ' := σ) rfl ?_
  refine wk_callp tt_91 rfl rfl rfl rfl rfl tt_21 rfl (by decide) (pt_i0 z σ 68 6001 ((sg_g σ 65 2)) (a1) rfl (by decide) (sg_Rg _ _ _)) ?_
  show wx z 1 91 12 [(0, .inr (.inr (.ref 65))), (1, .inl (a1))] [] (sx_put σ 68 6001 ((sg_g σ 65 2)) (a1)) (fun v σ' => v = none ∧ sg_F [68, 3065] σ σ' ∧ Q σ')
  generalize hs2 : (sx_put σ 68 6001 ((sg_g σ 65 2)) (a1)) = σ1
  have w := w σ1 hs2.symm
  have hF3 : sg_F [68] σ σ1 := by rw [← hs2]; exact sg_F_p (sg_F_r _ _) rfl _ _ _
  obtain ⟨c4, w⟩ := w
  refine wk_b tt_91 6 (pc' := 22) (ls' := [(0, .inr (.inr (.ref 65))), (1, .inl (a1))]) (st' := []) (σ' := (sg_w σ1 65 2 (((sg_g σ1 65 2) + 1)))) rfl ?_
  rw [show (sg_g σ1 65 2) = (sg_g σ 65 2) from by rw [sg_F_ga hF3 rfl]]
  generalize hs6 : (sg_w σ1 65 2 (((sg_g σ 65 2) + 1))) = σ5
  have w := w σ5 hs6.symm
  have hF7 : sg_F [3065] σ1 σ5 := by rw [← hs6]; exact sg_F_w (sg_F_r _ _) rfl _
  exact wk_rV tt_91 rfl rfl ⟨rfl, (sg_F_t (sg_F_t (sg_F_r [68, 3065] σ) (sg_F_m (L := [68, 3065]) hF3 rfl)) (sg_F_m (L := [68, 3065]) hF7 rfl)), w⟩
-- NestedVectors$FlatRun.flatten
def V_fFlatten (σ : sg_S) (a1 : Int) (Q : sg_S → Prop) : Prop := p_lItems σ (a1) ∧ (∃ (I6 : Nat → Int → sg_S → Prop) (X8 : sg_S → Prop), (∃ n, I6 n (0) σ) ∧ (∀ (n16 : Nat) (v3 : Int) (σ4 : sg_S), sg_R v3 → sg_F [83, 85, 86, 87, 12077, 14077, 15077, 16077] σ σ4 → I6 n16 v3 σ4 → (((sg_g σ 61 23) ≤ v3 → X8 σ4) ∧ (v3 < (sg_g σ 61 23) → p_lCell σ (a1) (v3) ∧ ∀ v29 : Int, v29 = (if ¬ (v_lCell σ (a1) (v3)) = 0 then (0 : Int) else (1 : Int)) → sg_R v29 → ((v29 = 0 → p_lStart σ (a1) (v3) ∧ p_lStart σ ((v_lItems σ (a1))) ((v_lStart σ (a1) (v3))) ∧ True) ∧ (¬ v29 = 0 → True)) ∧ ∀ v34 : Int, v34 = (if v29 = 0 then (v_lStart σ ((v_lItems σ (a1))) ((v_lStart σ (a1) (v3)))) else (0 : Int)) → sg_R v34 → ((v29 = 0 → p_lEnd σ (a1) (v3) ∧ sg_R ((v_lEnd σ (a1) (v3)) - 1) ∧ p_lEnd σ ((v_lItems σ (a1))) (((v_lEnd σ (a1) (v3)) - 1)) ∧ True) ∧ (¬ v29 = 0 → True)) ∧ ∀ v39 : Int, v39 = (if v29 = 0 then (v_lEnd σ ((v_lItems σ (a1))) (((v_lEnd σ (a1) (v3)) - 1))) else (0 : Int)) → sg_R v39 → sg_R (v39 - v34) ∧ (∃ P45 : sg_S → Prop, (((v_xBadSize ((v39 - v34))) = 0 → V_lFirst σ4 ((v39 - v34)) (fun σ52 => sg_F [83, 12077, 16077] σ4 σ52 → p_lItems σ ((v_lItems σ (a1))) ∧ V_lPick σ52 ((v_lItems σ ((v_lItems σ (a1))))) (v34) (v39) (fun σ60 => sg_F [85, 86, 87, 14077, 16077] σ52 σ60 → P45 σ60))) ∧ (¬ (v_xBadSize ((v39 - v34))) = 0 → V_lMiss σ4 (5) (fun σ66 => sg_F [15077] σ4 σ66 → V_lFirst σ66 (0) (fun σ72 => sg_F [83, 12077, 16077] σ66 σ72 → P45 σ72)))) ∧ (∀ (σ46 : sg_S), sg_F [83, 85, 86, 87, 12077, 14077, 15077, 16077] σ4 σ46 → P45 σ46 → sg_R (v3 + 1) ∧ (∃ m, m < n16 ∧ I6 m ((v3 + 1)) σ46)))))) ∧ (∀ (σ4 : sg_S), sg_F [83, 85, 86, 87, 12077, 14077, 15077, 16077] σ σ4 → X8 σ4 → V_fGive σ4 (1) (fun σ19 => sg_F [64, 78, 79, 80, 81, 82, 85, 86, 87, 8061, 11061, 11077, 12077, 13077, 14077, 15077, 16077, 17077, 18077, 19077] σ4 σ19 → Q σ19)))
set_option maxHeartbeats 4000000 in
set_option maxRecDepth 8000 in
theorem w_fFlatten (z : Value) (σ : sg_S) (a1 : Int) (Q : sg_S → Prop) (ra1 : sg_R a1) (w : V_fFlatten σ a1 Q) : wx z 4 63 0 [(0, .inr (.inr (.ref 61))), (1, .inl (a1))] [] σ (fun v σ' => v = none ∧ sg_F [64, 78, 79, 80, 81, 82, 83, 85, 86, 87, 8061, 11061, 11077, 12077, 13077, 14077, 15077, 16077, 17077, 18077, 19077] σ σ' ∧ Q σ') := by
  unfold V_fFlatten at w
  refine wk_b tt_63 3 (pc' := 5) (ls' := [(0, .inr (.inr (.ref 61))), (1, .inl (a1))]) (st' := [.inl (a1), .inr (.inr (.ref 77))]) (σ' := σ) rfl ?_
  obtain ⟨c1, w⟩ := w
  refine wk_callp tt_63 rfl rfl rfl rfl rfl tt_106 rfl (by decide) (w_lItems z σ (a1) ra1 c1) ?_
  have r2 := vr_lItems σ  (a1) ra1 c1
  refine wk_b tt_63 3 (pc' := 11) (ls' := [(3, .inl (0)), (2, .inl ((v_lItems σ (a1)))), (0, .inr (.inr (.ref 61))), (1, .inl (a1))]) (st' := []) (σ' := σ) rfl ?_
  obtain ⟨I6, X8, ⟨μ7, w13⟩, w14, w15⟩ := w
  have ex17 : ∀ (σ4 : sg_S), sg_F [83, 85, 86, 87, 12077, 14077, 15077, 16077] σ σ4 → X8 σ4 → wx z 4 63 163 [(0, .inr (.inr (.ref 61)))] [] σ4 (fun v σ' => v = none ∧ sg_F [64, 78, 79, 80, 81, 82, 83, 85, 86, 87, 8061, 11061, 11077, 12077, 13077, 14077, 15077, 16077, 17077, 18077, 19077] σ σ' ∧ Q σ') := by
    intro σ4 hF5 w
    have w := w15 σ4 hF5 w
    refine wk_b tt_63 2 (pc' := 165) (ls' := [(0, .inr (.inr (.ref 61)))]) (st' := [.inl (1), .inr (.inr (.ref 61))]) (σ' := σ4) rfl ?_
    refine wk_call tt_63 rfl rfl rfl rfl rfl tt_65 rfl (by decide) (w_fGive z σ4 (1) _ (by decide) w) (fun u23 σ19 hq21 => ?_)
    obtain ⟨rfl, hF20, w⟩ := hq21
    have w := w hF20
    exact wk_rV tt_63 rfl rfl ⟨rfl, (sg_F_t (sg_F_t (sg_F_r [64, 78, 79, 80, 81, 82, 83, 85, 86, 87, 8061, 11061, 11077, 12077, 13077, 14077, 15077, 16077, 17077, 18077, 19077] σ) (sg_F_m (L := [64, 78, 79, 80, 81, 82, 83, 85, 86, 87, 8061, 11061, 11077, 12077, 13077, 14077, 15077, 16077, 17077, 18077, 19077]) hF5 rfl)) (sg_F_m (L := [64, 78, 79, 80, 81, 82, 83, 85, 86, 87, 8061, 11061, 11077, 12077, 13077, 14077, 15077, 16077, 17077, 18077, 19077]) hF20 rfl)), w⟩
  have lp12 : ∀ (n16 : Nat) (v3 : Int) (σ4 : sg_S), sg_R v3 → sg_F [83, 85, 86, 87, 12077, 14077, 15077, 16077] σ σ4 → I6 n16 v3 σ4 → wx z 4 63 11 [(0, .inr (.inr (.ref 61))), (1, .inl (a1)), (2, .inl ((v_lItems σ (a1)))), (3, .inl (v3))] [] σ4 (fun v σ' => v = none ∧ sg_F [64, 78, 79, 80, 81, 82, 83, 85, 86, 87, 8061, 11061, 11077, 12077, 13077, 14077, 15077, 16077, 17077, 18077, 19077] σ σ' ∧ Q σ') := by
    intro n16
    induction n16 using Nat.strongRecOn with
    | _ n16 ih10 =>
      intro v3 σ4 r9 hF5 w
      have w := w14 n16 v3 σ4 r9 hF5 w
      refine wk_b tt_63 3 (pc' := 16) (ls' := [(0, .inr (.inr (.ref 61))), (1, .inl (a1)), (2, .inl ((v_lItems σ (a1)))), (3, .inl (v3))]) (st' := [.inl ((sg_g σ4 61 23)), .inl (v3)]) (σ' := σ4) rfl ?_
      rw [show (sg_g σ4 61 23) = (sg_g σ 61 23) from by rw [sg_F_ga hF5 rfl]]
      refine wk_if2 tt_63 (tgt := 163) rfl rfl r9 (sg_Rg _ _ _) (fun (h24 : (sg_g σ 61 23) ≤ v3) => ?_) (fun (h24 : v3 < (sg_g σ 61 23)) => ?_)
      ·
        have w := w.1 h24
        exact wk_ls [(0, .inr (.inr (.ref 61)))] rfl ⟨rfl, trivial⟩ (ex17  σ4  (sg_F_t (sg_F_r [83, 85, 86, 87, 12077, 14077, 15077, 16077] σ) (sg_F_m (L := [83, 85, 86, 87, 12077, 14077, 15077, 16077]) hF5 rfl)) w)
      ·
        have w := w.2 h24
        refine wk_b tt_63 4 (pc' := 25) (ls' := [(0, .inr (.inr (.ref 61))), (1, .inl (a1)), (2, .inl ((v_lItems σ (a1)))), (3, .inl (v3))]) (st' := [.inl (v3), .inl (a1), .inr (.inr (.ref 77))]) (σ' := σ4) rfl ?_
        obtain ⟨c25, w⟩ := w
        have c25 : p_lCell σ4 (a1) (v3) := by
          rw [pF_lCell hF5 rfl rfl]; exact c25
        refine wk_callp tt_63 rfl rfl rfl rfl rfl tt_100 rfl (by decide) (w_lCell z σ4 (a1) (v3) ra1 r9 c25) ?_
        rw [vF_lCell hF5 rfl rfl]
        have r26 := vr_lCell σ  (a1) (v3) ra1 r9 (by have q := c25; rw [pF_lCell hF5 rfl rfl] at q; exact q)
        have jn28 : ∀ v29 : Int, v29 = (if ¬ (v_lCell σ (a1) (v3)) = 0 then (0 : Int) else (1 : Int)) → sg_R v29 → wx z 4 63 36 [(0, .inr (.inr (.ref 61))), (1, .inl (a1)), (2, .inl ((v_lItems σ (a1)))), (3, .inl (v3))] [.inl (v29)] σ4 (fun v σ' => v = none ∧ sg_F [64, 78, 79, 80, 81, 82, 83, 85, 86, 87, 8061, 11061, 11077, 12077, 13077, 14077, 15077, 16077, 17077, 18077, 19077] σ σ' ∧ Q σ') := by
          intro v29 e31 r30
          have w := w v29 e31 r30
          refine wk_b tt_63 2 (pc' := 40) (ls' := [(4, .inl (v29)), (0, .inr (.inr (.ref 61))), (1, .inl (a1)), (2, .inl ((v_lItems σ (a1)))), (3, .inl (v3))]) (st' := [.inl (v29)]) (σ' := σ4) rfl ?_
          obtain ⟨wp, w⟩ := w
          have jn33 : ∀ v34 : Int, v34 = (if v29 = 0 then (v_lStart σ ((v_lItems σ (a1))) ((v_lStart σ (a1) (v3)))) else (0 : Int)) → sg_R v34 → wx z 4 63 64 [(0, .inr (.inr (.ref 61))), (1, .inl (a1)), (2, .inl ((v_lItems σ (a1)))), (3, .inl (v3)), (4, .inl (v29))] [.inl (v34)] σ4 (fun v σ' => v = none ∧ sg_F [64, 78, 79, 80, 81, 82, 83, 85, 86, 87, 8061, 11061, 11077, 12077, 13077, 14077, 15077, 16077, 17077, 18077, 19077] σ σ' ∧ Q σ') := by
            intro v34 e36 r35
            have w := w v34 e36 r35
            refine wk_b tt_63 2 (pc' := 68) (ls' := [(5, .inl (v34)), (0, .inr (.inr (.ref 61))), (1, .inl (a1)), (2, .inl ((v_lItems σ (a1)))), (3, .inl (v3)), (4, .inl (v29))]) (st' := [.inl (v29)]) (σ' := σ4) rfl ?_
            obtain ⟨wp, w⟩ := w
            have jn38 : ∀ v39 : Int, v39 = (if v29 = 0 then (v_lEnd σ ((v_lItems σ (a1))) (((v_lEnd σ (a1) (v3)) - 1))) else (0 : Int)) → sg_R v39 → wx z 4 63 94 [(0, .inr (.inr (.ref 61))), (1, .inl (a1)), (2, .inl ((v_lItems σ (a1)))), (3, .inl (v3)), (5, .inl (v34))] [.inl (v39)] σ4 (fun v σ' => v = none ∧ sg_F [64, 78, 79, 80, 81, 82, 83, 85, 86, 87, 8061, 11061, 11077, 12077, 13077, 14077, 15077, 16077, 17077, 18077, 19077] σ σ' ∧ Q σ') := by
              intro v39 e41 r40
              have w := w v39 e41 r40
              obtain ⟨c42, w⟩ := w
              refine wk_b tt_63 4 (pc' := 101) (ls' := [(6, .inl (v39)), (0, .inr (.inr (.ref 61))), (1, .inl (a1)), (2, .inl ((v_lItems σ (a1)))), (3, .inl (v3)), (5, .inl (v34))]) (st' := [.inl ((v39 - v34))]) (σ' := σ4) rfl ?_
              refine wk_callp tt_63 rfl rfl rfl rfl rfl tt_7 rfl (by decide) (w_xBadSize z σ4 ((v39 - v34)) c42 ) ?_
              obtain ⟨P45, w, w48⟩ := w
              have jn44 : ∀ (σ46 : sg_S), sg_F [83, 85, 86, 87, 12077, 14077, 15077, 16077] σ4 σ46 → P45 σ46 → wx z 4 63 157 [(0, .inr (.inr (.ref 61))), (1, .inl (a1)), (2, .inl ((v_lItems σ (a1)))), (3, .inl (v3))] [] σ46 (fun v σ' => v = none ∧ sg_F [64, 78, 79, 80, 81, 82, 83, 85, 86, 87, 8061, 11061, 11077, 12077, 13077, 14077, 15077, 16077, 17077, 18077, 19077] σ σ' ∧ Q σ') := by
                intro σ46 hF47 w
                have w := w48 σ46 hF47 w
                obtain ⟨c49, w⟩ := w
                refine wk_b tt_63 2 (pc' := 11) (ls' := [(3, .inl ((v3 + 1))), (0, .inr (.inr (.ref 61))), (1, .inl (a1)), (2, .inl ((v_lItems σ (a1))))]) (st' := []) (σ' := σ46) rfl ?_
                obtain ⟨m50, hm50, w⟩ := w
                exact wk_ls [(0, .inr (.inr (.ref 61))), (1, .inl (a1)), (2, .inl ((v_lItems σ (a1)))), (3, .inl ((v3 + 1)))] rfl ⟨rfl, rfl, rfl, rfl, trivial⟩ (ih10 m50 hm50 ((v3 + 1)) σ46 c49 (sg_F_t (sg_F_t (sg_F_r [83, 85, 86, 87, 12077, 14077, 15077, 16077] σ) (sg_F_m (L := [83, 85, 86, 87, 12077, 14077, 15077, 16077]) hF5 rfl)) (sg_F_m (L := [83, 85, 86, 87, 12077, 14077, 15077, 16077]) hF47 rfl)) w)
              refine wk_if tt_63 (tgt := 126) rfl rfl (sg_Rz (vz_xBadSize ..)) (fun (h43 : (v_xBadSize ((v39 - v34))) = 0) => ?_) (fun (h43 : ¬ (v_xBadSize ((v39 - v34))) = 0) => ?_)
              ·
                have w := w.1 h43
                refine wk_b tt_63 5 (pc' := 135) (ls' := [(6, .inl (v39)), (0, .inr (.inr (.ref 61))), (1, .inl (a1)), (2, .inl ((v_lItems σ (a1)))), (3, .inl (v3)), (5, .inl (v34))]) (st' := [.inl ((v39 - v34)), .inr (.inr (.ref 77))]) (σ' := σ4) rfl ?_
                refine wk_call tt_63 rfl rfl rfl rfl rfl tt_105 rfl (by decide) (w_lFirst z σ4 ((v39 - v34)) _ c42 w) (fun u56 σ52 hq54 => ?_)
                obtain ⟨rfl, hF53, w⟩ := hq54
                have w := w hF53
                refine wk_b tt_63 5 (pc' := 147) (ls' := [(6, .inl (v39)), (0, .inr (.inr (.ref 61))), (1, .inl (a1)), (2, .inl ((v_lItems σ (a1)))), (3, .inl (v3)), (5, .inl (v34))]) (st' := [.inl ((v_lItems σ (a1))), .inr (.inr (.ref 77)), .inr (.inr (.ref 77))]) (σ' := σ52) rfl ?_
                obtain ⟨c57, w⟩ := w
                have c57 : p_lItems σ52 ((v_lItems σ (a1))) := by
                  rw [pF_lItems hF53 rfl, pF_lItems hF5 rfl]; exact c57
                refine wk_callp tt_63 rfl rfl rfl rfl rfl tt_106 rfl (by decide) (w_lItems z σ52 ((v_lItems σ (a1))) r2 c57) ?_
                rw [vF_lItems hF53 rfl, vF_lItems hF5 rfl]
                have r58 := vr_lItems σ  ((v_lItems σ (a1))) r2 (by have q := c57; rw [pF_lItems hF53 rfl, pF_lItems hF5 rfl] at q; exact q)
                refine wk_b tt_63 2 (pc' := 154) (ls' := [(6, .inl (v39)), (0, .inr (.inr (.ref 61))), (1, .inl (a1)), (2, .inl ((v_lItems σ (a1)))), (3, .inl (v3)), (5, .inl (v34))]) (st' := [.inl (v39), .inl (v34), .inl ((v_lItems σ ((v_lItems σ (a1))))), .inr (.inr (.ref 77))]) (σ' := σ52) rfl ?_
                refine wk_call tt_63 rfl rfl rfl rfl rfl tt_109 rfl (by decide) (w_lPick z σ52 ((v_lItems σ ((v_lItems σ (a1))))) (v34) (v39) _ r58 r35 r40 w) (fun u64 σ60 hq62 => ?_)
                obtain ⟨rfl, hF61, w⟩ := hq62
                have w := w hF61
                exact wk_ls [(0, .inr (.inr (.ref 61))), (1, .inl (a1)), (2, .inl ((v_lItems σ (a1)))), (3, .inl (v3))] rfl ⟨rfl, rfl, rfl, rfl, trivial⟩ (jn44 σ60 (sg_F_t (sg_F_t (sg_F_r [83, 85, 86, 87, 12077, 14077, 15077, 16077] σ4) (sg_F_m (L := [83, 85, 86, 87, 12077, 14077, 15077, 16077]) hF53 rfl)) (sg_F_m (L := [83, 85, 86, 87, 12077, 14077, 15077, 16077]) hF61 rfl)) w)
              ·
                have w := w.2 h43
                refine wk_b tt_63 3 (pc' := 112) (ls' := [(6, .inl (v39)), (0, .inr (.inr (.ref 61))), (1, .inl (a1)), (2, .inl ((v_lItems σ (a1)))), (3, .inl (v3)), (5, .inl (v34))]) (st' := [.inl (5), .inr (.inr (.ref 77))]) (σ' := σ4) rfl ?_
                refine wk_call tt_63 rfl rfl rfl rfl rfl tt_108 rfl (by decide) (w_lMiss z σ4 (5) _ (by decide) w) (fun u70 σ66 hq68 => ?_)
                obtain ⟨rfl, hF67, w⟩ := hq68
                have w := w hF67
                refine wk_b tt_63 3 (pc' := 120) (ls' := [(6, .inl (v39)), (0, .inr (.inr (.ref 61))), (1, .inl (a1)), (2, .inl ((v_lItems σ (a1)))), (3, .inl (v3)), (5, .inl (v34))]) (st' := [.inl (0), .inr (.inr (.ref 77))]) (σ' := σ66) rfl ?_
                refine wk_call tt_63 rfl rfl rfl rfl rfl tt_105 rfl (by decide) (w_lFirst z σ66 (0) _ (by decide) w) (fun u76 σ72 hq74 => ?_)
                obtain ⟨rfl, hF73, w⟩ := hq74
                have w := w hF73
                refine wk_b tt_63 1 (pc' := 157) (ls' := [(6, .inl (v39)), (0, .inr (.inr (.ref 61))), (1, .inl (a1)), (2, .inl ((v_lItems σ (a1)))), (3, .inl (v3)), (5, .inl (v34))]) (st' := []) (σ' := σ72) rfl ?_
                exact wk_ls [(0, .inr (.inr (.ref 61))), (1, .inl (a1)), (2, .inl ((v_lItems σ (a1)))), (3, .inl (v3))] rfl ⟨rfl, rfl, rfl, rfl, trivial⟩ (jn44 σ72 (sg_F_t (sg_F_t (sg_F_r [83, 85, 86, 87, 12077, 14077, 15077, 16077] σ4) (sg_F_m (L := [83, 85, 86, 87, 12077, 14077, 15077, 16077]) hF67 rfl)) (sg_F_m (L := [83, 85, 86, 87, 12077, 14077, 15077, 16077]) hF73 rfl)) w)
            have w := wp
            refine wk_if tt_63 (tgt := 75) rfl rfl r30 (fun (h37 : v29 = 0) => ?_) (fun (h37 : ¬ v29 = 0) => ?_)
            ·
              have w := w.1 h37
              refine wk_b tt_63 7 (pc' := 86) (ls' := [(5, .inl (v34)), (0, .inr (.inr (.ref 61))), (1, .inl (a1)), (2, .inl ((v_lItems σ (a1)))), (3, .inl (v3)), (4, .inl (v29))]) (st' := [.inl (v3), .inl (a1), .inr (.inr (.ref 77)), .inl ((v_lItems σ (a1))), .inr (.inr (.ref 77))]) (σ' := σ4) rfl ?_
              obtain ⟨c77, w⟩ := w
              have c77 : p_lEnd σ4 (a1) (v3) := by
                rw [pF_lEnd hF5 rfl rfl rfl]; exact c77
              refine wk_callp tt_63 rfl rfl rfl rfl rfl tt_104 rfl (by decide) (w_lEnd z σ4 (a1) (v3) ra1 r9 c77) ?_
              rw [vF_lEnd hF5 rfl rfl rfl]
              have r78 := vr_lEnd σ  (a1) (v3) ra1 r9 (by have q := c77; rw [pF_lEnd hF5 rfl rfl rfl] at q; exact q)
              obtain ⟨c79, w⟩ := w
              refine wk_b tt_63 2 (pc' := 91) (ls' := [(5, .inl (v34)), (0, .inr (.inr (.ref 61))), (1, .inl (a1)), (2, .inl ((v_lItems σ (a1)))), (3, .inl (v3)), (4, .inl (v29))]) (st' := [.inl (((v_lEnd σ (a1) (v3)) - 1)), .inl ((v_lItems σ (a1))), .inr (.inr (.ref 77))]) (σ' := σ4) rfl ?_
              obtain ⟨c80, w⟩ := w
              have c80 : p_lEnd σ4 ((v_lItems σ (a1))) (((v_lEnd σ (a1) (v3)) - 1)) := by
                rw [pF_lEnd hF5 rfl rfl rfl]; exact c80
              refine wk_callp tt_63 rfl rfl rfl rfl rfl tt_104 rfl (by decide) (w_lEnd z σ4 ((v_lItems σ (a1))) (((v_lEnd σ (a1) (v3)) - 1)) r2 c79 c80) ?_
              rw [vF_lEnd hF5 rfl rfl rfl]
              have r81 := vr_lEnd σ  ((v_lItems σ (a1))) (((v_lEnd σ (a1) (v3)) - 1)) r2 c79 (by have q := c80; rw [pF_lEnd hF5 rfl rfl rfl] at q; exact q)
              exact wk_ls [(0, .inr (.inr (.ref 61))), (1, .inl (a1)), (2, .inl ((v_lItems σ (a1)))), (3, .inl (v3)), (5, .inl (v34))] rfl ⟨rfl, rfl, rfl, rfl, rfl, trivial⟩ (jn38 ((v_lEnd σ ((v_lItems σ (a1))) (((v_lEnd σ (a1) (v3)) - 1)))) (by simp only [if_pos h37]) r81)
            ·
              have w := w.2 h37
              refine wk_b tt_63 2 (pc' := 94) (ls' := [(5, .inl (v34)), (0, .inr (.inr (.ref 61))), (1, .inl (a1)), (2, .inl ((v_lItems σ (a1)))), (3, .inl (v3)), (4, .inl (v29))]) (st' := [.inl (0)]) (σ' := σ4) rfl ?_
              exact wk_ls [(0, .inr (.inr (.ref 61))), (1, .inl (a1)), (2, .inl ((v_lItems σ (a1)))), (3, .inl (v3)), (5, .inl (v34))] rfl ⟨rfl, rfl, rfl, rfl, rfl, trivial⟩ (jn38 (0) (by simp only [if_neg (show ¬ (v29 = 0) by omega)]) (by decide))
          have w := wp
          refine wk_if tt_63 (tgt := 47) rfl rfl r30 (fun (h32 : v29 = 0) => ?_) (fun (h32 : ¬ v29 = 0) => ?_)
          ·
            have w := w.1 h32
            refine wk_b tt_63 7 (pc' := 58) (ls' := [(4, .inl (v29)), (0, .inr (.inr (.ref 61))), (1, .inl (a1)), (2, .inl ((v_lItems σ (a1)))), (3, .inl (v3))]) (st' := [.inl (v3), .inl (a1), .inr (.inr (.ref 77)), .inl ((v_lItems σ (a1))), .inr (.inr (.ref 77))]) (σ' := σ4) rfl ?_
            obtain ⟨c82, w⟩ := w
            have c82 : p_lStart σ4 (a1) (v3) := by
              rw [pF_lStart hF5 rfl rfl]; exact c82
            refine wk_callp tt_63 rfl rfl rfl rfl rfl tt_114 rfl (by decide) (w_lStart z σ4 (a1) (v3) ra1 r9 c82) ?_
            rw [vF_lStart hF5 rfl rfl]
            have r83 := vr_lStart σ  (a1) (v3) ra1 r9 (by have q := c82; rw [pF_lStart hF5 rfl rfl] at q; exact q)
            obtain ⟨c84, w⟩ := w
            have c84 : p_lStart σ4 ((v_lItems σ (a1))) ((v_lStart σ (a1) (v3))) := by
              rw [pF_lStart hF5 rfl rfl]; exact c84
            refine wk_callp tt_63 rfl rfl rfl rfl rfl tt_114 rfl (by decide) (w_lStart z σ4 ((v_lItems σ (a1))) ((v_lStart σ (a1) (v3))) r2 r83 c84) ?_
            rw [vF_lStart hF5 rfl rfl]
            have r85 := vr_lStart σ  ((v_lItems σ (a1))) ((v_lStart σ (a1) (v3))) r2 r83 (by have q := c84; rw [pF_lStart hF5 rfl rfl] at q; exact q)
            exact wk_ls [(0, .inr (.inr (.ref 61))), (1, .inl (a1)), (2, .inl ((v_lItems σ (a1)))), (3, .inl (v3)), (4, .inl (v29))] rfl ⟨rfl, rfl, rfl, rfl, rfl, trivial⟩ (jn33 ((v_lStart σ ((v_lItems σ (a1))) ((v_lStart σ (a1) (v3))))) (by simp only [if_pos h32]) r85)
          ·
            have w := w.2 h32
            refine wk_b tt_63 2 (pc' := 64) (ls' := [(4, .inl (v29)), (0, .inr (.inr (.ref 61))), (1, .inl (a1)), (2, .inl ((v_lItems σ (a1)))), (3, .inl (v3))]) (st' := [.inl (0)]) (σ' := σ4) rfl ?_
            exact wk_ls [(0, .inr (.inr (.ref 61))), (1, .inl (a1)), (2, .inl ((v_lItems σ (a1)))), (3, .inl (v3)), (4, .inl (v29))] rfl ⟨rfl, rfl, rfl, rfl, rfl, trivial⟩ (jn33 (0) (by simp only [if_neg (show ¬ (v29 = 0) by omega)]) (by decide))
        refine wk_if tt_63 (tgt := 35) rfl rfl r26 (fun (h27 : ¬ (v_lCell σ (a1) (v3)) = 0) => ?_) (fun (h27 : (v_lCell σ (a1) (v3)) = 0) => ?_)
        ·
          clear w
          refine wk_b tt_63 1 (pc' := 36) (ls' := [(0, .inr (.inr (.ref 61))), (1, .inl (a1)), (2, .inl ((v_lItems σ (a1)))), (3, .inl (v3))]) (st' := [.inl (0)]) (σ' := σ4) rfl ?_
          exact wk_ls [(0, .inr (.inr (.ref 61))), (1, .inl (a1)), (2, .inl ((v_lItems σ (a1)))), (3, .inl (v3))] rfl ⟨rfl, rfl, rfl, rfl, trivial⟩ (jn28 (0) (by simp only [if_pos h27]) (by decide))
        ·
          clear w
          refine wk_b tt_63 2 (pc' := 36) (ls' := [(0, .inr (.inr (.ref 61))), (1, .inl (a1)), (2, .inl ((v_lItems σ (a1)))), (3, .inl (v3))]) (st' := [.inl (1)]) (σ' := σ4) rfl ?_
          exact wk_ls [(0, .inr (.inr (.ref 61))), (1, .inl (a1)), (2, .inl ((v_lItems σ (a1)))), (3, .inl (v3))] rfl ⟨rfl, rfl, rfl, rfl, trivial⟩ (jn28 (1) (by simp only [if_neg (show ¬ (¬ (v_lCell σ (a1) (v3)) = 0) by omega)]) (by decide))
  exact wk_ls [(0, .inr (.inr (.ref 61))), (1, .inl (a1)), (2, .inl ((v_lItems σ (a1)))), (3, .inl (0))] rfl ⟨rfl, rfl, rfl, rfl, trivial⟩ (lp12 μ7 (0) σ (by decide) (sg_F_r _ _) w13)
-- NestedVectors$Tree.second
def v_tSecond (σ : sg_S) (a1 : Int) : Int := (sx_at σ 9 200 ((sx_at σ 7 200 (a1))))
set_option maxHeartbeats 4000000 in
set_option maxRecDepth 8000 in
theorem w_tSecond (z : Value) (σ : sg_S) (a1 : Int) (ra1 : sg_R a1) : wx z 1 207 0 [(0, .inr (.inr (.ref 2))), (1, .inl (a1))] [] σ (fun v σ' => v = some (.inl (v_tSecond σ a1)) ∧ σ' = σ) := by
  refine wk_b tt_207 5 (pc' := 9) (ls' := [(0, .inr (.inr (.ref 2))), (1, .inl (a1))]) (st' := [.inl (a1), .inr (.inr (.ref 7)), .inr (.inr (.ref 9))]) (σ' := σ) rfl ?_
  refine wk_callp tt_207 rfl rfl rfl rfl rfl tt_5 rfl (by decide) (at_i0 z σ 7 200 (a1) rfl (by decide) ra1) ?_
  show wx z 1 207 12 [(0, .inr (.inr (.ref 2))), (1, .inl (a1))] [.inl ((sx_at σ 7 200 (a1))), .inr (.inr (.ref 9))] σ (fun v σ' => v = some (.inl (v_tSecond σ a1)) ∧ σ' = σ)
  refine wk_callp tt_207 rfl rfl rfl rfl rfl tt_5 rfl (by decide) (at_i0 z σ 9 200 ((sx_at σ 7 200 (a1))) rfl (by decide) (sx_R ..)) ?_
  show wx z 1 207 15 [(0, .inr (.inr (.ref 2))), (1, .inl (a1))] [.inl ((sx_at σ 9 200 ((sx_at σ 7 200 (a1)))))] σ (fun v σ' => v = some (.inl (v_tSecond σ a1)) ∧ σ' = σ)
  exact wk_rI tt_207 rfl rfl ⟨by rw [v_tSecond], rfl⟩
theorem vF_tSecond {L : List Nat} {σ σ' : sg_S} {a1 : Int} (hF : sg_F L σ σ') (h0 : sg_ca L 7 = true) (h1 : sg_ca L 9 = true) : v_tSecond σ' a1 = v_tSecond σ a1 := by
  unfold v_tSecond
  simp only [sg_F_ga (k := _) hF h0, sg_F_gal (k := _) hF h0, sg_F_ga (k := _) hF h1, sg_F_gal (k := _) hF h1, sx_F hF h0, sx_Fl hF h0, sx_F hF h1, sx_Fl hF h1]
theorem vr_tSecond (σ : sg_S) (a1 : Int) (ra1 : sg_R a1) : sg_R (v_tSecond σ a1) := by
  unfold v_tSecond
  first | exact sx_R .. | exact sx_Rl .. | exact w.1 | exact w.2.1 | exact w.2.2.1 | exact sg_Rg _ _ _ | exact sg_Rgl _ _ _ | exact sg_Rr _ | exact sg_RLr _ | assumption | omega | (constructor <;> omega)
-- NestedVectors$FlatRun.fork
def V_fFork (σ : sg_S) (a1 : Int) (Q : sg_S → Prop) : Prop := V_mPop σ  (fun q1 σ2 => sg_R q1 → sg_F [8061] σ σ2 → ∀ σ7, σ7 = (sx_put σ2 70 200 (a1) (q1)) → V_fBranch σ7 (a1) ((v_tSecond σ (a1))) (1) (fun σ12 => sg_F [62, 71, 72, 73, 74, 78, 79, 80, 81, 82, 85, 86, 87, 11061, 11077, 12077, 13077, 14077, 15077, 16077, 17077, 18077, 19077, 22061, 23061, 24061] σ7 σ12 → Q σ12))
set_option maxHeartbeats 4000000 in
set_option maxRecDepth 8000 in
theorem w_fFork (z : Value) (σ : sg_S) (a1 : Int) (Q : sg_S → Prop) (ra1 : sg_R a1) (w : V_fFork σ a1 Q) : wx z 5 64 0 [(0, .inr (.inr (.ref 61))), (1, .inl (a1))] [] σ (fun v σ' => v = none ∧ sg_F [62, 70, 71, 72, 73, 74, 78, 79, 80, 81, 82, 85, 86, 87, 8061, 11061, 11077, 12077, 13077, 14077, 15077, 16077, 17077, 18077, 19077, 22061, 23061, 24061] σ σ' ∧ Q σ') := by
  unfold V_fFork at w
  refine wk_b tt_64 4 (pc' := 6) (ls' := [(0, .inr (.inr (.ref 61))), (1, .inl (a1))]) (st' := [.inr (.inr (.ref 61)), .inl (a1), .inr (.inr (.ref 70))]) (σ' := σ) rfl ?_
  refine wk_call tt_64 rfl rfl rfl rfl rfl tt_124 rfl (by decide) (w_mPop z σ  _  w) (fun u6 σ2 hq4 => ?_)
  obtain ⟨q1, rfl, r5, hF3, w⟩ := hq4
  have w := w r5 hF3
  refine wk_callp tt_64 rfl rfl rfl rfl rfl tt_21 rfl (by decide) (pt_i0 z σ2 70 200 (a1) (q1) rfl (by decide) ra1) ?_
  show wx z 5 64 12 [(0, .inr (.inr (.ref 61))), (1, .inl (a1))] [] (sx_put σ2 70 200 (a1) (q1)) (fun v σ' => v = none ∧ sg_F [62, 70, 71, 72, 73, 74, 78, 79, 80, 81, 82, 85, 86, 87, 8061, 11061, 11077, 12077, 13077, 14077, 15077, 16077, 17077, 18077, 19077, 22061, 23061, 24061] σ σ' ∧ Q σ')
  generalize hs8 : (sx_put σ2 70 200 (a1) (q1)) = σ7
  have w := w σ7 hs8.symm
  have hF9 : sg_F [70] σ2 σ7 := by rw [← hs8]; exact sg_F_p (sg_F_r _ _) rfl _ _ _
  refine wk_b tt_64 5 (pc' := 19) (ls' := [(0, .inr (.inr (.ref 61))), (1, .inl (a1))]) (st' := [.inl (a1), .inr (.inr (.ref 2)), .inl (a1), .inr (.inr (.ref 61))]) (σ' := σ7) rfl ?_
  refine wk_callp tt_64 rfl rfl rfl rfl rfl tt_207 rfl (by decide) (w_tSecond z σ7 (a1) ra1 ) ?_
  rw [vF_tSecond hF9 rfl rfl, vF_tSecond hF3 rfl rfl]
  have r10 := vr_tSecond σ  (a1) ra1 
  refine wk_b tt_64 1 (pc' := 23) (ls' := [(0, .inr (.inr (.ref 61))), (1, .inl (a1))]) (st' := [.inl (1), .inl ((v_tSecond σ (a1))), .inl (a1), .inr (.inr (.ref 61))]) (σ' := σ7) rfl ?_
  refine wk_call tt_64 rfl rfl rfl rfl rfl tt_53 rfl (by decide) (w_fBranch z σ7 (a1) ((v_tSecond σ (a1))) (1) _ ra1 r10 (by decide) w) (fun u16 σ12 hq14 => ?_)
  obtain ⟨rfl, hF13, w⟩ := hq14
  have w := w hF13
  exact wk_rV tt_64 rfl rfl ⟨rfl, (sg_F_t (sg_F_t (sg_F_t (sg_F_r [62, 70, 71, 72, 73, 74, 78, 79, 80, 81, 82, 85, 86, 87, 8061, 11061, 11077, 12077, 13077, 14077, 15077, 16077, 17077, 18077, 19077, 22061, 23061, 24061] σ) (sg_F_m (L := [62, 70, 71, 72, 73, 74, 78, 79, 80, 81, 82, 85, 86, 87, 8061, 11061, 11077, 12077, 13077, 14077, 15077, 16077, 17077, 18077, 19077, 22061, 23061, 24061]) hF3 rfl)) (sg_F_m (L := [62, 70, 71, 72, 73, 74, 78, 79, 80, 81, 82, 85, 86, 87, 8061, 11061, 11077, 12077, 13077, 14077, 15077, 16077, 17077, 18077, 19077, 22061, 23061, 24061]) hF9 rfl)) (sg_F_m (L := [62, 70, 71, 72, 73, 74, 78, 79, 80, 81, 82, 85, 86, 87, 8061, 11061, 11077, 12077, 13077, 14077, 15077, 16077, 17077, 18077, 19077, 22061, 23061, 24061]) hF13 rfl)), w⟩
-- NestedVectors$FlatRun.join
def V_fJoin (σ : sg_S) (a1 : Int) (Q : sg_S → Prop) : Prop := V_fRestore σ (a1) (fun σ2 => sg_F [62, 23061] σ σ2 → ∀ σ7, σ7 = (sg_w σ2 61 23 ((sx_at σ 69 200 (a1)))) → V_mPop σ7  (fun q10 σ11 => sg_R q10 → sg_F [8061] σ7 σ11 → V_mPop σ11  (fun q16 σ17 => sg_R q16 → sg_F [8061] σ11 σ17 → (∃ (I26 : Nat → Int → Int → sg_S → Prop) (X28 : sg_S → Prop), (∃ n, I26 n (0) (0) σ17) ∧ (∀ (n37 : Nat) (v22 : Int) (v23 : Int) (σ24 : sg_S), sg_R v22 → sg_R v23 → sg_F [85, 86, 87, 14077, 16077] σ17 σ24 → I26 n37 v22 v23 σ24 → (((sx_at σ 69 200 (a1)) ≤ v23 → X28 σ24) ∧ (v23 < (sx_at σ 69 200 (a1)) → p_fChosen σ ((sx_at σ 70 200 (a1))) (v23) (1) ∧ (∃ P52 : Int → sg_S → Prop, (((v_fChosen σ ((sx_at σ 70 200 (a1))) (v23) (1)) = 0 → sg_R (v23 - v22) ∧ sg_R ((v23 - v22) + 1) ∧ V_lPick σ24 (q10) ((v23 - v22)) (((v23 - v22) + 1)) (fun σ63 => sg_F [85, 86, 87, 14077, 16077] σ24 σ63 → P52 (v22) σ63)) ∧ (¬ (v_fChosen σ ((sx_at σ 70 200 (a1))) (v23) (1)) = 0 → sg_R (v22 + 1) ∧ V_lPick σ24 (q16) (v22) ((v22 + 1)) (fun σ70 => sg_F [85, 86, 87, 14077, 16077] σ24 σ70 → P52 ((v22 + 1)) σ70))) ∧ (∀ (v55 : Int) (σ53 : sg_S), sg_R v55 → sg_F [85, 86, 87, 14077, 16077] σ24 σ53 → P52 v55 σ53 → sg_R (v23 + 1) ∧ (∃ m, m < n37 ∧ I26 m (v55) ((v23 + 1)) σ53)))))) ∧ (∀ (σ24 : sg_S), sg_F [85, 86, 87, 14077, 16077] σ17 σ24 → X28 σ24 → ∀ σ39, σ39 = (sg_w σ24 61 9 ((sx_at σ 6 200 (a1)))) → V_fGive σ39 (0) (fun σ43 => sg_F [64, 78, 79, 80, 81, 82, 85, 86, 87, 8061, 11061, 11077, 12077, 13077, 14077, 15077, 16077, 17077, 18077, 19077] σ39 σ43 → Q σ43))))))
set_option maxHeartbeats 4000000 in
set_option maxRecDepth 8000 in
theorem w_fJoin (z : Value) (σ : sg_S) (a1 : Int) (Q : sg_S → Prop) (ra1 : sg_R a1) (w : V_fJoin σ a1 Q) : wx z 4 67 0 [(0, .inr (.inr (.ref 61))), (1, .inl (a1))] [] σ (fun v σ' => v = none ∧ sg_F [62, 64, 78, 79, 80, 81, 82, 85, 86, 87, 8061, 10061, 11061, 11077, 12077, 13077, 14077, 15077, 16077, 17077, 18077, 19077, 23061, 24061] σ σ' ∧ Q σ') := by
  unfold V_fJoin at w
  refine wk_b tt_67 2 (pc' := 2) (ls' := [(0, .inr (.inr (.ref 61))), (1, .inl (a1))]) (st' := [.inl (a1), .inr (.inr (.ref 61))]) (σ' := σ) rfl ?_
  refine wk_call tt_67 rfl rfl rfl rfl rfl tt_78 rfl (by decide) (w_fRestore z σ (a1) _ ra1 w) (fun u6 σ2 hq4 => ?_)
  obtain ⟨rfl, hF3, w⟩ := hq4
  have w := w hF3
  refine wk_b tt_67 4 (pc' := 11) (ls' := [(0, .inr (.inr (.ref 61))), (1, .inl (a1))]) (st' := [.inl (a1), .inr (.inr (.ref 69)), .inr (.inr (.ref 61))]) (σ' := σ2) rfl ?_
  refine wk_callp tt_67 rfl rfl rfl rfl rfl tt_5 rfl (by decide) (at_i0 z σ2 69 200 (a1) rfl (by decide) ra1) ?_
  show wx z 4 67 14 [(0, .inr (.inr (.ref 61))), (1, .inl (a1))] [.inl ((sx_at σ2 69 200 (a1))), .inr (.inr (.ref 61))] σ2 (fun v σ' => v = none ∧ sg_F [62, 64, 78, 79, 80, 81, 82, 85, 86, 87, 8061, 10061, 11061, 11077, 12077, 13077, 14077, 15077, 16077, 17077, 18077, 19077, 23061, 24061] σ σ' ∧ Q σ')
  rw [sx_F (a := 69) (n := 200) (i := (a1)) hF3 rfl]
  refine wk_b tt_67 1 (pc' := 17) (ls' := [(0, .inr (.inr (.ref 61))), (1, .inl (a1))]) (st' := []) (σ' := (sg_w σ2 61 23 ((sx_at σ 69 200 (a1))))) rfl ?_
  generalize hs8 : (sg_w σ2 61 23 ((sx_at σ 69 200 (a1)))) = σ7
  have w := w σ7 hs8.symm
  have hF9 : sg_F [24061] σ2 σ7 := by rw [← hs8]; exact sg_F_w (sg_F_r _ _) rfl _
  refine wk_b tt_67 1 (pc' := 18) (ls' := [(0, .inr (.inr (.ref 61))), (1, .inl (a1))]) (st' := [.inr (.inr (.ref 61))]) (σ' := σ7) rfl ?_
  refine wk_call tt_67 rfl rfl rfl rfl rfl tt_124 rfl (by decide) (w_mPop z σ7  _  w) (fun u15 σ11 hq13 => ?_)
  obtain ⟨q10, rfl, r14, hF12, w⟩ := hq13
  have w := w r14 hF12
  refine wk_b tt_67 2 (pc' := 23) (ls' := [(2, .inl (q10)), (0, .inr (.inr (.ref 61))), (1, .inl (a1))]) (st' := [.inr (.inr (.ref 61))]) (σ' := σ11) rfl ?_
  refine wk_call tt_67 rfl rfl rfl rfl rfl tt_124 rfl (by decide) (w_mPop z σ11  _  w) (fun u21 σ17 hq19 => ?_)
  obtain ⟨q16, rfl, r20, hF18, w⟩ := hq19
  have w := w r20 hF18
  refine wk_b tt_67 5 (pc' := 33) (ls' := [(5, .inl (0)), (4, .inl (0)), (3, .inl (q16)), (2, .inl (q10)), (0, .inr (.inr (.ref 61))), (1, .inl (a1))]) (st' := []) (σ' := σ17) rfl ?_
  obtain ⟨I26, X28, ⟨μ27, w34⟩, w35, w36⟩ := w
  have ex38 : ∀ (σ24 : sg_S), sg_F [85, 86, 87, 14077, 16077] σ17 σ24 → X28 σ24 → wx z 4 67 106 [(0, .inr (.inr (.ref 61))), (1, .inl (a1))] [] σ24 (fun v σ' => v = none ∧ sg_F [62, 64, 78, 79, 80, 81, 82, 85, 86, 87, 8061, 10061, 11061, 11077, 12077, 13077, 14077, 15077, 16077, 17077, 18077, 19077, 23061, 24061] σ σ' ∧ Q σ') := by
    intro σ24 hF25 w
    have w := w36 σ24 hF25 w
    refine wk_b tt_67 5 (pc' := 115) (ls' := [(0, .inr (.inr (.ref 61))), (1, .inl (a1))]) (st' := [.inl (a1), .inr (.inr (.ref 6)), .inr (.inr (.ref 61))]) (σ' := σ24) rfl ?_
    refine wk_callp tt_67 rfl rfl rfl rfl rfl tt_5 rfl (by decide) (at_i0 z σ24 6 200 (a1) rfl (by decide) ra1) ?_
    show wx z 4 67 118 [(0, .inr (.inr (.ref 61))), (1, .inl (a1))] [.inl ((sx_at σ24 6 200 (a1))), .inr (.inr (.ref 61))] σ24 (fun v σ' => v = none ∧ sg_F [62, 64, 78, 79, 80, 81, 82, 85, 86, 87, 8061, 10061, 11061, 11077, 12077, 13077, 14077, 15077, 16077, 17077, 18077, 19077, 23061, 24061] σ σ' ∧ Q σ')
    rw [sx_F (a := 6) (n := 200) (i := (a1)) hF25 rfl, sx_F (a := 6) (n := 200) (i := (a1)) hF18 rfl, sx_F (a := 6) (n := 200) (i := (a1)) hF12 rfl, sx_F (a := 6) (n := 200) (i := (a1)) hF9 rfl, sx_F (a := 6) (n := 200) (i := (a1)) hF3 rfl]
    refine wk_b tt_67 1 (pc' := 121) (ls' := [(0, .inr (.inr (.ref 61))), (1, .inl (a1))]) (st' := []) (σ' := (sg_w σ24 61 9 ((sx_at σ 6 200 (a1))))) rfl ?_
    generalize hs40 : (sg_w σ24 61 9 ((sx_at σ 6 200 (a1)))) = σ39
    have w := w σ39 hs40.symm
    have hF41 : sg_F [10061] σ24 σ39 := by rw [← hs40]; exact sg_F_w (sg_F_r _ _) rfl _
    refine wk_b tt_67 2 (pc' := 123) (ls' := [(0, .inr (.inr (.ref 61))), (1, .inl (a1))]) (st' := [.inl (0), .inr (.inr (.ref 61))]) (σ' := σ39) rfl ?_
    refine wk_call tt_67 rfl rfl rfl rfl rfl tt_65 rfl (by decide) (w_fGive z σ39 (0) _ (by decide) w) (fun u47 σ43 hq45 => ?_)
    obtain ⟨rfl, hF44, w⟩ := hq45
    have w := w hF44
    exact wk_rV tt_67 rfl rfl ⟨rfl, (sg_F_t (sg_F_t (sg_F_t (sg_F_t (sg_F_t (sg_F_t (sg_F_t (sg_F_r [62, 64, 78, 79, 80, 81, 82, 85, 86, 87, 8061, 10061, 11061, 11077, 12077, 13077, 14077, 15077, 16077, 17077, 18077, 19077, 23061, 24061] σ) (sg_F_m (L := [62, 64, 78, 79, 80, 81, 82, 85, 86, 87, 8061, 10061, 11061, 11077, 12077, 13077, 14077, 15077, 16077, 17077, 18077, 19077, 23061, 24061]) hF3 rfl)) (sg_F_m (L := [62, 64, 78, 79, 80, 81, 82, 85, 86, 87, 8061, 10061, 11061, 11077, 12077, 13077, 14077, 15077, 16077, 17077, 18077, 19077, 23061, 24061]) hF9 rfl)) (sg_F_m (L := [62, 64, 78, 79, 80, 81, 82, 85, 86, 87, 8061, 10061, 11061, 11077, 12077, 13077, 14077, 15077, 16077, 17077, 18077, 19077, 23061, 24061]) hF12 rfl)) (sg_F_m (L := [62, 64, 78, 79, 80, 81, 82, 85, 86, 87, 8061, 10061, 11061, 11077, 12077, 13077, 14077, 15077, 16077, 17077, 18077, 19077, 23061, 24061]) hF18 rfl)) (sg_F_m (L := [62, 64, 78, 79, 80, 81, 82, 85, 86, 87, 8061, 10061, 11061, 11077, 12077, 13077, 14077, 15077, 16077, 17077, 18077, 19077, 23061, 24061]) hF25 rfl)) (sg_F_m (L := [62, 64, 78, 79, 80, 81, 82, 85, 86, 87, 8061, 10061, 11061, 11077, 12077, 13077, 14077, 15077, 16077, 17077, 18077, 19077, 23061, 24061]) hF41 rfl)) (sg_F_m (L := [62, 64, 78, 79, 80, 81, 82, 85, 86, 87, 8061, 10061, 11061, 11077, 12077, 13077, 14077, 15077, 16077, 17077, 18077, 19077, 23061, 24061]) hF44 rfl)), w⟩
  have lp33 : ∀ (n37 : Nat) (v22 : Int) (v23 : Int) (σ24 : sg_S), sg_R v22 → sg_R v23 → sg_F [85, 86, 87, 14077, 16077] σ17 σ24 → I26 n37 v22 v23 σ24 → wx z 4 67 33 [(0, .inr (.inr (.ref 61))), (1, .inl (a1)), (2, .inl (q10)), (3, .inl (q16)), (4, .inl (v22)), (5, .inl (v23))] [] σ24 (fun v σ' => v = none ∧ sg_F [62, 64, 78, 79, 80, 81, 82, 85, 86, 87, 8061, 10061, 11061, 11077, 12077, 13077, 14077, 15077, 16077, 17077, 18077, 19077, 23061, 24061] σ σ' ∧ Q σ') := by
    intro n37
    induction n37 using Nat.strongRecOn with
    | _ n37 ih31 =>
      intro v22 v23 σ24 r29 r30 hF25 w
      have w := w35 n37 v22 v23 σ24 r29 r30 hF25 w
      refine wk_b tt_67 3 (pc' := 39) (ls' := [(0, .inr (.inr (.ref 61))), (1, .inl (a1)), (2, .inl (q10)), (3, .inl (q16)), (4, .inl (v22)), (5, .inl (v23))]) (st' := [.inl ((sg_g σ24 61 23)), .inl (v23)]) (σ' := σ24) rfl ?_
      rw [show (sg_g σ24 61 23) = (sx_at σ 69 200 (a1)) from by rw [sg_F_ga hF25 rfl, sg_F_g hF18 rfl, sg_F_g hF12 rfl, (show sg_g σ7 61 23 = (sx_at σ 69 200 (a1)) from by rw [← hs8]; exact sg_gw_e _ _ _ _ (sx_R ..))]]
      refine wk_if2 tt_67 (tgt := 106) rfl rfl r30 (sx_R ..) (fun (h48 : (sx_at σ 69 200 (a1)) ≤ v23) => ?_) (fun (h48 : v23 < (sx_at σ 69 200 (a1))) => ?_)
      ·
        have w := w.1 h48
        exact wk_ls [(0, .inr (.inr (.ref 61))), (1, .inl (a1))] rfl ⟨rfl, rfl, trivial⟩ (ex38  σ24  (sg_F_t (sg_F_r [85, 86, 87, 14077, 16077] σ17) (sg_F_m (L := [85, 86, 87, 14077, 16077]) hF25 rfl)) w)
      ·
        have w := w.2 h48
        refine wk_b tt_67 4 (pc' := 48) (ls' := [(0, .inr (.inr (.ref 61))), (1, .inl (a1)), (2, .inl (q10)), (3, .inl (q16)), (4, .inl (v22)), (5, .inl (v23))]) (st' := [.inl (a1), .inr (.inr (.ref 70)), .inr (.inr (.ref 61))]) (σ' := σ24) rfl ?_
        refine wk_callp tt_67 rfl rfl rfl rfl rfl tt_5 rfl (by decide) (at_i0 z σ24 70 200 (a1) rfl (by decide) ra1) ?_
        show wx z 4 67 51 [(0, .inr (.inr (.ref 61))), (1, .inl (a1)), (2, .inl (q10)), (3, .inl (q16)), (4, .inl (v22)), (5, .inl (v23))] [.inl ((sx_at σ24 70 200 (a1))), .inr (.inr (.ref 61))] σ24 (fun v σ' => v = none ∧ sg_F [62, 64, 78, 79, 80, 81, 82, 85, 86, 87, 8061, 10061, 11061, 11077, 12077, 13077, 14077, 15077, 16077, 17077, 18077, 19077, 23061, 24061] σ σ' ∧ Q σ')
        rw [sx_F (a := 70) (n := 200) (i := (a1)) hF25 rfl, sx_F (a := 70) (n := 200) (i := (a1)) hF18 rfl, sx_F (a := 70) (n := 200) (i := (a1)) hF12 rfl, sx_F (a := 70) (n := 200) (i := (a1)) hF9 rfl, sx_F (a := 70) (n := 200) (i := (a1)) hF3 rfl]
        refine wk_b tt_67 2 (pc' := 54) (ls' := [(0, .inr (.inr (.ref 61))), (1, .inl (a1)), (2, .inl (q10)), (3, .inl (q16)), (4, .inl (v22)), (5, .inl (v23))]) (st' := [.inl (1), .inl (v23), .inl ((sx_at σ 70 200 (a1))), .inr (.inr (.ref 61))]) (σ' := σ24) rfl ?_
        obtain ⟨c49, w⟩ := w
        have c49 : p_fChosen σ24 ((sx_at σ 70 200 (a1))) (v23) (1) := by
          rw [pF_fChosen hF25 rfl rfl, pF_fChosen hF18 rfl rfl, pF_fChosen hF12 rfl rfl, pF_fChosen hF9 rfl rfl, pF_fChosen hF3 rfl rfl]; exact c49
        refine wk_callp tt_67 rfl rfl rfl rfl rfl tt_55 rfl (by decide) (w_fChosen z σ24 ((sx_at σ 70 200 (a1))) (v23) (1) (sx_R ..) r30 (by decide) c49) ?_
        rw [vF_fChosen hF25 rfl rfl, vF_fChosen hF18 rfl rfl, vF_fChosen hF12 rfl rfl, vF_fChosen hF9 rfl rfl, vF_fChosen hF3 rfl rfl]
        obtain ⟨P52, w, w57⟩ := w
        have jn51 : ∀ (v55 : Int) (σ53 : sg_S), sg_R v55 → sg_F [85, 86, 87, 14077, 16077] σ24 σ53 → P52 v55 σ53 → wx z 4 67 100 [(0, .inr (.inr (.ref 61))), (1, .inl (a1)), (2, .inl (q10)), (3, .inl (q16)), (4, .inl (v55)), (5, .inl (v23))] [] σ53 (fun v σ' => v = none ∧ sg_F [62, 64, 78, 79, 80, 81, 82, 85, 86, 87, 8061, 10061, 11061, 11077, 12077, 13077, 14077, 15077, 16077, 17077, 18077, 19077, 23061, 24061] σ σ' ∧ Q σ') := by
          intro v55 σ53 r56 hF54 w
          have w := w57 v55 σ53 r56 hF54 w
          obtain ⟨c58, w⟩ := w
          refine wk_b tt_67 2 (pc' := 33) (ls' := [(5, .inl ((v23 + 1))), (0, .inr (.inr (.ref 61))), (1, .inl (a1)), (2, .inl (q10)), (3, .inl (q16)), (4, .inl (v55))]) (st' := []) (σ' := σ53) rfl ?_
          obtain ⟨m59, hm59, w⟩ := w
          exact wk_ls [(0, .inr (.inr (.ref 61))), (1, .inl (a1)), (2, .inl (q10)), (3, .inl (q16)), (4, .inl (v55)), (5, .inl ((v23 + 1)))] rfl ⟨rfl, rfl, rfl, rfl, rfl, rfl, trivial⟩ (ih31 m59 hm59 (v55) ((v23 + 1)) σ53 r56 c58 (sg_F_t (sg_F_t (sg_F_r [85, 86, 87, 14077, 16077] σ17) (sg_F_m (L := [85, 86, 87, 14077, 16077]) hF25 rfl)) (sg_F_m (L := [85, 86, 87, 14077, 16077]) hF54 rfl)) w)
        refine wk_if tt_67 (tgt := 80) rfl rfl (sg_Rz (vz_fChosen ..)) (fun (h50 : (v_fChosen σ ((sx_at σ 70 200 (a1))) (v23) (1)) = 0) => ?_) (fun (h50 : ¬ (v_fChosen σ ((sx_at σ 70 200 (a1))) (v23) (1)) = 0) => ?_)
        ·
          have w := w.1 h50
          obtain ⟨c60, w⟩ := w
          obtain ⟨c61, w⟩ := w
          refine wk_b tt_67 11 (pc' := 97) (ls' := [(0, .inr (.inr (.ref 61))), (1, .inl (a1)), (2, .inl (q10)), (3, .inl (q16)), (4, .inl (v22)), (5, .inl (v23))]) (st' := [.inl (((v23 - v22) + 1)), .inl ((v23 - v22)), .inl (q10), .inr (.inr (.ref 77))]) (σ' := σ24) rfl ?_
          refine wk_call tt_67 rfl rfl rfl rfl rfl tt_109 rfl (by decide) (w_lPick z σ24 (q10) ((v23 - v22)) (((v23 - v22) + 1)) _ r14 c60 c61 w) (fun u67 σ63 hq65 => ?_)
          obtain ⟨rfl, hF64, w⟩ := hq65
          have w := w hF64
          exact wk_ls [(0, .inr (.inr (.ref 61))), (1, .inl (a1)), (2, .inl (q10)), (3, .inl (q16)), (4, .inl (v22)), (5, .inl (v23))] rfl ⟨rfl, rfl, rfl, rfl, rfl, rfl, trivial⟩ (jn51 (v22) σ63 r29 (sg_F_t (sg_F_r [85, 86, 87, 14077, 16077] σ24) (sg_F_m (L := [85, 86, 87, 14077, 16077]) hF64 rfl)) w)
        ·
          have w := w.2 h50
          obtain ⟨c68, w⟩ := w
          refine wk_b tt_67 7 (pc' := 71) (ls' := [(0, .inr (.inr (.ref 61))), (1, .inl (a1)), (2, .inl (q10)), (3, .inl (q16)), (4, .inl (v22)), (5, .inl (v23))]) (st' := [.inl ((v22 + 1)), .inl (v22), .inl (q16), .inr (.inr (.ref 77))]) (σ' := σ24) rfl ?_
          refine wk_call tt_67 rfl rfl rfl rfl rfl tt_109 rfl (by decide) (w_lPick z σ24 (q16) (v22) ((v22 + 1)) _ r20 r29 c68 w) (fun u74 σ70 hq72 => ?_)
          obtain ⟨rfl, hF71, w⟩ := hq72
          have w := w hF71
          refine wk_b tt_67 2 (pc' := 100) (ls' := [(4, .inl ((v22 + 1))), (0, .inr (.inr (.ref 61))), (1, .inl (a1)), (2, .inl (q10)), (3, .inl (q16)), (5, .inl (v23))]) (st' := []) (σ' := σ70) rfl ?_
          exact wk_ls [(0, .inr (.inr (.ref 61))), (1, .inl (a1)), (2, .inl (q10)), (3, .inl (q16)), (4, .inl ((v22 + 1))), (5, .inl (v23))] rfl ⟨rfl, rfl, rfl, rfl, rfl, rfl, trivial⟩ (jn51 ((v22 + 1)) σ70 c68 (sg_F_t (sg_F_r [85, 86, 87, 14077, 16077] σ24) (sg_F_m (L := [85, 86, 87, 14077, 16077]) hF71 rfl)) w)
  exact wk_ls [(0, .inr (.inr (.ref 61))), (1, .inl (a1)), (2, .inl (q10)), (3, .inl (q16)), (4, .inl (0)), (5, .inl (0))] rfl ⟨rfl, rfl, rfl, rfl, rfl, rfl, trivial⟩ (lp33 μ27 (0) (0) σ17 (by decide) (by decide) (sg_F_r _ _) w34)
-- NestedVectors$FlatRun.measure
def V_fMeasure (σ : sg_S) (a1 : Int) (Q : sg_S → Prop) : Prop := (∃ (I4 : Nat → Int → sg_S → Prop) (X6 : sg_S → Prop), (∃ n, I4 n (0) σ) ∧ (∀ (n14 : Nat) (v1 : Int) (σ2 : sg_S), sg_R v1 → sg_F [83, 12077, 16077] σ σ2 → I4 n14 v1 σ2 → (((sg_g σ 61 23) ≤ v1 → X6 σ2) ∧ (v1 < (sg_g σ 61 23) → p_lCell σ (a1) (v1) ∧ V_lFirst σ2 ((v_lCell σ (a1) (v1))) (fun σ26 => sg_F [83, 12077, 16077] σ2 σ26 → sg_R (v1 + 1) ∧ (∃ m, m < n14 ∧ I4 m ((v1 + 1)) σ26))))) ∧ (∀ (σ2 : sg_S), sg_F [83, 12077, 16077] σ σ2 → X6 σ2 → V_fGive σ2 (1) (fun σ17 => sg_F [64, 78, 79, 80, 81, 82, 85, 86, 87, 8061, 11061, 11077, 12077, 13077, 14077, 15077, 16077, 17077, 18077, 19077] σ2 σ17 → Q σ17)))
set_option maxHeartbeats 4000000 in
set_option maxRecDepth 8000 in
theorem w_fMeasure (z : Value) (σ : sg_S) (a1 : Int) (Q : sg_S → Prop) (ra1 : sg_R a1) (w : V_fMeasure σ a1 Q) : wx z 4 68 0 [(0, .inr (.inr (.ref 61))), (1, .inl (a1))] [] σ (fun v σ' => v = none ∧ sg_F [64, 78, 79, 80, 81, 82, 83, 85, 86, 87, 8061, 11061, 11077, 12077, 13077, 14077, 15077, 16077, 17077, 18077, 19077] σ σ' ∧ Q σ') := by
  unfold V_fMeasure at w
  refine wk_b tt_68 2 (pc' := 2) (ls' := [(2, .inl (0)), (0, .inr (.inr (.ref 61))), (1, .inl (a1))]) (st' := []) (σ' := σ) rfl ?_
  obtain ⟨I4, X6, ⟨μ5, w11⟩, w12, w13⟩ := w
  have ex15 : ∀ (σ2 : sg_S), sg_F [83, 12077, 16077] σ σ2 → X6 σ2 → wx z 4 68 32 [(0, .inr (.inr (.ref 61)))] [] σ2 (fun v σ' => v = none ∧ sg_F [64, 78, 79, 80, 81, 82, 83, 85, 86, 87, 8061, 11061, 11077, 12077, 13077, 14077, 15077, 16077, 17077, 18077, 19077] σ σ' ∧ Q σ') := by
    intro σ2 hF3 w
    have w := w13 σ2 hF3 w
    refine wk_b tt_68 2 (pc' := 34) (ls' := [(0, .inr (.inr (.ref 61)))]) (st' := [.inl (1), .inr (.inr (.ref 61))]) (σ' := σ2) rfl ?_
    refine wk_call tt_68 rfl rfl rfl rfl rfl tt_65 rfl (by decide) (w_fGive z σ2 (1) _ (by decide) w) (fun u21 σ17 hq19 => ?_)
    obtain ⟨rfl, hF18, w⟩ := hq19
    have w := w hF18
    exact wk_rV tt_68 rfl rfl ⟨rfl, (sg_F_t (sg_F_t (sg_F_r [64, 78, 79, 80, 81, 82, 83, 85, 86, 87, 8061, 11061, 11077, 12077, 13077, 14077, 15077, 16077, 17077, 18077, 19077] σ) (sg_F_m (L := [64, 78, 79, 80, 81, 82, 83, 85, 86, 87, 8061, 11061, 11077, 12077, 13077, 14077, 15077, 16077, 17077, 18077, 19077]) hF3 rfl)) (sg_F_m (L := [64, 78, 79, 80, 81, 82, 83, 85, 86, 87, 8061, 11061, 11077, 12077, 13077, 14077, 15077, 16077, 17077, 18077, 19077]) hF18 rfl)), w⟩
  have lp10 : ∀ (n14 : Nat) (v1 : Int) (σ2 : sg_S), sg_R v1 → sg_F [83, 12077, 16077] σ σ2 → I4 n14 v1 σ2 → wx z 4 68 2 [(0, .inr (.inr (.ref 61))), (1, .inl (a1)), (2, .inl (v1))] [] σ2 (fun v σ' => v = none ∧ sg_F [64, 78, 79, 80, 81, 82, 83, 85, 86, 87, 8061, 11061, 11077, 12077, 13077, 14077, 15077, 16077, 17077, 18077, 19077] σ σ' ∧ Q σ') := by
    intro n14
    induction n14 using Nat.strongRecOn with
    | _ n14 ih8 =>
      intro v1 σ2 r7 hF3 w
      have w := w12 n14 v1 σ2 r7 hF3 w
      refine wk_b tt_68 3 (pc' := 7) (ls' := [(0, .inr (.inr (.ref 61))), (1, .inl (a1)), (2, .inl (v1))]) (st' := [.inl ((sg_g σ2 61 23)), .inl (v1)]) (σ' := σ2) rfl ?_
      rw [show (sg_g σ2 61 23) = (sg_g σ 61 23) from by rw [sg_F_ga hF3 rfl]]
      refine wk_if2 tt_68 (tgt := 32) rfl rfl r7 (sg_Rg _ _ _) (fun (h22 : (sg_g σ 61 23) ≤ v1) => ?_) (fun (h22 : v1 < (sg_g σ 61 23)) => ?_)
      ·
        have w := w.1 h22
        exact wk_ls [(0, .inr (.inr (.ref 61)))] rfl ⟨rfl, trivial⟩ (ex15  σ2  (sg_F_t (sg_F_r [83, 12077, 16077] σ) (sg_F_m (L := [83, 12077, 16077]) hF3 rfl)) w)
      ·
        have w := w.2 h22
        refine wk_b tt_68 6 (pc' := 20) (ls' := [(0, .inr (.inr (.ref 61))), (1, .inl (a1)), (2, .inl (v1))]) (st' := [.inl (v1), .inl (a1), .inr (.inr (.ref 77)), .inr (.inr (.ref 77))]) (σ' := σ2) rfl ?_
        obtain ⟨c23, w⟩ := w
        have c23 : p_lCell σ2 (a1) (v1) := by
          rw [pF_lCell hF3 rfl rfl]; exact c23
        refine wk_callp tt_68 rfl rfl rfl rfl rfl tt_100 rfl (by decide) (w_lCell z σ2 (a1) (v1) ra1 r7 c23) ?_
        rw [vF_lCell hF3 rfl rfl]
        have r24 := vr_lCell σ  (a1) (v1) ra1 r7 (by have q := c23; rw [pF_lCell hF3 rfl rfl] at q; exact q)
        refine wk_call tt_68 rfl rfl rfl rfl rfl tt_105 rfl (by decide) (w_lFirst z σ2 ((v_lCell σ (a1) (v1))) _ r24 w) (fun u30 σ26 hq28 => ?_)
        obtain ⟨rfl, hF27, w⟩ := hq28
        have w := w hF27
        obtain ⟨c31, w⟩ := w
        refine wk_b tt_68 2 (pc' := 2) (ls' := [(2, .inl ((v1 + 1))), (0, .inr (.inr (.ref 61))), (1, .inl (a1))]) (st' := []) (σ' := σ26) rfl ?_
        obtain ⟨m32, hm32, w⟩ := w
        exact wk_ls [(0, .inr (.inr (.ref 61))), (1, .inl (a1)), (2, .inl ((v1 + 1)))] rfl ⟨rfl, rfl, rfl, trivial⟩ (ih8 m32 hm32 ((v1 + 1)) σ26 c31 (sg_F_t (sg_F_t (sg_F_r [83, 12077, 16077] σ) (sg_F_m (L := [83, 12077, 16077]) hF3 rfl)) (sg_F_m (L := [83, 12077, 16077]) hF27 rfl)) w)
  exact wk_ls [(0, .inr (.inr (.ref 61))), (1, .inl (a1)), (2, .inl (0))] rfl ⟨rfl, rfl, rfl, trivial⟩ (lp10 μ5 (0) σ (by decide) (sg_F_r _ _) w11)
-- NestedVectors$FlatRun.spread
def V_fSpread (σ : sg_S) (a1 : Int) (Q : sg_S → Prop) : Prop := (∃ (I4 : Nat → Int → sg_S → Prop) (X6 : sg_S → Prop), (∃ n, I4 n (0) σ) ∧ (∀ (n14 : Nat) (v1 : Int) (σ2 : sg_S), sg_R v1 → sg_F [62, 78, 79, 80, 81, 82, 85, 86, 87, 11061, 11077, 12077, 13077, 14077, 15077, 16077, 17077, 18077, 19077] σ σ2 → I4 n14 v1 σ2 → (((sg_g σ 61 21) ≤ v1 → X6 σ2) ∧ (v1 < (sg_g σ 61 21) → ((¬ (sg_g σ2 61 10) = 0 → X6 σ2) ∧ ((sg_g σ2 61 10) = 0 → (∃ (I21 : Nat → Int → sg_S → Prop) (X23 : sg_S → Prop), (∃ n, I21 n (0) σ2) ∧ (∀ (n31 : Nat) (v18 : Int) (σ19 : sg_S), sg_R v18 → sg_F [85, 86, 87, 14077, 16077] σ2 σ19 → I21 n31 v18 σ19 → (((sg_g σ 61 23) ≤ v18 → X23 σ19) ∧ (v18 < (sg_g σ 61 23) → ((¬ (sg_g σ19 77 15) = 0 → X23 σ19) ∧ ((sg_g σ19 77 15) = 0 → p_lCell σ2 (a1) (v18) ∧ (∃ (I54 : Nat → Int → sg_S → Prop) (X56 : sg_S → Prop), (∃ n, I54 n (0) σ19) ∧ (∀ (n64 : Nat) (v51 : Int) (σ52 : sg_S), sg_R v51 → sg_F [85, 86, 87, 14077, 16077] σ19 σ52 → I54 n64 v51 σ52 → (((v_lCell σ2 (a1) (v18)) ≤ v51 → X56 σ52) ∧ (v51 < (v_lCell σ2 (a1) (v18)) → sg_R (v18 + 1) ∧ V_lPick σ52 ((sx_at σ2 62 272 ((sx_at σ 74 200 (v1))))) (v18) ((v18 + 1)) (fun σ71 => sg_F [85, 86, 87, 14077, 16077] σ52 σ71 → sg_R (v51 + 1) ∧ (∃ m, m < n64 ∧ I54 m ((v51 + 1)) σ71))))) ∧ (∀ (σ52 : sg_S), sg_F [85, 86, 87, 14077, 16077] σ19 σ52 → X56 σ52 → sg_R (v18 + 1) ∧ (∃ m, m < n31 ∧ I21 m ((v18 + 1)) σ52)))))))) ∧ (∀ (σ19 : sg_S), sg_F [85, 86, 87, 14077, 16077] σ2 σ19 → X23 σ19 → V_lSeal σ19 ((sx_at σ 34 272 ((sx_at σ 74 200 (v1))))) (0) (fun q33 σ34 => sg_R q33 → sg_F [78, 79, 80, 81, 82, 85, 86, 87, 11077, 12077, 13077, 14077, 15077, 16077, 17077, 18077, 19077] σ19 σ34 → ∀ σ39, σ39 = (sx_put σ34 62 272 ((sx_at σ 74 200 (v1))) (q33)) → ∀ σ42, σ42 = (sg_w σ39 61 10 ((sg_g σ34 77 18))) → sg_R (v1 + 1) ∧ (∃ m, m < n14 ∧ I4 m ((v1 + 1)) σ42))))))))) ∧ (∀ (σ2 : sg_S), sg_F [62, 78, 79, 80, 81, 82, 85, 86, 87, 11061, 11077, 12077, 13077, 14077, 15077, 16077, 17077, 18077, 19077] σ σ2 → X6 σ2 → Q σ2))
set_option maxHeartbeats 4000000 in
set_option maxRecDepth 8000 in
theorem w_fSpread (z : Value) (σ : sg_S) (a1 : Int) (Q : sg_S → Prop) (ra1 : sg_R a1) (w : V_fSpread σ a1 Q) : wx z 3 86 0 [(0, .inr (.inr (.ref 61))), (1, .inl (a1))] [] σ (fun v σ' => v = none ∧ sg_F [62, 78, 79, 80, 81, 82, 85, 86, 87, 11061, 11077, 12077, 13077, 14077, 15077, 16077, 17077, 18077, 19077] σ σ' ∧ Q σ') := by
  unfold V_fSpread at w
  refine wk_b tt_86 2 (pc' := 2) (ls' := [(2, .inl (0)), (0, .inr (.inr (.ref 61))), (1, .inl (a1))]) (st' := []) (σ' := σ) rfl ?_
  obtain ⟨I4, X6, ⟨μ5, w11⟩, w12, w13⟩ := w
  have ex15 : ∀ (σ2 : sg_S), sg_F [62, 78, 79, 80, 81, 82, 85, 86, 87, 11061, 11077, 12077, 13077, 14077, 15077, 16077, 17077, 18077, 19077] σ σ2 → X6 σ2 → wx z 3 86 147 [] [] σ2 (fun v σ' => v = none ∧ sg_F [62, 78, 79, 80, 81, 82, 85, 86, 87, 11061, 11077, 12077, 13077, 14077, 15077, 16077, 17077, 18077, 19077] σ σ' ∧ Q σ') := by
    intro σ2 hF3 w
    have w := w13 σ2 hF3 w
    exact wk_rV tt_86 rfl rfl ⟨rfl, (sg_F_t (sg_F_r [62, 78, 79, 80, 81, 82, 85, 86, 87, 11061, 11077, 12077, 13077, 14077, 15077, 16077, 17077, 18077, 19077] σ) (sg_F_m (L := [62, 78, 79, 80, 81, 82, 85, 86, 87, 11061, 11077, 12077, 13077, 14077, 15077, 16077, 17077, 18077, 19077]) hF3 rfl)), w⟩
  have lp10 : ∀ (n14 : Nat) (v1 : Int) (σ2 : sg_S), sg_R v1 → sg_F [62, 78, 79, 80, 81, 82, 85, 86, 87, 11061, 11077, 12077, 13077, 14077, 15077, 16077, 17077, 18077, 19077] σ σ2 → I4 n14 v1 σ2 → wx z 3 86 2 [(0, .inr (.inr (.ref 61))), (1, .inl (a1)), (2, .inl (v1))] [] σ2 (fun v σ' => v = none ∧ sg_F [62, 78, 79, 80, 81, 82, 85, 86, 87, 11061, 11077, 12077, 13077, 14077, 15077, 16077, 17077, 18077, 19077] σ σ' ∧ Q σ') := by
    intro n14
    induction n14 using Nat.strongRecOn with
    | _ n14 ih8 =>
      intro v1 σ2 r7 hF3 w
      have w := w12 n14 v1 σ2 r7 hF3 w
      refine wk_b tt_86 3 (pc' := 7) (ls' := [(0, .inr (.inr (.ref 61))), (1, .inl (a1)), (2, .inl (v1))]) (st' := [.inl ((sg_g σ2 61 21)), .inl (v1)]) (σ' := σ2) rfl ?_
      rw [show (sg_g σ2 61 21) = (sg_g σ 61 21) from by rw [sg_F_g hF3 rfl]]
      refine wk_if2 tt_86 (tgt := 147) rfl rfl r7 (sg_Rg _ _ _) (fun (h16 : (sg_g σ 61 21) ≤ v1) => ?_) (fun (h16 : v1 < (sg_g σ 61 21)) => ?_)
      ·
        have w := w.1 h16
        exact wk_ls [] rfl trivial (ex15  σ2  (sg_F_t (sg_F_r [62, 78, 79, 80, 81, 82, 85, 86, 87, 11061, 11077, 12077, 13077, 14077, 15077, 16077, 17077, 18077, 19077] σ) (sg_F_m (L := [62, 78, 79, 80, 81, 82, 85, 86, 87, 11061, 11077, 12077, 13077, 14077, 15077, 16077, 17077, 18077, 19077]) hF3 rfl)) w)
      ·
        have w := w.2 h16
        refine wk_b tt_86 2 (pc' := 14) (ls' := [(0, .inr (.inr (.ref 61))), (1, .inl (a1)), (2, .inl (v1))]) (st' := [.inl ((sg_g σ2 61 10))]) (σ' := σ2) rfl ?_
        refine wk_if tt_86 (tgt := 147) rfl rfl (sg_Rg _ _ _) (fun (h17 : ¬ (sg_g σ2 61 10) = 0) => ?_) (fun (h17 : (sg_g σ2 61 10) = 0) => ?_)
        ·
          have w := w.1 h17
          exact wk_ls [] rfl trivial (ex15  σ2  (sg_F_t (sg_F_r [62, 78, 79, 80, 81, 82, 85, 86, 87, 11061, 11077, 12077, 13077, 14077, 15077, 16077, 17077, 18077, 19077] σ) (sg_F_m (L := [62, 78, 79, 80, 81, 82, 85, 86, 87, 11061, 11077, 12077, 13077, 14077, 15077, 16077, 17077, 18077, 19077]) hF3 rfl)) w)
        ·
          have w := w.2 h17
          refine wk_b tt_86 3 (pc' := 22) (ls' := [(0, .inr (.inr (.ref 61))), (1, .inl (a1)), (2, .inl (v1))]) (st' := [.inl (v1), .inr (.inr (.ref 74))]) (σ' := σ2) rfl ?_
          refine wk_callp tt_86 rfl rfl rfl rfl rfl tt_5 rfl (by decide) (at_i0 z σ2 74 200 (v1) rfl (by decide) r7) ?_
          show wx z 3 86 25 [(0, .inr (.inr (.ref 61))), (1, .inl (a1)), (2, .inl (v1))] [.inl ((sx_at σ2 74 200 (v1)))] σ2 (fun v σ' => v = none ∧ sg_F [62, 78, 79, 80, 81, 82, 85, 86, 87, 11061, 11077, 12077, 13077, 14077, 15077, 16077, 17077, 18077, 19077] σ σ' ∧ Q σ')
          rw [sx_F (a := 74) (n := 200) (i := (v1)) hF3 rfl]
          refine wk_b tt_86 3 (pc' := 29) (ls' := [(4, .inl (0)), (3, .inl ((sx_at σ 74 200 (v1)))), (0, .inr (.inr (.ref 61))), (1, .inl (a1)), (2, .inl (v1))]) (st' := []) (σ' := σ2) rfl ?_
          obtain ⟨I21, X23, ⟨μ22, w28⟩, w29, w30⟩ := w
          have ex32 : ∀ (σ19 : sg_S), sg_F [85, 86, 87, 14077, 16077] σ2 σ19 → X23 σ19 → wx z 3 86 103 [(0, .inr (.inr (.ref 61))), (1, .inl (a1)), (2, .inl (v1)), (3, .inl ((sx_at σ 74 200 (v1))))] [] σ19 (fun v σ' => v = none ∧ sg_F [62, 78, 79, 80, 81, 82, 85, 86, 87, 11061, 11077, 12077, 13077, 14077, 15077, 16077, 17077, 18077, 19077] σ σ' ∧ Q σ') := by
            intro σ19 hF20 w
            have w := w30 σ19 hF20 w
            refine wk_b tt_86 9 (pc' := 120) (ls' := [(0, .inr (.inr (.ref 61))), (1, .inl (a1)), (2, .inl (v1)), (3, .inl ((sx_at σ 74 200 (v1))))]) (st' := [.inl ((sx_at σ 74 200 (v1))), .inr (.inr (.ref 34)), .inr (.inr (.ref 77)), .inl ((sx_at σ 74 200 (v1))), .inr (.inr (.ref 62))]) (σ' := σ19) rfl ?_
            refine wk_callp tt_86 rfl rfl rfl rfl rfl tt_5 rfl (by decide) (at_i0 z σ19 34 272 ((sx_at σ 74 200 (v1))) rfl (by decide) (sx_R ..)) ?_
            show wx z 3 86 123 [(0, .inr (.inr (.ref 61))), (1, .inl (a1)), (2, .inl (v1)), (3, .inl ((sx_at σ 74 200 (v1))))] [.inl ((sx_at σ19 34 272 ((sx_at σ 74 200 (v1))))), .inr (.inr (.ref 77)), .inl ((sx_at σ 74 200 (v1))), .inr (.inr (.ref 62))] σ19 (fun v σ' => v = none ∧ sg_F [62, 78, 79, 80, 81, 82, 85, 86, 87, 11061, 11077, 12077, 13077, 14077, 15077, 16077, 17077, 18077, 19077] σ σ' ∧ Q σ')
            rw [sx_F (a := 34) (n := 272) (i := ((sx_at σ 74 200 (v1)))) hF20 rfl, sx_F (a := 34) (n := 272) (i := ((sx_at σ 74 200 (v1)))) hF3 rfl]
            refine wk_b tt_86 1 (pc' := 124) (ls' := [(0, .inr (.inr (.ref 61))), (1, .inl (a1)), (2, .inl (v1)), (3, .inl ((sx_at σ 74 200 (v1))))]) (st' := [.inl (0), .inl ((sx_at σ 34 272 ((sx_at σ 74 200 (v1))))), .inr (.inr (.ref 77)), .inl ((sx_at σ 74 200 (v1))), .inr (.inr (.ref 62))]) (σ' := σ19) rfl ?_
            refine wk_call tt_86 rfl rfl rfl rfl rfl tt_111 rfl (by decide) (w_lSeal z σ19 ((sx_at σ 34 272 ((sx_at σ 74 200 (v1))))) (0) _ (sx_R ..) (by decide) w) (fun u38 σ34 hq36 => ?_)
            obtain ⟨q33, rfl, r37, hF35, w⟩ := hq36
            have w := w r37 hF35
            refine wk_callp tt_86 rfl rfl rfl rfl rfl tt_21 rfl (by decide) (pt_i0 z σ34 62 272 ((sx_at σ 74 200 (v1))) (q33) rfl (by decide) (sx_R ..)) ?_
            show wx z 3 86 130 [(0, .inr (.inr (.ref 61))), (1, .inl (a1)), (2, .inl (v1)), (3, .inl ((sx_at σ 74 200 (v1))))] [] (sx_put σ34 62 272 ((sx_at σ 74 200 (v1))) (q33)) (fun v σ' => v = none ∧ sg_F [62, 78, 79, 80, 81, 82, 85, 86, 87, 11061, 11077, 12077, 13077, 14077, 15077, 16077, 17077, 18077, 19077] σ σ' ∧ Q σ')
            generalize hs40 : (sx_put σ34 62 272 ((sx_at σ 74 200 (v1))) (q33)) = σ39
            have w := w σ39 hs40.symm
            have hF41 : sg_F [62] σ34 σ39 := by rw [← hs40]; exact sg_F_p (sg_F_r _ _) rfl _ _ _
            refine wk_b tt_86 5 (pc' := 141) (ls' := [(0, .inr (.inr (.ref 61))), (1, .inl (a1)), (2, .inl (v1)), (3, .inl ((sx_at σ 74 200 (v1))))]) (st' := []) (σ' := (sg_w σ39 61 10 ((sg_g σ39 77 18)))) rfl ?_
            rw [show (sg_g σ39 77 18) = (sg_g σ34 77 18) from by rw [sg_F_ga hF41 rfl]]
            generalize hs43 : (sg_w σ39 61 10 ((sg_g σ34 77 18))) = σ42
            have w := w σ42 hs43.symm
            have hF44 : sg_F [11061] σ39 σ42 := by rw [← hs43]; exact sg_F_w (sg_F_r _ _) rfl _
            obtain ⟨c45, w⟩ := w
            refine wk_b tt_86 2 (pc' := 2) (ls' := [(2, .inl ((v1 + 1))), (0, .inr (.inr (.ref 61))), (1, .inl (a1)), (3, .inl ((sx_at σ 74 200 (v1))))]) (st' := []) (σ' := σ42) rfl ?_
            obtain ⟨m46, hm46, w⟩ := w
            exact wk_ls [(0, .inr (.inr (.ref 61))), (1, .inl (a1)), (2, .inl ((v1 + 1)))] rfl ⟨rfl, rfl, rfl, trivial⟩ (ih8 m46 hm46 ((v1 + 1)) σ42 c45 (sg_F_t (sg_F_t (sg_F_t (sg_F_t (sg_F_t (sg_F_r [62, 78, 79, 80, 81, 82, 85, 86, 87, 11061, 11077, 12077, 13077, 14077, 15077, 16077, 17077, 18077, 19077] σ) (sg_F_m (L := [62, 78, 79, 80, 81, 82, 85, 86, 87, 11061, 11077, 12077, 13077, 14077, 15077, 16077, 17077, 18077, 19077]) hF3 rfl)) (sg_F_m (L := [62, 78, 79, 80, 81, 82, 85, 86, 87, 11061, 11077, 12077, 13077, 14077, 15077, 16077, 17077, 18077, 19077]) hF20 rfl)) (sg_F_m (L := [62, 78, 79, 80, 81, 82, 85, 86, 87, 11061, 11077, 12077, 13077, 14077, 15077, 16077, 17077, 18077, 19077]) hF35 rfl)) (sg_F_m (L := [62, 78, 79, 80, 81, 82, 85, 86, 87, 11061, 11077, 12077, 13077, 14077, 15077, 16077, 17077, 18077, 19077]) hF41 rfl)) (sg_F_m (L := [62, 78, 79, 80, 81, 82, 85, 86, 87, 11061, 11077, 12077, 13077, 14077, 15077, 16077, 17077, 18077, 19077]) hF44 rfl)) w)
          have lp27 : ∀ (n31 : Nat) (v18 : Int) (σ19 : sg_S), sg_R v18 → sg_F [85, 86, 87, 14077, 16077] σ2 σ19 → I21 n31 v18 σ19 → wx z 3 86 29 [(0, .inr (.inr (.ref 61))), (1, .inl (a1)), (2, .inl (v1)), (3, .inl ((sx_at σ 74 200 (v1)))), (4, .inl (v18))] [] σ19 (fun v σ' => v = none ∧ sg_F [62, 78, 79, 80, 81, 82, 85, 86, 87, 11061, 11077, 12077, 13077, 14077, 15077, 16077, 17077, 18077, 19077] σ σ' ∧ Q σ') := by
            intro n31
            induction n31 using Nat.strongRecOn with
            | _ n31 ih25 =>
              intro v18 σ19 r24 hF20 w
              have w := w29 n31 v18 σ19 r24 hF20 w
              refine wk_b tt_86 3 (pc' := 35) (ls' := [(0, .inr (.inr (.ref 61))), (1, .inl (a1)), (2, .inl (v1)), (3, .inl ((sx_at σ 74 200 (v1)))), (4, .inl (v18))]) (st' := [.inl ((sg_g σ19 61 23)), .inl (v18)]) (σ' := σ19) rfl ?_
              rw [show (sg_g σ19 61 23) = (sg_g σ 61 23) from by rw [sg_F_ga hF20 rfl, sg_F_g hF3 rfl]]
              refine wk_if2 tt_86 (tgt := 103) rfl rfl r24 (sg_Rg _ _ _) (fun (h47 : (sg_g σ 61 23) ≤ v18) => ?_) (fun (h47 : v18 < (sg_g σ 61 23)) => ?_)
              ·
                have w := w.1 h47
                exact wk_ls [(0, .inr (.inr (.ref 61))), (1, .inl (a1)), (2, .inl (v1)), (3, .inl ((sx_at σ 74 200 (v1))))] rfl ⟨rfl, rfl, rfl, rfl, trivial⟩ (ex32  σ19  (sg_F_t (sg_F_r [85, 86, 87, 14077, 16077] σ2) (sg_F_m (L := [85, 86, 87, 14077, 16077]) hF20 rfl)) w)
              ·
                have w := w.2 h47
                refine wk_b tt_86 3 (pc' := 45) (ls' := [(0, .inr (.inr (.ref 61))), (1, .inl (a1)), (2, .inl (v1)), (3, .inl ((sx_at σ 74 200 (v1)))), (4, .inl (v18))]) (st' := [.inl ((sg_g σ19 77 15))]) (σ' := σ19) rfl ?_
                refine wk_if tt_86 (tgt := 103) rfl rfl (sg_Rg _ _ _) (fun (h48 : ¬ (sg_g σ19 77 15) = 0) => ?_) (fun (h48 : (sg_g σ19 77 15) = 0) => ?_)
                ·
                  have w := w.1 h48
                  exact wk_ls [(0, .inr (.inr (.ref 61))), (1, .inl (a1)), (2, .inl (v1)), (3, .inl ((sx_at σ 74 200 (v1))))] rfl ⟨rfl, rfl, rfl, rfl, trivial⟩ (ex32  σ19  (sg_F_t (sg_F_r [85, 86, 87, 14077, 16077] σ2) (sg_F_m (L := [85, 86, 87, 14077, 16077]) hF20 rfl)) w)
                ·
                  have w := w.2 h48
                  refine wk_b tt_86 4 (pc' := 55) (ls' := [(0, .inr (.inr (.ref 61))), (1, .inl (a1)), (2, .inl (v1)), (3, .inl ((sx_at σ 74 200 (v1)))), (4, .inl (v18))]) (st' := [.inl (v18), .inl (a1), .inr (.inr (.ref 77))]) (σ' := σ19) rfl ?_
                  obtain ⟨c49, w⟩ := w
                  have c49 : p_lCell σ19 (a1) (v18) := by
                    rw [pF_lCell hF20 rfl rfl]; exact c49
                  refine wk_callp tt_86 rfl rfl rfl rfl rfl tt_100 rfl (by decide) (w_lCell z σ19 (a1) (v18) ra1 r24 c49) ?_
                  rw [vF_lCell hF20 rfl rfl]
                  have r50 := vr_lCell σ2  (a1) (v18) ra1 r24 (by have q := c49; rw [pF_lCell hF20 rfl rfl] at q; exact q)
                  refine wk_b tt_86 3 (pc' := 63) (ls' := [(6, .inl (0)), (5, .inl ((v_lCell σ2 (a1) (v18)))), (0, .inr (.inr (.ref 61))), (1, .inl (a1)), (2, .inl (v1)), (3, .inl ((sx_at σ 74 200 (v1)))), (4, .inl (v18))]) (st' := []) (σ' := σ19) rfl ?_
                  obtain ⟨I54, X56, ⟨μ55, w61⟩, w62, w63⟩ := w
                  have ex65 : ∀ (σ52 : sg_S), sg_F [85, 86, 87, 14077, 16077] σ19 σ52 → X56 σ52 → wx z 3 86 97 [(0, .inr (.inr (.ref 61))), (1, .inl (a1)), (2, .inl (v1)), (3, .inl ((sx_at σ 74 200 (v1)))), (4, .inl (v18))] [] σ52 (fun v σ' => v = none ∧ sg_F [62, 78, 79, 80, 81, 82, 85, 86, 87, 11061, 11077, 12077, 13077, 14077, 15077, 16077, 17077, 18077, 19077] σ σ' ∧ Q σ') := by
                    intro σ52 hF53 w
                    have w := w63 σ52 hF53 w
                    obtain ⟨c66, w⟩ := w
                    refine wk_b tt_86 2 (pc' := 29) (ls' := [(4, .inl ((v18 + 1))), (0, .inr (.inr (.ref 61))), (1, .inl (a1)), (2, .inl (v1)), (3, .inl ((sx_at σ 74 200 (v1))))]) (st' := []) (σ' := σ52) rfl ?_
                    obtain ⟨m67, hm67, w⟩ := w
                    exact wk_ls [(0, .inr (.inr (.ref 61))), (1, .inl (a1)), (2, .inl (v1)), (3, .inl ((sx_at σ 74 200 (v1)))), (4, .inl ((v18 + 1)))] rfl ⟨rfl, rfl, rfl, rfl, rfl, trivial⟩ (ih25 m67 hm67 ((v18 + 1)) σ52 c66 (sg_F_t (sg_F_t (sg_F_r [85, 86, 87, 14077, 16077] σ2) (sg_F_m (L := [85, 86, 87, 14077, 16077]) hF20 rfl)) (sg_F_m (L := [85, 86, 87, 14077, 16077]) hF53 rfl)) w)
                  have lp60 : ∀ (n64 : Nat) (v51 : Int) (σ52 : sg_S), sg_R v51 → sg_F [85, 86, 87, 14077, 16077] σ19 σ52 → I54 n64 v51 σ52 → wx z 3 86 63 [(0, .inr (.inr (.ref 61))), (1, .inl (a1)), (2, .inl (v1)), (3, .inl ((sx_at σ 74 200 (v1)))), (4, .inl (v18)), (5, .inl ((v_lCell σ2 (a1) (v18)))), (6, .inl (v51))] [] σ52 (fun v σ' => v = none ∧ sg_F [62, 78, 79, 80, 81, 82, 85, 86, 87, 11061, 11077, 12077, 13077, 14077, 15077, 16077, 17077, 18077, 19077] σ σ' ∧ Q σ') := by
                    intro n64
                    induction n64 using Nat.strongRecOn with
                    | _ n64 ih58 =>
                      intro v51 σ52 r57 hF53 w
                      have w := w62 n64 v51 σ52 r57 hF53 w
                      refine wk_b tt_86 2 (pc' := 67) (ls' := [(0, .inr (.inr (.ref 61))), (1, .inl (a1)), (2, .inl (v1)), (3, .inl ((sx_at σ 74 200 (v1)))), (4, .inl (v18)), (5, .inl ((v_lCell σ2 (a1) (v18)))), (6, .inl (v51))]) (st' := [.inl ((v_lCell σ2 (a1) (v18))), .inl (v51)]) (σ' := σ52) rfl ?_
                      refine wk_if2 tt_86 (tgt := 97) rfl rfl r57 r50 (fun (h68 : (v_lCell σ2 (a1) (v18)) ≤ v51) => ?_) (fun (h68 : v51 < (v_lCell σ2 (a1) (v18))) => ?_)
                      ·
                        have w := w.1 h68
                        exact wk_ls [(0, .inr (.inr (.ref 61))), (1, .inl (a1)), (2, .inl (v1)), (3, .inl ((sx_at σ 74 200 (v1)))), (4, .inl (v18))] rfl ⟨rfl, rfl, rfl, rfl, rfl, trivial⟩ (ex65  σ52  (sg_F_t (sg_F_r [85, 86, 87, 14077, 16077] σ19) (sg_F_m (L := [85, 86, 87, 14077, 16077]) hF53 rfl)) w)
                      ·
                        have w := w.2 h68
                        refine wk_b tt_86 5 (pc' := 79) (ls' := [(0, .inr (.inr (.ref 61))), (1, .inl (a1)), (2, .inl (v1)), (3, .inl ((sx_at σ 74 200 (v1)))), (4, .inl (v18)), (5, .inl ((v_lCell σ2 (a1) (v18)))), (6, .inl (v51))]) (st' := [.inl ((sx_at σ 74 200 (v1))), .inr (.inr (.ref 62)), .inr (.inr (.ref 77))]) (σ' := σ52) rfl ?_
                        refine wk_callp tt_86 rfl rfl rfl rfl rfl tt_5 rfl (by decide) (at_i0 z σ52 62 272 ((sx_at σ 74 200 (v1))) rfl (by decide) (sx_R ..)) ?_
                        show wx z 3 86 82 [(0, .inr (.inr (.ref 61))), (1, .inl (a1)), (2, .inl (v1)), (3, .inl ((sx_at σ 74 200 (v1)))), (4, .inl (v18)), (5, .inl ((v_lCell σ2 (a1) (v18)))), (6, .inl (v51))] [.inl ((sx_at σ52 62 272 ((sx_at σ 74 200 (v1))))), .inr (.inr (.ref 77))] σ52 (fun v σ' => v = none ∧ sg_F [62, 78, 79, 80, 81, 82, 85, 86, 87, 11061, 11077, 12077, 13077, 14077, 15077, 16077, 17077, 18077, 19077] σ σ' ∧ Q σ')
                        rw [sx_F (a := 62) (n := 272) (i := ((sx_at σ 74 200 (v1)))) hF53 rfl, sx_F (a := 62) (n := 272) (i := ((sx_at σ 74 200 (v1)))) hF20 rfl]
                        obtain ⟨c69, w⟩ := w
                        refine wk_b tt_86 4 (pc' := 88) (ls' := [(0, .inr (.inr (.ref 61))), (1, .inl (a1)), (2, .inl (v1)), (3, .inl ((sx_at σ 74 200 (v1)))), (4, .inl (v18)), (5, .inl ((v_lCell σ2 (a1) (v18)))), (6, .inl (v51))]) (st' := [.inl ((v18 + 1)), .inl (v18), .inl ((sx_at σ2 62 272 ((sx_at σ 74 200 (v1))))), .inr (.inr (.ref 77))]) (σ' := σ52) rfl ?_
                        refine wk_call tt_86 rfl rfl rfl rfl rfl tt_109 rfl (by decide) (w_lPick z σ52 ((sx_at σ2 62 272 ((sx_at σ 74 200 (v1))))) (v18) ((v18 + 1)) _ (sx_R ..) r24 c69 w) (fun u75 σ71 hq73 => ?_)
                        obtain ⟨rfl, hF72, w⟩ := hq73
                        have w := w hF72
                        obtain ⟨c76, w⟩ := w
                        refine wk_b tt_86 2 (pc' := 63) (ls' := [(6, .inl ((v51 + 1))), (0, .inr (.inr (.ref 61))), (1, .inl (a1)), (2, .inl (v1)), (3, .inl ((sx_at σ 74 200 (v1)))), (4, .inl (v18)), (5, .inl ((v_lCell σ2 (a1) (v18))))]) (st' := []) (σ' := σ71) rfl ?_
                        obtain ⟨m77, hm77, w⟩ := w
                        exact wk_ls [(0, .inr (.inr (.ref 61))), (1, .inl (a1)), (2, .inl (v1)), (3, .inl ((sx_at σ 74 200 (v1)))), (4, .inl (v18)), (5, .inl ((v_lCell σ2 (a1) (v18)))), (6, .inl ((v51 + 1)))] rfl ⟨rfl, rfl, rfl, rfl, rfl, rfl, rfl, trivial⟩ (ih58 m77 hm77 ((v51 + 1)) σ71 c76 (sg_F_t (sg_F_t (sg_F_r [85, 86, 87, 14077, 16077] σ19) (sg_F_m (L := [85, 86, 87, 14077, 16077]) hF53 rfl)) (sg_F_m (L := [85, 86, 87, 14077, 16077]) hF72 rfl)) w)
                  exact wk_ls [(0, .inr (.inr (.ref 61))), (1, .inl (a1)), (2, .inl (v1)), (3, .inl ((sx_at σ 74 200 (v1)))), (4, .inl (v18)), (5, .inl ((v_lCell σ2 (a1) (v18)))), (6, .inl (0))] rfl ⟨rfl, rfl, rfl, rfl, rfl, rfl, rfl, trivial⟩ (lp60 μ55 (0) σ19 (by decide) (sg_F_r _ _) w61)
          exact wk_ls [(0, .inr (.inr (.ref 61))), (1, .inl (a1)), (2, .inl (v1)), (3, .inl ((sx_at σ 74 200 (v1)))), (4, .inl (0))] rfl ⟨rfl, rfl, rfl, rfl, rfl, trivial⟩ (lp27 μ22 (0) σ2 (by decide) (sg_F_r _ _) w28)
  exact wk_ls [(0, .inr (.inr (.ref 61))), (1, .inl (a1)), (2, .inl (0))] rfl ⟨rfl, rfl, rfl, trivial⟩ (lp10 μ5 (0) σ (by decide) (sg_F_r _ _) w11)
