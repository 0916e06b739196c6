/-! Conditions of the reference's methods, by program (22). -/
-- NestedVectorsModel.flatIf
def V_flatIf (σ : sg_S) (a1 : Int) (Q : sg_S → Prop) : Prop := (0 ≤ a1 ∧ a1 < 4000) ∧ sg_R ((sg_g σ 127 (a1)) + 1) ∧ ∀ σ3, σ3 = (sg_w σ 127 (a1) (((sg_g σ 127 (a1)) + 1))) → V_restore σ3 ((sg_g σ 146 (a1))) (fun σ7 => sg_F [134, 100088] σ3 σ7 → ((¬ (sg_g σ 127 (a1)) = 0 → ((3 ≤ (sg_g σ 127 (a1)) → sg_R ((sg_g σ 128 (a1)) + 1) ∧ (0 ≤ ((sg_g σ 128 (a1)) + 1) ∧ ((sg_g σ 128 (a1)) + 1) < 12000) ∧ V_extentOf σ7 ((sg_g σ 133 (((sg_g σ 128 (a1)) + 1)))) (fun q16 _ => sg_R q16 → sg_R ((sg_g σ 128 (a1)) + 2) ∧ (0 ≤ ((sg_g σ 128 (a1)) + 2) ∧ ((sg_g σ 128 (a1)) + 2) < 12000) ∧ V_extentOf σ7 ((sg_g σ 133 (((sg_g σ 128 (a1)) + 2)))) (fun q24 _ => sg_R q24 → sg_RL (q16 + q24) ∧ V_stepped σ7 ((q16 + q24)) (fun q31 σ32 => (q31 = 0 ∨ q31 = 1) → sg_F [74088, 85088, 86088] σ7 σ32 → ((¬ q31 = 0 → V_joined σ32 (((sg_g σ 128 (a1)) + 1)) (2) (fun q38 σ39 => sg_R q38 → sg_F [139, 140, 141, 142, 88088, 92088] σ32 σ39 → p_lanesOf σ39 ((sg_g σ 133 (((sg_g σ 128 (a1)) + 1)))) ∧ ∀ σ46, σ46 = (sg_w σ39 88 93 (0)) → (∃ (I54 : Nat → Int → Int → Int → sg_S → Prop) (X56 : sg_S → Prop), (∃ n, I54 n (0) ((v_lanesOf σ39 ((sg_g σ 133 (((sg_g σ 128 (a1)) + 1)))))) (0) σ46) ∧ (∀ (n66 : Nat) (v49 : Int) (v50 : Int) (v51 : Int) (σ52 : sg_S), sg_R v49 → sg_R v50 → sg_R v51 → sg_F [143, 94088] σ46 σ52 → I54 n66 v49 v50 v51 σ52 → (((sg_g σ 145 (a1)) ≤ v51 → X56 σ52) ∧ (v51 < (sg_g σ 145 (a1)) → (0 ≤ (sg_g σ 128 (a1)) ∧ (sg_g σ 128 (a1)) < 12000) ∧ p_rowAt σ39 ((sg_g σ 133 ((sg_g σ 128 (a1))))) (v51) ∧ ∀ v86 : Int, v86 = (if (v_rowAt σ39 ((sg_g σ 133 ((sg_g σ 128 (a1))))) (v51)) = 0 then (0 : Int) else (1 : Int)) → sg_R v86 → ∀ v91 : Int, v91 = (if v86 = 0 then v50 else v49) → sg_R v91 → V_list σ52 (v91) (fun σ95 => sg_F [143, 94088] σ52 σ95 → ∀ v102 : Int, v102 = (if v86 = 0 then (0 : Int) else (1 : Int)) → sg_R v102 → sg_R (v49 + v102) ∧ ∀ v108 : Int, v108 = (if v86 = 0 then (1 : Int) else (0 : Int)) → sg_R v108 → sg_R (v50 + v108) ∧ sg_R (v51 + 1) ∧ (∃ m, m < n66 ∧ I54 m ((v49 + v102)) ((v50 + v108)) ((v51 + 1)) σ95))))) ∧ (∀ (σ52 : sg_S), sg_F [143, 94088] σ46 σ52 → X56 σ52 → V_gathered σ52 (q38) (fun q68 σ69 => sg_R q68 → sg_F [139, 140, 141, 142, 144, 88088, 92088] σ52 σ69 → V_flatLeave σ69 (q68) (fun σ75 => sg_F [133, 63088, 71088] σ69 σ75 → Q σ75)))))) ∧ (q31 = 0 → Q σ32)))))) ∧ ((sg_g σ 127 (a1)) < 3 → sg_R (200 * (sg_g σ 126 (a1))) ∧ sg_R ((200 * (sg_g σ 126 (a1))) + (sg_g σ 127 (a1))) ∧ (0 ≤ ((200 * (sg_g σ 126 (a1))) + (sg_g σ 127 (a1))) ∧ ((200 * (sg_g σ 126 (a1))) + (sg_g σ 127 (a1))) < 42000) ∧ V_clearInside σ7  (fun σ118 => sg_F [120, 47088] σ7 σ118 → V_markInside σ118 ((sg_g σ 97 (((200 * (sg_g σ 126 (a1))) + (sg_g σ 127 (a1)))))) (fun σ124 => sg_F [120, 121, 50088] σ118 σ124 → V_gatherOutside σ124 ((-1)) (fun σ130 => sg_F [119, 47088] σ124 σ130 → (0 ≤ (sg_g σ 128 (a1)) ∧ (sg_g σ 128 (a1)) < 12000) ∧ ∀ v138 : Int, v138 = (if ¬ (sg_g σ 127 (a1)) = 1 then (0 : Int) else (1 : Int)) → sg_R v138 → V_listWhere σ130 ((sg_g σ 133 ((sg_g σ 128 (a1))))) (v138) (fun σ142 => sg_F [143, 94088] σ130 σ142 → V_carried σ142  (fun q147 σ148 => (q147 = 0 ∨ q147 = 1) → sg_F [134, 139, 140, 141, 142, 144, 148, 149, 74088, 85088, 86088, 88088, 92088, 100088] σ142 σ148 → ((q147 = 0 → Q σ148) ∧ (¬ q147 = 0 → V_flatBegin σ148 ((sg_g σ 97 (((200 * (sg_g σ 126 (a1))) + (sg_g σ 127 (a1)))))) ((sg_g σ142 88 93)) (fun σ155 => sg_F [126, 127, 128, 145, 146, 63088, 74088, 85088, 86088, 87088] σ148 σ155 → Q σ155))))))))))) ∧ ((sg_g σ 127 (a1)) = 0 → sg_R (200 * (sg_g σ 126 (a1))) ∧ (0 ≤ (200 * (sg_g σ 126 (a1))) ∧ (200 * (sg_g σ 126 (a1))) < 42000) ∧ V_flatBegin σ7 ((sg_g σ 97 ((200 * (sg_g σ 126 (a1)))))) ((sg_g σ 145 (a1))) (fun σ163 => sg_F [126, 127, 128, 145, 146, 63088, 74088, 85088, 86088, 87088] σ7 σ163 → Q σ163))))
set_option maxHeartbeats 4000000 in
set_option maxRecDepth 8000 in
theorem w_flatIf (z : Value) (σ : sg_S) (a1 : Int) (Q : sg_S → Prop) (ra1 : sg_R a1) (w : V_flatIf σ a1 Q) : wx z 4 239 0 [(0, .inr (.inr (.ref 88))), (1, .inl (a1))] [] σ (fun v σ' => v = none ∧ sg_F [119, 120, 121, 126, 127, 128, 133, 134, 139, 140, 141, 142, 143, 144, 145, 146, 148, 149, 47088, 50088, 63088, 71088, 74088, 85088, 86088, 87088, 88088, 92088, 94088, 100088] σ σ' ∧ Q σ') := by
  unfold V_flatIf at w
  refine wk_b tt_239 3 (pc' := 5) (ls' := [(0, .inr (.inr (.ref 88))), (1, .inl (a1))]) (st' := [.inl (a1), .inr (.inr (.ref 126))]) (σ' := σ) rfl ?_
  obtain ⟨c1, w⟩ := w
  refine wk_ia tt_239 rfl rfl c1.1 c1.2 ra1 ?_
  refine wk_b tt_239 4 (pc' := 12) (ls' := [(2, .inl ((sg_g σ 126 (a1)))), (0, .inr (.inr (.ref 88))), (1, .inl (a1))]) (st' := [.inl (a1), .inr (.inr (.ref 128))]) (σ' := σ) rfl ?_
  refine wk_ia tt_239 rfl rfl c1.1 c1.2 ra1 ?_
  refine wk_b tt_239 4 (pc' := 19) (ls' := [(3, .inl ((sg_g σ 128 (a1)))), (2, .inl ((sg_g σ 126 (a1)))), (0, .inr (.inr (.ref 88))), (1, .inl (a1))]) (st' := [.inl (a1), .inr (.inr (.ref 127))]) (σ' := σ) rfl ?_
  refine wk_ia tt_239 rfl rfl c1.1 c1.2 ra1 ?_
  refine wk_b tt_239 5 (pc' := 28) (ls' := [(4, .inl ((sg_g σ 127 (a1)))), (3, .inl ((sg_g σ 128 (a1)))), (2, .inl ((sg_g σ 126 (a1)))), (0, .inr (.inr (.ref 88))), (1, .inl (a1))]) (st' := [.inl (a1), .inr (.inr (.ref 127)), .inl (a1), .inr (.inr (.ref 127))]) (σ' := σ) rfl ?_
  refine wk_ia tt_239 rfl rfl c1.1 c1.2 ra1 ?_
  obtain ⟨c2, w⟩ := w
  refine wk_b tt_239 2 (pc' := 31) (ls' := [(4, .inl ((sg_g σ 127 (a1)))), (3, .inl ((sg_g σ 128 (a1)))), (2, .inl ((sg_g σ 126 (a1)))), (0, .inr (.inr (.ref 88))), (1, .inl (a1))]) (st' := [.inl (((sg_g σ 127 (a1)) + 1)), .inl (a1), .inr (.inr (.ref 127))]) (σ' := σ) rfl ?_
  refine wk_is tt_239 rfl rfl c1.1 c1.2 ra1 ?_
  generalize hs4 : (sg_w σ 127 (a1) (((sg_g σ 127 (a1)) + 1))) = σ3
  have w := w σ3 hs4.symm
  have hF5 : sg_F [127] σ σ3 := by rw [← hs4]; exact sg_F_w (sg_F_r _ _) rfl _
  refine wk_b tt_239 4 (pc' := 38) (ls' := [(4, .inl ((sg_g σ 127 (a1)))), (3, .inl ((sg_g σ 128 (a1)))), (2, .inl ((sg_g σ 126 (a1)))), (0, .inr (.inr (.ref 88))), (1, .inl (a1))]) (st' := [.inl (a1), .inr (.inr (.ref 146)), .inr (.inr (.ref 88))]) (σ' := σ3) rfl ?_
  refine wk_ia tt_239 rfl rfl c1.1 c1.2 ra1 ?_
  rw [show (sg_g σ3 146 (a1)) = (sg_g σ 146 (a1)) from by rw [sg_F_ga hF5 rfl]]
  refine wk_call tt_239 rfl rfl rfl rfl rfl tt_321 rfl (by decide) (w_restore z σ3 ((sg_g σ 146 (a1))) _ (sg_Rg _ _ _) w) (fun u11 σ7 hq9 => ?_)
  obtain ⟨rfl, hF8, w⟩ := hq9
  have w := w hF8
  refine wk_b tt_239 1 (pc' := 44) (ls' := [(4, .inl ((sg_g σ 127 (a1)))), (3, .inl ((sg_g σ 128 (a1)))), (2, .inl ((sg_g σ 126 (a1)))), (0, .inr (.inr (.ref 88))), (1, .inl (a1))]) (st' := [.inl ((sg_g σ 127 (a1)))]) (σ' := σ7) rfl ?_
  refine wk_if tt_239 (tgt := 70) rfl rfl (sg_Rg _ _ _) (fun (h12 : ¬ (sg_g σ 127 (a1)) = 0) => ?_) (fun (h12 : (sg_g σ 127 (a1)) = 0) => ?_)
  ·
    have w := w.1 h12
    refine wk_b tt_239 2 (pc' := 73) (ls' := [(4, .inl ((sg_g σ 127 (a1)))), (3, .inl ((sg_g σ 128 (a1)))), (2, .inl ((sg_g σ 126 (a1)))), (0, .inr (.inr (.ref 88))), (1, .inl (a1))]) (st' := [.inl (3), .inl ((sg_g σ 127 (a1)))]) (σ' := σ7) rfl ?_
    refine wk_if2 tt_239 (tgt := 151) rfl rfl (sg_Rg _ _ _) (by decide) (fun (h13 : 3 ≤ (sg_g σ 127 (a1))) => ?_) (fun (h13 : (sg_g σ 127 (a1)) < 3) => ?_)
    ·
      have w := w.1 h13
      obtain ⟨c14, w⟩ := w
      refine wk_b tt_239 7 (pc' := 160) (ls' := [(4, .inl ((sg_g σ 127 (a1)))), (3, .inl ((sg_g σ 128 (a1)))), (2, .inl ((sg_g σ 126 (a1)))), (0, .inr (.inr (.ref 88))), (1, .inl (a1))]) (st' := [.inl (((sg_g σ 128 (a1)) + 1)), .inr (.inr (.ref 133)), .inr (.inr (.ref 88)), .inr (.inr (.ref 88))]) (σ' := σ7) rfl ?_
      obtain ⟨c15, w⟩ := w
      refine wk_ia tt_239 rfl rfl c15.1 c15.2 c14 ?_
      rw [show (sg_g σ7 133 (((sg_g σ 128 (a1)) + 1))) = (sg_g σ 133 (((sg_g σ 128 (a1)) + 1))) from by rw [sg_F_ga hF8 rfl, sg_F_ga hF5 rfl]]
      refine wk_call tt_239 rfl rfl rfl rfl rfl tt_226 rfl (by decide) (w_extentOf z σ7 ((sg_g σ 133 (((sg_g σ 128 (a1)) + 1)))) _ (sg_Rg _ _ _) w) (fun u21 σ17 hq19 => ?_)
      obtain ⟨q16, rfl, r20, rfl, w⟩ := hq19
      have w := w r20
      obtain ⟨c22, w⟩ := w
      refine wk_b tt_239 7 (pc' := 173) (ls' := [(4, .inl ((sg_g σ 127 (a1)))), (3, .inl ((sg_g σ 128 (a1)))), (2, .inl ((sg_g σ 126 (a1)))), (0, .inr (.inr (.ref 88))), (1, .inl (a1))]) (st' := [.inl (((sg_g σ 128 (a1)) + 2)), .inr (.inr (.ref 133)), .inr (.inr (.ref 88)), .inr (.inl ((sg_n (q16)))), .inr (.inr (.ref 88))]) (σ' := σ7) rfl ?_
      rw [show (sg_n (q16)) = q16 from by rw [sg_id r20]]
      obtain ⟨c23, w⟩ := w
      refine wk_ia tt_239 rfl rfl c23.1 c23.2 c22 ?_
      rw [show (sg_g σ7 133 (((sg_g σ 128 (a1)) + 2))) = (sg_g σ 133 (((sg_g σ 128 (a1)) + 2))) from by rw [sg_F_ga hF8 rfl, sg_F_ga hF5 rfl]]
      refine wk_call tt_239 rfl rfl rfl rfl rfl tt_226 rfl (by decide) (w_extentOf z σ7 ((sg_g σ 133 (((sg_g σ 128 (a1)) + 2)))) _ (sg_Rg _ _ _) w) (fun u29 σ25 hq27 => ?_)
      obtain ⟨q24, rfl, r28, rfl, w⟩ := hq27
      have w := w r28
      obtain ⟨c30, w⟩ := w
      refine wk_b tt_239 2 (pc' := 179) (ls' := [(4, .inl ((sg_g σ 127 (a1)))), (3, .inl ((sg_g σ 128 (a1)))), (2, .inl ((sg_g σ 126 (a1)))), (0, .inr (.inr (.ref 88))), (1, .inl (a1))]) (st' := [.inr (.inl ((q16 + (sg_n (q24))))), .inr (.inr (.ref 88))]) (σ' := σ7) rfl ?_
      rw [show (sg_n (q24)) = q24 from by rw [sg_id r28]]
      refine wk_call tt_239 rfl rfl rfl rfl rfl tt_329 rfl (by decide) (w_stepped z σ7 ((q16 + q24)) _ c30 w) (fun u36 σ32 hq34 => ?_)
      obtain ⟨q31, rfl, r35, hF33, w⟩ := hq34
      have w := w r35 hF33
      refine wk_if tt_239 (tgt := 186) rfl rfl (sg_Rz r35) (fun (h37 : ¬ q31 = 0) => ?_) (fun (h37 : q31 = 0) => ?_)
      ·
        have w := w.1 h37
        refine wk_b tt_239 5 (pc' := 191) (ls' := [(4, .inl ((sg_g σ 127 (a1)))), (3, .inl ((sg_g σ 128 (a1)))), (2, .inl ((sg_g σ 126 (a1)))), (0, .inr (.inr (.ref 88))), (1, .inl (a1))]) (st' := [.inl (2), .inl (((sg_g σ 128 (a1)) + 1)), .inr (.inr (.ref 88))]) (σ' := σ32) rfl ?_
        refine wk_call tt_239 rfl rfl rfl rfl rfl tt_271 rfl (by decide) (w_joined z σ32 (((sg_g σ 128 (a1)) + 1)) (2) _ c14 (by decide) w) (fun u43 σ39 hq41 => ?_)
        obtain ⟨q38, rfl, r42, hF40, w⟩ := hq41
        have w := w r42 hF40
        refine wk_b tt_239 9 (pc' := 207) (ls' := [(6, .inl (0)), (5, .inl (q38)), (4, .inl ((sg_g σ 127 (a1)))), (3, .inl ((sg_g σ 128 (a1)))), (2, .inl ((sg_g σ 126 (a1)))), (0, .inr (.inr (.ref 88))), (1, .inl (a1))]) (st' := [.inl (((sg_g σ 128 (a1)) + 1)), .inr (.inr (.ref 133)), .inr (.inr (.ref 88))]) (σ' := σ39) rfl ?_
        refine wk_ia tt_239 rfl rfl c15.1 c15.2 c14 ?_
        rw [show (sg_g σ39 133 (((sg_g σ 128 (a1)) + 1))) = (sg_g σ 133 (((sg_g σ 128 (a1)) + 1))) from by rw [sg_F_ga hF40 rfl, sg_F_ga hF33 rfl, sg_F_ga hF8 rfl, sg_F_ga hF5 rfl]]
        obtain ⟨c44, w⟩ := w
        refine wk_callp tt_239 rfl rfl rfl rfl rfl tt_277 rfl (by decide) (w_lanesOf z σ39 ((sg_g σ 133 (((sg_g σ 128 (a1)) + 1)))) (sg_Rg _ _ _) c44) ?_
        have r45 := vr_lanesOf σ39  ((sg_g σ 133 (((sg_g σ 128 (a1)) + 1)))) (sg_Rg _ _ _) c44
        refine wk_b tt_239 4 (pc' := 218) (ls' := [(7, .inl ((v_lanesOf σ39 ((sg_g σ 133 (((sg_g σ 128 (a1)) + 1))))))), (6, .inl (0)), (5, .inl (q38)), (4, .inl ((sg_g σ 127 (a1)))), (3, .inl ((sg_g σ 128 (a1)))), (2, .inl ((sg_g σ 126 (a1)))), (0, .inr (.inr (.ref 88))), (1, .inl (a1))]) (st' := []) (σ' := (sg_w σ39 88 93 (0))) rfl ?_
        generalize hs47 : (sg_w σ39 88 93 (0)) = σ46
        have w := w σ46 hs47.symm
        have hF48 : sg_F [94088] σ39 σ46 := by rw [← hs47]; exact sg_F_w (sg_F_r _ _) rfl _
        refine wk_b tt_239 2 (pc' := 221) (ls' := [(8, .inl (0)), (7, .inl ((v_lanesOf σ39 ((sg_g σ 133 (((sg_g σ 128 (a1)) + 1))))))), (6, .inl (0)), (5, .inl (q38)), (4, .inl ((sg_g σ 127 (a1)))), (3, .inl ((sg_g σ 128 (a1)))), (2, .inl ((sg_g σ 126 (a1)))), (0, .inr (.inr (.ref 88))), (1, .inl (a1))]) (st' := []) (σ' := σ46) rfl ?_
        obtain ⟨I54, X56, ⟨μ55, w63⟩, w64, w65⟩ := w
        have ex67 : ∀ (σ52 : sg_S), sg_F [143, 94088] σ46 σ52 → X56 σ52 → wx z 4 239 306 [(0, .inr (.inr (.ref 88))), (5, .inl (q38))] [] σ52 (fun v σ' => v = none ∧ sg_F [119, 120, 121, 126, 127, 128, 133, 134, 139, 140, 141, 142, 143, 144, 145, 146, 148, 149, 47088, 50088, 63088, 71088, 74088, 85088, 86088, 87088, 88088, 92088, 94088, 100088] σ σ' ∧ Q σ') := by
          intro σ52 hF53 w
          have w := w65 σ52 hF53 w
          refine wk_b tt_239 3 (pc' := 310) (ls' := [(0, .inr (.inr (.ref 88))), (5, .inl (q38))]) (st' := [.inl (q38), .inr (.inr (.ref 88)), .inr (.inr (.ref 88))]) (σ' := σ52) rfl ?_
          refine wk_call tt_239 rfl rfl rfl rfl rfl tt_249 rfl (by decide) (w_gathered z σ52 (q38) _ r42 w) (fun u73 σ69 hq71 => ?_)
          obtain ⟨q68, rfl, r72, hF70, w⟩ := hq71
          have w := w r72 hF70
          refine wk_call tt_239 rfl rfl rfl rfl rfl tt_242 rfl (by decide) (w_flatLeave z σ69 (q68) _ r72 w) (fun u79 σ75 hq77 => ?_)
          obtain ⟨rfl, hF76, w⟩ := hq77
          have w := w hF76
          exact wk_rV tt_239 rfl rfl ⟨rfl, (sg_F_t (sg_F_t (sg_F_t (sg_F_t (sg_F_t (sg_F_t (sg_F_t (sg_F_t (sg_F_r [119, 120, 121, 126, 127, 128, 133, 134, 139, 140, 141, 142, 143, 144, 145, 146, 148, 149, 47088, 50088, 63088, 71088, 74088, 85088, 86088, 87088, 88088, 92088, 94088, 100088] σ) (sg_F_m (L := [119, 120, 121, 126, 127, 128, 133, 134, 139, 140, 141, 142, 143, 144, 145, 146, 148, 149, 47088, 50088, 63088, 71088, 74088, 85088, 86088, 87088, 88088, 92088, 94088, 100088]) hF5 rfl)) (sg_F_m (L := [119, 120, 121, 126, 127, 128, 133, 134, 139, 140, 141, 142, 143, 144, 145, 146, 148, 149, 47088, 50088, 63088, 71088, 74088, 85088, 86088, 87088, 88088, 92088, 94088, 100088]) hF8 rfl)) (sg_F_m (L := [119, 120, 121, 126, 127, 128, 133, 134, 139, 140, 141, 142, 143, 144, 145, 146, 148, 149, 47088, 50088, 63088, 71088, 74088, 85088, 86088, 87088, 88088, 92088, 94088, 100088]) hF33 rfl)) (sg_F_m (L := [119, 120, 121, 126, 127, 128, 133, 134, 139, 140, 141, 142, 143, 144, 145, 146, 148, 149, 47088, 50088, 63088, 71088, 74088, 85088, 86088, 87088, 88088, 92088, 94088, 100088]) hF40 rfl)) (sg_F_m (L := [119, 120, 121, 126, 127, 128, 133, 134, 139, 140, 141, 142, 143, 144, 145, 146, 148, 149, 47088, 50088, 63088, 71088, 74088, 85088, 86088, 87088, 88088, 92088, 94088, 100088]) hF48 rfl)) (sg_F_m (L := [119, 120, 121, 126, 127, 128, 133, 134, 139, 140, 141, 142, 143, 144, 145, 146, 148, 149, 47088, 50088, 63088, 71088, 74088, 85088, 86088, 87088, 88088, 92088, 94088, 100088]) hF53 rfl)) (sg_F_m (L := [119, 120, 121, 126, 127, 128, 133, 134, 139, 140, 141, 142, 143, 144, 145, 146, 148, 149, 47088, 50088, 63088, 71088, 74088, 85088, 86088, 87088, 88088, 92088, 94088, 100088]) hF70 rfl)) (sg_F_m (L := [119, 120, 121, 126, 127, 128, 133, 134, 139, 140, 141, 142, 143, 144, 145, 146, 148, 149, 47088, 50088, 63088, 71088, 74088, 85088, 86088, 87088, 88088, 92088, 94088, 100088]) hF76 rfl)), w⟩
        have lp62 : ∀ (n66 : Nat) (v49 : Int) (v50 : Int) (v51 : Int) (σ52 : sg_S), sg_R v49 → sg_R v50 → sg_R v51 → sg_F [143, 94088] σ46 σ52 → I54 n66 v49 v50 v51 σ52 → wx z 4 239 221 [(0, .inr (.inr (.ref 88))), (1, .inl (a1)), (3, .inl ((sg_g σ 128 (a1)))), (5, .inl (q38)), (6, .inl (v49)), (7, .inl (v50)), (8, .inl (v51))] [] σ52 (fun v σ' => v = none ∧ sg_F [119, 120, 121, 126, 127, 128, 133, 134, 139, 140, 141, 142, 143, 144, 145, 146, 148, 149, 47088, 50088, 63088, 71088, 74088, 85088, 86088, 87088, 88088, 92088, 94088, 100088] σ σ' ∧ Q σ') := by
          intro n66
          induction n66 using Nat.strongRecOn with
          | _ n66 ih60 =>
            intro v49 v50 v51 σ52 r57 r58 r59 hF53 w
            have w := w64 n66 v49 v50 v51 σ52 r57 r58 r59 hF53 w
            refine wk_b tt_239 4 (pc' := 228) (ls' := [(0, .inr (.inr (.ref 88))), (1, .inl (a1)), (3, .inl ((sg_g σ 128 (a1)))), (5, .inl (q38)), (6, .inl (v49)), (7, .inl (v50)), (8, .inl (v51))]) (st' := [.inl (a1), .inr (.inr (.ref 145)), .inl (v51)]) (σ' := σ52) rfl ?_
            refine wk_ia tt_239 rfl rfl c1.1 c1.2 ra1 ?_
            rw [show (sg_g σ52 145 (a1)) = (sg_g σ 145 (a1)) from by rw [sg_F_ga hF53 rfl, sg_F_ga hF48 rfl, sg_F_ga hF40 rfl, sg_F_ga hF33 rfl, sg_F_ga hF8 rfl, sg_F_ga hF5 rfl]]
            refine wk_if2 tt_239 (tgt := 306) rfl rfl r59 (sg_Rg _ _ _) (fun (h80 : (sg_g σ 145 (a1)) ≤ v51) => ?_) (fun (h80 : v51 < (sg_g σ 145 (a1))) => ?_)
            ·
              have w := w.1 h80
              exact wk_ls [(0, .inr (.inr (.ref 88))), (5, .inl (q38))] rfl ⟨rfl, rfl, trivial⟩ (ex67  σ52  (sg_F_t (sg_F_r [143, 94088] σ46) (sg_F_m (L := [143, 94088]) hF53 rfl)) w)
            ·
              have w := w.2 h80
              refine wk_b tt_239 4 (pc' := 238) (ls' := [(0, .inr (.inr (.ref 88))), (1, .inl (a1)), (3, .inl ((sg_g σ 128 (a1)))), (5, .inl (q38)), (6, .inl (v49)), (7, .inl (v50)), (8, .inl (v51))]) (st' := [.inl ((sg_g σ 128 (a1))), .inr (.inr (.ref 133)), .inr (.inr (.ref 88))]) (σ' := σ52) rfl ?_
              obtain ⟨c81, w⟩ := w
              refine wk_ia tt_239 rfl rfl c81.1 c81.2 (sg_Rg _ _ _) ?_
              rw [show (sg_g σ52 133 ((sg_g σ 128 (a1)))) = (sg_g σ 133 ((sg_g σ 128 (a1)))) from by rw [sg_F_ga hF53 rfl, sg_F_ga hF48 rfl, sg_F_ga hF40 rfl, sg_F_ga hF33 rfl, sg_F_ga hF8 rfl, sg_F_ga hF5 rfl]]
              refine wk_b tt_239 1 (pc' := 241) (ls' := [(0, .inr (.inr (.ref 88))), (1, .inl (a1)), (3, .inl ((sg_g σ 128 (a1)))), (5, .inl (q38)), (6, .inl (v49)), (7, .inl (v50)), (8, .inl (v51))]) (st' := [.inl (v51), .inl ((sg_g σ 133 ((sg_g σ 128 (a1))))), .inr (.inr (.ref 88))]) (σ' := σ52) rfl ?_
              obtain ⟨c82, w⟩ := w
              have c82 : p_rowAt σ52 ((sg_g σ 133 ((sg_g σ 128 (a1))))) (v51) := by
                rw [pF_rowAt hF53 rfl rfl, pF_rowAt hF48 rfl rfl]; exact c82
              refine wk_callp tt_239 rfl rfl rfl rfl rfl tt_322 rfl (by decide) (w_rowAt z σ52 ((sg_g σ 133 ((sg_g σ 128 (a1))))) (v51) (sg_Rg _ _ _) r59 c82) ?_
              rw [vF_rowAt hF53 rfl rfl, vF_rowAt hF48 rfl rfl]
              have r83 := vr_rowAt σ39  ((sg_g σ 133 ((sg_g σ 128 (a1))))) (v51) (sg_Rg _ _ _) r59 (by have q := c82; rw [pF_rowAt hF53 rfl rfl, pF_rowAt hF48 rfl rfl] at q; exact q)
              have jn85 : ∀ v86 : Int, v86 = (if (v_rowAt σ39 ((sg_g σ 133 ((sg_g σ 128 (a1))))) (v51)) = 0 then (0 : Int) else (1 : Int)) → sg_R v86 → wx z 4 239 252 [(0, .inr (.inr (.ref 88))), (1, .inl (a1)), (3, .inl ((sg_g σ 128 (a1)))), (5, .inl (q38)), (6, .inl (v49)), (7, .inl (v50)), (8, .inl (v51))] [.inl (v86)] σ52 (fun v σ' => v = none ∧ sg_F [119, 120, 121, 126, 127, 128, 133, 134, 139, 140, 141, 142, 143, 144, 145, 146, 148, 149, 47088, 50088, 63088, 71088, 74088, 85088, 86088, 87088, 88088, 92088, 94088, 100088] σ σ' ∧ Q σ') := by
                intro v86 e88 r87
                have w := w v86 e88 r87
                refine wk_b tt_239 3 (pc' := 257) (ls' := [(9, .inl (v86)), (0, .inr (.inr (.ref 88))), (1, .inl (a1)), (3, .inl ((sg_g σ 128 (a1)))), (5, .inl (q38)), (6, .inl (v49)), (7, .inl (v50)), (8, .inl (v51))]) (st' := [.inl (v86), .inr (.inr (.ref 88))]) (σ' := σ52) rfl ?_
                have jn90 : ∀ v91 : Int, v91 = (if v86 = 0 then v50 else v49) → sg_R v91 → wx z 4 239 267 [(0, .inr (.inr (.ref 88))), (1, .inl (a1)), (3, .inl ((sg_g σ 128 (a1)))), (5, .inl (q38)), (6, .inl (v49)), (7, .inl (v50)), (8, .inl (v51)), (9, .inl (v86))] [.inl (v91), .inr (.inr (.ref 88))] σ52 (fun v σ' => v = none ∧ sg_F [119, 120, 121, 126, 127, 128, 133, 134, 139, 140, 141, 142, 143, 144, 145, 146, 148, 149, 47088, 50088, 63088, 71088, 74088, 85088, 86088, 87088, 88088, 92088, 94088, 100088] σ σ' ∧ Q σ') := by
                  intro v91 e93 r92
                  have w := w v91 e93 r92
                  refine wk_call tt_239 rfl rfl rfl rfl rfl tt_280 rfl (by decide) (w_list z σ52 (v91) _ r92 w) (fun u99 σ95 hq97 => ?_)
                  obtain ⟨rfl, hF96, w⟩ := hq97
                  have w := w hF96
                  refine wk_b tt_239 2 (pc' := 274) (ls' := [(0, .inr (.inr (.ref 88))), (1, .inl (a1)), (3, .inl ((sg_g σ 128 (a1)))), (5, .inl (q38)), (6, .inl (v49)), (7, .inl (v50)), (8, .inl (v51)), (9, .inl (v86))]) (st' := [.inl (v86), .inl (v49)]) (σ' := σ95) rfl ?_
                  have jn101 : ∀ v102 : Int, v102 = (if v86 = 0 then (0 : Int) else (1 : Int)) → sg_R v102 → wx z 4 239 282 [(0, .inr (.inr (.ref 88))), (1, .inl (a1)), (3, .inl ((sg_g σ 128 (a1)))), (5, .inl (q38)), (7, .inl (v50)), (8, .inl (v51)), (9, .inl (v86))] [.inl (v102), .inl (v49)] σ95 (fun v σ' => v = none ∧ sg_F [119, 120, 121, 126, 127, 128, 133, 134, 139, 140, 141, 142, 143, 144, 145, 146, 148, 149, 47088, 50088, 63088, 71088, 74088, 85088, 86088, 87088, 88088, 92088, 94088, 100088] σ σ' ∧ Q σ') := by
                    intro v102 e104 r103
                    have w := w v102 e104 r103
                    obtain ⟨c105, w⟩ := w
                    refine wk_b tt_239 4 (pc' := 289) (ls' := [(6, .inl ((v49 + v102))), (0, .inr (.inr (.ref 88))), (1, .inl (a1)), (3, .inl ((sg_g σ 128 (a1)))), (5, .inl (q38)), (7, .inl (v50)), (8, .inl (v51)), (9, .inl (v86))]) (st' := [.inl (v86), .inl (v50)]) (σ' := σ95) rfl ?_
                    have jn107 : ∀ v108 : Int, v108 = (if v86 = 0 then (1 : Int) else (0 : Int)) → sg_R v108 → wx z 4 239 297 [(0, .inr (.inr (.ref 88))), (1, .inl (a1)), (3, .inl ((sg_g σ 128 (a1)))), (5, .inl (q38)), (6, .inl ((v49 + v102))), (8, .inl (v51))] [.inl (v108), .inl (v50)] σ95 (fun v σ' => v = none ∧ sg_F [119, 120, 121, 126, 127, 128, 133, 134, 139, 140, 141, 142, 143, 144, 145, 146, 148, 149, 47088, 50088, 63088, 71088, 74088, 85088, 86088, 87088, 88088, 92088, 94088, 100088] σ σ' ∧ Q σ') := by
                      intro v108 e110 r109
                      have w := w v108 e110 r109
                      obtain ⟨c111, w⟩ := w
                      obtain ⟨c112, w⟩ := w
                      refine wk_b tt_239 4 (pc' := 221) (ls' := [(8, .inl ((v51 + 1))), (7, .inl ((v50 + v108))), (0, .inr (.inr (.ref 88))), (1, .inl (a1)), (3, .inl ((sg_g σ 128 (a1)))), (5, .inl (q38)), (6, .inl ((v49 + v102)))]) (st' := []) (σ' := σ95) rfl ?_
                      obtain ⟨m113, hm113, w⟩ := w
                      exact wk_ls [(0, .inr (.inr (.ref 88))), (1, .inl (a1)), (3, .inl ((sg_g σ 128 (a1)))), (5, .inl (q38)), (6, .inl ((v49 + v102))), (7, .inl ((v50 + v108))), (8, .inl ((v51 + 1)))] rfl ⟨rfl, rfl, rfl, rfl, rfl, rfl, rfl, trivial⟩ (ih60 m113 hm113 ((v49 + v102)) ((v50 + v108)) ((v51 + 1)) σ95 c105 c111 c112 (sg_F_t (sg_F_t (sg_F_r [143, 94088] σ46) (sg_F_m (L := [143, 94088]) hF53 rfl)) (sg_F_m (L := [143, 94088]) hF96 rfl)) w)
                    refine wk_if tt_239 (tgt := 296) rfl rfl r87 (fun (h106 : v86 = 0) => ?_) (fun (h106 : ¬ v86 = 0) => ?_)
                    ·
                      clear w
                      refine wk_b tt_239 1 (pc' := 297) (ls' := [(6, .inl ((v49 + v102))), (0, .inr (.inr (.ref 88))), (1, .inl (a1)), (3, .inl ((sg_g σ 128 (a1)))), (5, .inl (q38)), (7, .inl (v50)), (8, .inl (v51)), (9, .inl (v86))]) (st' := [.inl (1), .inl (v50)]) (σ' := σ95) rfl ?_
                      exact wk_ls [(0, .inr (.inr (.ref 88))), (1, .inl (a1)), (3, .inl ((sg_g σ 128 (a1)))), (5, .inl (q38)), (6, .inl ((v49 + v102))), (8, .inl (v51))] rfl ⟨rfl, rfl, rfl, rfl, rfl, rfl, trivial⟩ (jn107 (1) (by simp only [if_pos h106]) (by decide))
                    ·
                      clear w
                      refine wk_b tt_239 2 (pc' := 297) (ls' := [(6, .inl ((v49 + v102))), (0, .inr (.inr (.ref 88))), (1, .inl (a1)), (3, .inl ((sg_g σ 128 (a1)))), (5, .inl (q38)), (7, .inl (v50)), (8, .inl (v51)), (9, .inl (v86))]) (st' := [.inl (0), .inl (v50)]) (σ' := σ95) rfl ?_
                      exact wk_ls [(0, .inr (.inr (.ref 88))), (1, .inl (a1)), (3, .inl ((sg_g σ 128 (a1)))), (5, .inl (q38)), (6, .inl ((v49 + v102))), (8, .inl (v51))] rfl ⟨rfl, rfl, rfl, rfl, rfl, rfl, trivial⟩ (jn107 (0) (by simp only [if_neg (show ¬ (v86 = 0) by omega)]) (by decide))
                  refine wk_if tt_239 (tgt := 281) rfl rfl r87 (fun (h100 : v86 = 0) => ?_) (fun (h100 : ¬ v86 = 0) => ?_)
                  ·
                    clear w
                    refine wk_b tt_239 1 (pc' := 282) (ls' := [(0, .inr (.inr (.ref 88))), (1, .inl (a1)), (3, .inl ((sg_g σ 128 (a1)))), (5, .inl (q38)), (6, .inl (v49)), (7, .inl (v50)), (8, .inl (v51)), (9, .inl (v86))]) (st' := [.inl (0), .inl (v49)]) (σ' := σ95) rfl ?_
                    exact wk_ls [(0, .inr (.inr (.ref 88))), (1, .inl (a1)), (3, .inl ((sg_g σ 128 (a1)))), (5, .inl (q38)), (7, .inl (v50)), (8, .inl (v51)), (9, .inl (v86))] rfl ⟨rfl, rfl, rfl, rfl, rfl, rfl, rfl, trivial⟩ (jn101 (0) (by simp only [if_pos h100]) (by decide))
                  ·
                    clear w
                    refine wk_b tt_239 2 (pc' := 282) (ls' := [(0, .inr (.inr (.ref 88))), (1, .inl (a1)), (3, .inl ((sg_g σ 128 (a1)))), (5, .inl (q38)), (6, .inl (v49)), (7, .inl (v50)), (8, .inl (v51)), (9, .inl (v86))]) (st' := [.inl (1), .inl (v49)]) (σ' := σ95) rfl ?_
                    exact wk_ls [(0, .inr (.inr (.ref 88))), (1, .inl (a1)), (3, .inl ((sg_g σ 128 (a1)))), (5, .inl (q38)), (7, .inl (v50)), (8, .inl (v51)), (9, .inl (v86))] rfl ⟨rfl, rfl, rfl, rfl, rfl, rfl, rfl, trivial⟩ (jn101 (1) (by simp only [if_neg (show ¬ (v86 = 0) by omega)]) (by decide))
                refine wk_if tt_239 (tgt := 265) rfl rfl r87 (fun (h89 : v86 = 0) => ?_) (fun (h89 : ¬ v86 = 0) => ?_)
                ·
                  clear w
                  refine wk_b tt_239 1 (pc' := 267) (ls' := [(9, .inl (v86)), (0, .inr (.inr (.ref 88))), (1, .inl (a1)), (3, .inl ((sg_g σ 128 (a1)))), (5, .inl (q38)), (6, .inl (v49)), (7, .inl (v50)), (8, .inl (v51))]) (st' := [.inl (v50), .inr (.inr (.ref 88))]) (σ' := σ52) rfl ?_
                  exact wk_ls [(0, .inr (.inr (.ref 88))), (1, .inl (a1)), (3, .inl ((sg_g σ 128 (a1)))), (5, .inl (q38)), (6, .inl (v49)), (7, .inl (v50)), (8, .inl (v51)), (9, .inl (v86))] rfl ⟨rfl, rfl, rfl, rfl, rfl, rfl, rfl, rfl, trivial⟩ (jn90 (v50) (by simp only [if_pos h89]) r58)
                ·
                  clear w
                  refine wk_b tt_239 2 (pc' := 267) (ls' := [(9, .inl (v86)), (0, .inr (.inr (.ref 88))), (1, .inl (a1)), (3, .inl ((sg_g σ 128 (a1)))), (5, .inl (q38)), (6, .inl (v49)), (7, .inl (v50)), (8, .inl (v51))]) (st' := [.inl (v49), .inr (.inr (.ref 88))]) (σ' := σ52) rfl ?_
                  exact wk_ls [(0, .inr (.inr (.ref 88))), (1, .inl (a1)), (3, .inl ((sg_g σ 128 (a1)))), (5, .inl (q38)), (6, .inl (v49)), (7, .inl (v50)), (8, .inl (v51)), (9, .inl (v86))] rfl ⟨rfl, rfl, rfl, rfl, rfl, rfl, rfl, rfl, trivial⟩ (jn90 (v49) (by simp only [if_neg (show ¬ (v86 = 0) by omega)]) r57)
              refine wk_if tt_239 (tgt := 251) rfl rfl r83 (fun (h84 : (v_rowAt σ39 ((sg_g σ 133 ((sg_g σ 128 (a1))))) (v51)) = 0) => ?_) (fun (h84 : ¬ (v_rowAt σ39 ((sg_g σ 133 ((sg_g σ 128 (a1))))) (v51)) = 0) => ?_)
              ·
                clear w
                refine wk_b tt_239 1 (pc' := 252) (ls' := [(0, .inr (.inr (.ref 88))), (1, .inl (a1)), (3, .inl ((sg_g σ 128 (a1)))), (5, .inl (q38)), (6, .inl (v49)), (7, .inl (v50)), (8, .inl (v51))]) (st' := [.inl (0)]) (σ' := σ52) rfl ?_
                exact wk_ls [(0, .inr (.inr (.ref 88))), (1, .inl (a1)), (3, .inl ((sg_g σ 128 (a1)))), (5, .inl (q38)), (6, .inl (v49)), (7, .inl (v50)), (8, .inl (v51))] rfl ⟨rfl, rfl, rfl, rfl, rfl, rfl, rfl, trivial⟩ (jn85 (0) (by simp only [if_pos h84]) (by decide))
              ·
                clear w
                refine wk_b tt_239 2 (pc' := 252) (ls' := [(0, .inr (.inr (.ref 88))), (1, .inl (a1)), (3, .inl ((sg_g σ 128 (a1)))), (5, .inl (q38)), (6, .inl (v49)), (7, .inl (v50)), (8, .inl (v51))]) (st' := [.inl (1)]) (σ' := σ52) rfl ?_
                exact wk_ls [(0, .inr (.inr (.ref 88))), (1, .inl (a1)), (3, .inl ((sg_g σ 128 (a1)))), (5, .inl (q38)), (6, .inl (v49)), (7, .inl (v50)), (8, .inl (v51))] rfl ⟨rfl, rfl, rfl, rfl, rfl, rfl, rfl, trivial⟩ (jn85 (1) (by simp only [if_neg (show ¬ ((v_rowAt σ39 ((sg_g σ 133 ((sg_g σ 128 (a1))))) (v51)) = 0) by omega)]) (by decide))
        exact wk_ls [(0, .inr (.inr (.ref 88))), (1, .inl (a1)), (3, .inl ((sg_g σ 128 (a1)))), (5, .inl (q38)), (6, .inl (0)), (7, .inl ((v_lanesOf σ39 ((sg_g σ 133 (((sg_g σ 128 (a1)) + 1))))))), (8, .inl (0))] rfl ⟨rfl, rfl, rfl, rfl, rfl, rfl, rfl, trivial⟩ (lp62 μ55 (0) ((v_lanesOf σ39 ((sg_g σ 133 (((sg_g σ 128 (a1)) + 1)))))) (0) σ46 (by decide) r45 (by decide) (sg_F_r _ _) w63)
      ·
        have w := w.2 h37
        exact wk_rV tt_239 rfl rfl ⟨rfl, (sg_F_t (sg_F_t (sg_F_t (sg_F_r [119, 120, 121, 126, 127, 128, 133, 134, 139, 140, 141, 142, 143, 144, 145, 146, 148, 149, 47088, 50088, 63088, 71088, 74088, 85088, 86088, 87088, 88088, 92088, 94088, 100088] σ) (sg_F_m (L := [119, 120, 121, 126, 127, 128, 133, 134, 139, 140, 141, 142, 143, 144, 145, 146, 148, 149, 47088, 50088, 63088, 71088, 74088, 85088, 86088, 87088, 88088, 92088, 94088, 100088]) hF5 rfl)) (sg_F_m (L := [119, 120, 121, 126, 127, 128, 133, 134, 139, 140, 141, 142, 143, 144, 145, 146, 148, 149, 47088, 50088, 63088, 71088, 74088, 85088, 86088, 87088, 88088, 92088, 94088, 100088]) hF8 rfl)) (sg_F_m (L := [119, 120, 121, 126, 127, 128, 133, 134, 139, 140, 141, 142, 143, 144, 145, 146, 148, 149, 47088, 50088, 63088, 71088, 74088, 85088, 86088, 87088, 88088, 92088, 94088, 100088]) hF33 rfl)), w⟩
    ·
      have w := w.2 h13
      obtain ⟨c114, w⟩ := w
      obtain ⟨c115, w⟩ := w
      refine wk_b tt_239 7 (pc' := 88) (ls' := [(4, .inl ((sg_g σ 127 (a1)))), (3, .inl ((sg_g σ 128 (a1)))), (2, .inl ((sg_g σ 126 (a1)))), (0, .inr (.inr (.ref 88))), (1, .inl (a1))]) (st' := [.inl (((200 * (sg_g σ 126 (a1))) + (sg_g σ 127 (a1)))), .inr (.inr (.ref 97))]) (σ' := σ7) rfl ?_
      obtain ⟨c116, w⟩ := w
      refine wk_ia tt_239 rfl rfl c116.1 c116.2 c115 ?_
      rw [show (sg_g σ7 97 (((200 * (sg_g σ 126 (a1))) + (sg_g σ 127 (a1))))) = (sg_g σ 97 (((200 * (sg_g σ 126 (a1))) + (sg_g σ 127 (a1))))) from by rw [sg_F_ga hF8 rfl, sg_F_ga hF5 rfl]]
      refine wk_b tt_239 2 (pc' := 92) (ls' := [(5, .inl ((sg_g σ 97 (((200 * (sg_g σ 126 (a1))) + (sg_g σ 127 (a1))))))), (4, .inl ((sg_g σ 127 (a1)))), (3, .inl ((sg_g σ 128 (a1)))), (2, .inl ((sg_g σ 126 (a1)))), (0, .inr (.inr (.ref 88))), (1, .inl (a1))]) (st' := [.inr (.inr (.ref 88))]) (σ' := σ7) rfl ?_
      refine wk_call tt_239 rfl rfl rfl rfl rfl tt_218 rfl (by decide) (w_clearInside z σ7  _  w) (fun u122 σ118 hq120 => ?_)
      obtain ⟨rfl, hF119, w⟩ := hq120
      have w := w hF119
      refine wk_b tt_239 2 (pc' := 98) (ls' := [(5, .inl ((sg_g σ 97 (((200 * (sg_g σ 126 (a1))) + (sg_g σ 127 (a1))))))), (4, .inl ((sg_g σ 127 (a1)))), (3, .inl ((sg_g σ 128 (a1)))), (2, .inl ((sg_g σ 126 (a1)))), (0, .inr (.inr (.ref 88))), (1, .inl (a1))]) (st' := [.inl ((sg_g σ 97 (((200 * (sg_g σ 126 (a1))) + (sg_g σ 127 (a1)))))), .inr (.inr (.ref 88))]) (σ' := σ118) rfl ?_
      refine wk_call tt_239 rfl rfl rfl rfl rfl tt_290 rfl (by decide) (w_markInside z σ118 ((sg_g σ 97 (((200 * (sg_g σ 126 (a1))) + (sg_g σ 127 (a1)))))) _ (sg_Rg _ _ _) w) (fun u128 σ124 hq126 => ?_)
      obtain ⟨rfl, hF125, w⟩ := hq126
      have w := w hF125
      refine wk_b tt_239 2 (pc' := 103) (ls' := [(5, .inl ((sg_g σ 97 (((200 * (sg_g σ 126 (a1))) + (sg_g σ 127 (a1))))))), (4, .inl ((sg_g σ 127 (a1)))), (3, .inl ((sg_g σ 128 (a1)))), (2, .inl ((sg_g σ 126 (a1)))), (0, .inr (.inr (.ref 88))), (1, .inl (a1))]) (st' := [.inl ((-1)), .inr (.inr (.ref 88))]) (σ' := σ124) rfl ?_
      refine wk_call tt_239 rfl rfl rfl rfl rfl tt_248 rfl (by decide) (w_gatherOutside z σ124 ((-1)) _ (by decide) w) (fun u134 σ130 hq132 => ?_)
      obtain ⟨rfl, hF131, w⟩ := hq132
      have w := w hF131
      refine wk_b tt_239 4 (pc' := 112) (ls' := [(5, .inl ((sg_g σ 97 (((200 * (sg_g σ 126 (a1))) + (sg_g σ 127 (a1))))))), (4, .inl ((sg_g σ 127 (a1)))), (3, .inl ((sg_g σ 128 (a1)))), (2, .inl ((sg_g σ 126 (a1)))), (0, .inr (.inr (.ref 88))), (1, .inl (a1))]) (st' := [.inl ((sg_g σ 128 (a1))), .inr (.inr (.ref 133)), .inr (.inr (.ref 88))]) (σ' := σ130) rfl ?_
      obtain ⟨c135, w⟩ := w
      refine wk_ia tt_239 rfl rfl c135.1 c135.2 (sg_Rg _ _ _) ?_
      rw [show (sg_g σ130 133 ((sg_g σ 128 (a1)))) = (sg_g σ 133 ((sg_g σ 128 (a1)))) from by rw [sg_F_ga hF131 rfl, sg_F_ga hF125 rfl, sg_F_ga hF119 rfl, sg_F_ga hF8 rfl, sg_F_ga hF5 rfl]]
      refine wk_b tt_239 2 (pc' := 116) (ls' := [(5, .inl ((sg_g σ 97 (((200 * (sg_g σ 126 (a1))) + (sg_g σ 127 (a1))))))), (4, .inl ((sg_g σ 127 (a1)))), (3, .inl ((sg_g σ 128 (a1)))), (2, .inl ((sg_g σ 126 (a1)))), (0, .inr (.inr (.ref 88))), (1, .inl (a1))]) (st' := [.inl (1), .inl ((sg_g σ 127 (a1))), .inl ((sg_g σ 133 ((sg_g σ 128 (a1))))), .inr (.inr (.ref 88))]) (σ' := σ130) rfl ?_
      have jn137 : ∀ v138 : Int, v138 = (if ¬ (sg_g σ 127 (a1)) = 1 then (0 : Int) else (1 : Int)) → sg_R v138 → wx z 4 239 124 [(0, .inr (.inr (.ref 88))), (5, .inl ((sg_g σ 97 (((200 * (sg_g σ 126 (a1))) + (sg_g σ 127 (a1)))))))] [.inl (v138), .inl ((sg_g σ 133 ((sg_g σ 128 (a1))))), .inr (.inr (.ref 88))] σ130 (fun v σ' => v = none ∧ sg_F [119, 120, 121, 126, 127, 128, 133, 134, 139, 140, 141, 142, 143, 144, 145, 146, 148, 149, 47088, 50088, 63088, 71088, 74088, 85088, 86088, 87088, 88088, 92088, 94088, 100088] σ σ' ∧ Q σ') := by
        intro v138 e140 r139
        have w := w v138 e140 r139
        refine wk_call tt_239 rfl rfl rfl rfl rfl tt_282 rfl (by decide) (w_listWhere z σ130 ((sg_g σ 133 ((sg_g σ 128 (a1))))) (v138) _ (sg_Rg _ _ _) r139 w) (fun u146 σ142 hq144 => ?_)
        obtain ⟨rfl, hF143, w⟩ := hq144
        have w := w hF143
        refine wk_b tt_239 4 (pc' := 134) (ls' := [(6, .inl ((sg_g σ142 88 93))), (0, .inr (.inr (.ref 88))), (5, .inl ((sg_g σ 97 (((200 * (sg_g σ 126 (a1))) + (sg_g σ 127 (a1)))))))]) (st' := [.inr (.inr (.ref 88))]) (σ' := σ142) rfl ?_
        refine wk_call tt_239 rfl rfl rfl rfl rfl tt_217 rfl (by decide) (w_carried z σ142  _  w) (fun u152 σ148 hq150 => ?_)
        obtain ⟨q147, rfl, r151, hF149, w⟩ := hq150
        have w := w r151 hF149
        refine wk_if tt_239 (tgt := 148) rfl rfl (sg_Rz r151) (fun (h153 : q147 = 0) => ?_) (fun (h153 : ¬ q147 = 0) => ?_)
        ·
          have w := w.1 h153
          refine wk_b tt_239 1 (pc' := 316) (ls' := [(6, .inl ((sg_g σ142 88 93))), (0, .inr (.inr (.ref 88))), (5, .inl ((sg_g σ 97 (((200 * (sg_g σ 126 (a1))) + (sg_g σ 127 (a1)))))))]) (st' := []) (σ' := σ148) rfl ?_
          exact wk_rV tt_239 rfl rfl ⟨rfl, (sg_F_t (sg_F_t (sg_F_t (sg_F_t (sg_F_t (sg_F_t (sg_F_t (sg_F_r [119, 120, 121, 126, 127, 128, 133, 134, 139, 140, 141, 142, 143, 144, 145, 146, 148, 149, 47088, 50088, 63088, 71088, 74088, 85088, 86088, 87088, 88088, 92088, 94088, 100088] σ) (sg_F_m (L := [119, 120, 121, 126, 127, 128, 133, 134, 139, 140, 141, 142, 143, 144, 145, 146, 148, 149, 47088, 50088, 63088, 71088, 74088, 85088, 86088, 87088, 88088, 92088, 94088, 100088]) hF5 rfl)) (sg_F_m (L := [119, 120, 121, 126, 127, 128, 133, 134, 139, 140, 141, 142, 143, 144, 145, 146, 148, 149, 47088, 50088, 63088, 71088, 74088, 85088, 86088, 87088, 88088, 92088, 94088, 100088]) hF8 rfl)) (sg_F_m (L := [119, 120, 121, 126, 127, 128, 133, 134, 139, 140, 141, 142, 143, 144, 145, 146, 148, 149, 47088, 50088, 63088, 71088, 74088, 85088, 86088, 87088, 88088, 92088, 94088, 100088]) hF119 rfl)) (sg_F_m (L := [119, 120, 121, 126, 127, 128, 133, 134, 139, 140, 141, 142, 143, 144, 145, 146, 148, 149, 47088, 50088, 63088, 71088, 74088, 85088, 86088, 87088, 88088, 92088, 94088, 100088]) hF125 rfl)) (sg_F_m (L := [119, 120, 121, 126, 127, 128, 133, 134, 139, 140, 141, 142, 143, 144, 145, 146, 148, 149, 47088, 50088, 63088, 71088, 74088, 85088, 86088, 87088, 88088, 92088, 94088, 100088]) hF131 rfl)) (sg_F_m (L := [119, 120, 121, 126, 127, 128, 133, 134, 139, 140, 141, 142, 143, 144, 145, 146, 148, 149, 47088, 50088, 63088, 71088, 74088, 85088, 86088, 87088, 88088, 92088, 94088, 100088]) hF143 rfl)) (sg_F_m (L := [119, 120, 121, 126, 127, 128, 133, 134, 139, 140, 141, 142, 143, 144, 145, 146, 148, 149, 47088, 50088, 63088, 71088, 74088, 85088, 86088, 87088, 88088, 92088, 94088, 100088]) hF149 rfl)), w⟩
        ·
          have w := w.2 h153
          refine wk_b tt_239 3 (pc' := 145) (ls' := [(6, .inl ((sg_g σ142 88 93))), (0, .inr (.inr (.ref 88))), (5, .inl ((sg_g σ 97 (((200 * (sg_g σ 126 (a1))) + (sg_g σ 127 (a1)))))))]) (st' := [.inl ((sg_g σ142 88 93)), .inl ((sg_g σ 97 (((200 * (sg_g σ 126 (a1))) + (sg_g σ 127 (a1)))))), .inr (.inr (.ref 88))]) (σ' := σ148) rfl ?_
          refine wk_call tt_239 rfl rfl rfl rfl rfl tt_232 rfl (by decide) (w_flatBegin z σ148 ((sg_g σ 97 (((200 * (sg_g σ 126 (a1))) + (sg_g σ 127 (a1)))))) ((sg_g σ142 88 93)) _ (sg_Rg _ _ _) (sg_Rg _ _ _) w) (fun u159 σ155 hq157 => ?_)
          obtain ⟨rfl, hF156, w⟩ := hq157
          have w := w hF156
          refine wk_b tt_239 1 (pc' := 316) (ls' := [(6, .inl ((sg_g σ142 88 93))), (0, .inr (.inr (.ref 88))), (5, .inl ((sg_g σ 97 (((200 * (sg_g σ 126 (a1))) + (sg_g σ 127 (a1)))))))]) (st' := []) (σ' := σ155) rfl ?_
          exact wk_rV tt_239 rfl rfl ⟨rfl, (sg_F_t (sg_F_t (sg_F_t (sg_F_t (sg_F_t (sg_F_t (sg_F_t (sg_F_t (sg_F_r [119, 120, 121, 126, 127, 128, 133, 134, 139, 140, 141, 142, 143, 144, 145, 146, 148, 149, 47088, 50088, 63088, 71088, 74088, 85088, 86088, 87088, 88088, 92088, 94088, 100088] σ) (sg_F_m (L := [119, 120, 121, 126, 127, 128, 133, 134, 139, 140, 141, 142, 143, 144, 145, 146, 148, 149, 47088, 50088, 63088, 71088, 74088, 85088, 86088, 87088, 88088, 92088, 94088, 100088]) hF5 rfl)) (sg_F_m (L := [119, 120, 121, 126, 127, 128, 133, 134, 139, 140, 141, 142, 143, 144, 145, 146, 148, 149, 47088, 50088, 63088, 71088, 74088, 85088, 86088, 87088, 88088, 92088, 94088, 100088]) hF8 rfl)) (sg_F_m (L := [119, 120, 121, 126, 127, 128, 133, 134, 139, 140, 141, 142, 143, 144, 145, 146, 148, 149, 47088, 50088, 63088, 71088, 74088, 85088, 86088, 87088, 88088, 92088, 94088, 100088]) hF119 rfl)) (sg_F_m (L := [119, 120, 121, 126, 127, 128, 133, 134, 139, 140, 141, 142, 143, 144, 145, 146, 148, 149, 47088, 50088, 63088, 71088, 74088, 85088, 86088, 87088, 88088, 92088, 94088, 100088]) hF125 rfl)) (sg_F_m (L := [119, 120, 121, 126, 127, 128, 133, 134, 139, 140, 141, 142, 143, 144, 145, 146, 148, 149, 47088, 50088, 63088, 71088, 74088, 85088, 86088, 87088, 88088, 92088, 94088, 100088]) hF131 rfl)) (sg_F_m (L := [119, 120, 121, 126, 127, 128, 133, 134, 139, 140, 141, 142, 143, 144, 145, 146, 148, 149, 47088, 50088, 63088, 71088, 74088, 85088, 86088, 87088, 88088, 92088, 94088, 100088]) hF143 rfl)) (sg_F_m (L := [119, 120, 121, 126, 127, 128, 133, 134, 139, 140, 141, 142, 143, 144, 145, 146, 148, 149, 47088, 50088, 63088, 71088, 74088, 85088, 86088, 87088, 88088, 92088, 94088, 100088]) hF149 rfl)) (sg_F_m (L := [119, 120, 121, 126, 127, 128, 133, 134, 139, 140, 141, 142, 143, 144, 145, 146, 148, 149, 47088, 50088, 63088, 71088, 74088, 85088, 86088, 87088, 88088, 92088, 94088, 100088]) hF156 rfl)), w⟩
      refine wk_if2 tt_239 (tgt := 123) rfl rfl (sg_Rg _ _ _) (by decide) (fun (h136 : ¬ (sg_g σ 127 (a1)) = 1) => ?_) (fun (h136 : (sg_g σ 127 (a1)) = 1) => ?_)
      ·
        clear w
        refine wk_b tt_239 1 (pc' := 124) (ls' := [(5, .inl ((sg_g σ 97 (((200 * (sg_g σ 126 (a1))) + (sg_g σ 127 (a1))))))), (4, .inl ((sg_g σ 127 (a1)))), (3, .inl ((sg_g σ 128 (a1)))), (2, .inl ((sg_g σ 126 (a1)))), (0, .inr (.inr (.ref 88))), (1, .inl (a1))]) (st' := [.inl (0), .inl ((sg_g σ 133 ((sg_g σ 128 (a1))))), .inr (.inr (.ref 88))]) (σ' := σ130) rfl ?_
        exact wk_ls [(0, .inr (.inr (.ref 88))), (5, .inl ((sg_g σ 97 (((200 * (sg_g σ 126 (a1))) + (sg_g σ 127 (a1)))))))] rfl ⟨rfl, rfl, trivial⟩ (jn137 (0) (by simp only [if_pos h136]) (by decide))
      ·
        clear w
        refine wk_b tt_239 2 (pc' := 124) (ls' := [(5, .inl ((sg_g σ 97 (((200 * (sg_g σ 126 (a1))) + (sg_g σ 127 (a1))))))), (4, .inl ((sg_g σ 127 (a1)))), (3, .inl ((sg_g σ 128 (a1)))), (2, .inl ((sg_g σ 126 (a1)))), (0, .inr (.inr (.ref 88))), (1, .inl (a1))]) (st' := [.inl (1), .inl ((sg_g σ 133 ((sg_g σ 128 (a1))))), .inr (.inr (.ref 88))]) (σ' := σ130) rfl ?_
        exact wk_ls [(0, .inr (.inr (.ref 88))), (5, .inl ((sg_g σ 97 (((200 * (sg_g σ 126 (a1))) + (sg_g σ 127 (a1)))))))] rfl ⟨rfl, rfl, trivial⟩ (jn137 (1) (by simp only [if_neg (show ¬ (¬ (sg_g σ 127 (a1)) = 1) by omega)]) (by decide))
  ·
    have w := w.2 h12
    obtain ⟨c160, w⟩ := w
    refine wk_b tt_239 6 (pc' := 57) (ls' := [(4, .inl ((sg_g σ 127 (a1)))), (3, .inl ((sg_g σ 128 (a1)))), (2, .inl ((sg_g σ 126 (a1)))), (0, .inr (.inr (.ref 88))), (1, .inl (a1))]) (st' := [.inl ((200 * (sg_g σ 126 (a1)))), .inr (.inr (.ref 97)), .inr (.inr (.ref 88))]) (σ' := σ7) rfl ?_
    obtain ⟨c161, w⟩ := w
    refine wk_ia tt_239 rfl rfl c161.1 c161.2 c160 ?_
    rw [show (sg_g σ7 97 ((200 * (sg_g σ 126 (a1))))) = (sg_g σ 97 ((200 * (sg_g σ 126 (a1))))) from by rw [sg_F_ga hF8 rfl, sg_F_ga hF5 rfl]]
    refine wk_b tt_239 3 (pc' := 63) (ls' := [(4, .inl ((sg_g σ 127 (a1)))), (3, .inl ((sg_g σ 128 (a1)))), (2, .inl ((sg_g σ 126 (a1)))), (0, .inr (.inr (.ref 88))), (1, .inl (a1))]) (st' := [.inl (a1), .inr (.inr (.ref 145)), .inl ((sg_g σ 97 ((200 * (sg_g σ 126 (a1)))))), .inr (.inr (.ref 88))]) (σ' := σ7) rfl ?_
    refine wk_ia tt_239 rfl rfl c1.1 c1.2 ra1 ?_
    rw [show (sg_g σ7 145 (a1)) = (sg_g σ 145 (a1)) from by rw [sg_F_ga hF8 rfl, sg_F_ga hF5 rfl]]
    refine wk_call tt_239 rfl rfl rfl rfl rfl tt_232 rfl (by decide) (w_flatBegin z σ7 ((sg_g σ 97 ((200 * (sg_g σ 126 (a1)))))) ((sg_g σ 145 (a1))) _ (sg_Rg _ _ _) (sg_Rg _ _ _) w) (fun u167 σ163 hq165 => ?_)
    obtain ⟨rfl, hF164, w⟩ := hq165
    have w := w hF164
    refine wk_b tt_239 1 (pc' := 316) (ls' := [(4, .inl ((sg_g σ 127 (a1)))), (3, .inl ((sg_g σ 128 (a1)))), (2, .inl ((sg_g σ 126 (a1)))), (0, .inr (.inr (.ref 88))), (1, .inl (a1))]) (st' := []) (σ' := σ163) rfl ?_
    exact wk_rV tt_239 rfl rfl ⟨rfl, (sg_F_t (sg_F_t (sg_F_t (sg_F_r [119, 120, 121, 126, 127, 128, 133, 134, 139, 140, 141, 142, 143, 144, 145, 146, 148, 149, 47088, 50088, 63088, 71088, 74088, 85088, 86088, 87088, 88088, 92088, 94088, 100088] σ) (sg_F_m (L := [119, 120, 121, 126, 127, 128, 133, 134, 139, 140, 141, 142, 143, 144, 145, 146, 148, 149, 47088, 50088, 63088, 71088, 74088, 85088, 86088, 87088, 88088, 92088, 94088, 100088]) hF5 rfl)) (sg_F_m (L := [119, 120, 121, 126, 127, 128, 133, 134, 139, 140, 141, 142, 143, 144, 145, 146, 148, 149, 47088, 50088, 63088, 71088, 74088, 85088, 86088, 87088, 88088, 92088, 94088, 100088]) hF8 rfl)) (sg_F_m (L := [119, 120, 121, 126, 127, 128, 133, 134, 139, 140, 141, 142, 143, 144, 145, 146, 148, 149, 47088, 50088, 63088, 71088, 74088, 85088, 86088, 87088, 88088, 92088, 94088, 100088]) hF164 rfl)), w⟩
-- NestedVectorsModel.hasTest
def v_hasTest (σ : sg_S) (a1 : Int) : Int := (if ¬ (sg_g σ 96 (a1)) = (2 + (sg_g σ 98 (a1))) then (0 : Int) else (1 : Int))
def p_hasTest (σ : sg_S) (a1 : Int) : Prop := (0 ≤ a1 ∧ a1 < 210) ∧ sg_R (2 + (sg_g σ 98 (a1))) ∧ ((¬ (sg_g σ 96 (a1)) = (2 + (sg_g σ 98 (a1))) → True) ∧ ((sg_g σ 96 (a1)) = (2 + (sg_g σ 98 (a1))) → True))
theorem vz_hasTest {σ : sg_S} {a1 : Int} : v_hasTest σ a1 = 0 ∨ v_hasTest σ a1 = 1 := by
  unfold v_hasTest
  by_cases h : ¬ (sg_g σ 96 (a1)) = (2 + (sg_g σ 98 (a1)))
  · rw [if_pos h]
    exact Or.inl rfl
  · rw [if_neg h]
    exact Or.inr rfl
set_option maxHeartbeats 4000000 in
set_option maxRecDepth 8000 in
theorem w_hasTest (z : Value) (σ : sg_S) (a1 : Int) (ra1 : sg_R a1) (w : p_hasTest σ a1) : wx z 0 257 0 [(0, .inr (.inr (.ref 88))), (1, .inl (a1))] [] σ (fun v σ' => v = some (.inl (v_hasTest σ a1)) ∧ σ' = σ) := by
  unfold p_hasTest at w
  refine wk_b tt_257 3 (pc' := 5) (ls' := [(0, .inr (.inr (.ref 88))), (1, .inl (a1))]) (st' := [.inl (a1), .inr (.inr (.ref 96))]) (σ' := σ) rfl ?_
  obtain ⟨c1, w⟩ := w
  refine wk_ia tt_257 rfl rfl c1.1 c1.2 ra1 ?_
  refine wk_b tt_257 4 (pc' := 12) (ls' := [(0, .inr (.inr (.ref 88))), (1, .inl (a1))]) (st' := [.inl (a1), .inr (.inr (.ref 98)), .inl (2), .inl ((sg_g σ 96 (a1)))]) (σ' := σ) rfl ?_
  refine wk_ia tt_257 rfl rfl c1.1 c1.2 ra1 ?_
  obtain ⟨c2, w⟩ := w
  refine wk_b tt_257 1 (pc' := 14) (ls' := [(0, .inr (.inr (.ref 88))), (1, .inl (a1))]) (st' := [.inl ((2 + (sg_g σ 98 (a1)))), .inl ((sg_g σ 96 (a1)))]) (σ' := σ) rfl ?_
  refine wk_if2 tt_257 (tgt := 21) rfl rfl (sg_Rg _ _ _) c2 (fun (h3 : ¬ (sg_g σ 96 (a1)) = (2 + (sg_g σ 98 (a1)))) => ?_) (fun (h3 : (sg_g σ 96 (a1)) = (2 + (sg_g σ 98 (a1)))) => ?_)
  ·
    have w := w.1 h3
    refine wk_b tt_257 1 (pc' := 22) (ls' := [(0, .inr (.inr (.ref 88))), (1, .inl (a1))]) (st' := [.inl (0)]) (σ' := σ) rfl ?_
    exact wk_rZ tt_257 rfl rfl (by decide) ⟨by rw [v_hasTest, if_pos h3], rfl⟩
  ·
    have w := w.2 h3
    refine wk_b tt_257 2 (pc' := 22) (ls' := [(0, .inr (.inr (.ref 88))), (1, .inl (a1))]) (st' := [.inl (1)]) (σ' := σ) rfl ?_
    exact wk_rZ tt_257 rfl rfl (by decide) ⟨by rw [v_hasTest, if_neg (show ¬ (¬ (sg_g σ 96 (a1)) = (2 + (sg_g σ 98 (a1)))) by omega)], rfl⟩
theorem vF_hasTest {L : List Nat} {σ σ' : sg_S} {a1 : Int} (hF : sg_F L σ σ') (h0 : sg_ca L 96 = true) (h1 : sg_ca L 98 = true) : v_hasTest σ' a1 = v_hasTest σ a1 := by
  unfold v_hasTest
  simp only [sg_F_ga (k := _) hF h0, sg_F_gal (k := _) hF h0, sg_F_ga (k := _) hF h1, sg_F_gal (k := _) hF h1]
theorem pF_hasTest {L : List Nat} {σ σ' : sg_S} {a1 : Int} (hF : sg_F L σ σ') (h0 : sg_ca L 96 = true) (h1 : sg_ca L 98 = true) : p_hasTest σ' a1 = p_hasTest σ a1 := by
  unfold p_hasTest
  simp only [sg_F_ga (k := _) hF h0, sg_F_gal (k := _) hF h0, sg_F_ga (k := _) hF h1, sg_F_gal (k := _) hF h1]
-- NestedVectorsModel.ofGen
def v_ofGen  (a0 : Int) (a1 : Int) : Int := ((210 + (4 * a0)) + a1)
def p_ofGen  (a0 : Int) (a1 : Int) : Prop := sg_R (4 * a0) ∧ sg_R (210 + (4 * a0)) ∧ sg_R ((210 + (4 * a0)) + a1) ∧ True
set_option maxHeartbeats 4000000 in
set_option maxRecDepth 8000 in
theorem w_ofGen (z : Value) (σ : sg_S) (a0 : Int) (a1 : Int) (ra0 : sg_R a0) (ra1 : sg_R a1) (w : p_ofGen a0 a1) : wx z 0 297 0 [(0, .inl (a0)), (1, .inl (a1))] [] σ (fun v σ' => v = some (.inl (v_ofGen a0 a1)) ∧ σ' = σ) := by
  unfold p_ofGen at w
  obtain ⟨c1, w⟩ := w
  obtain ⟨c2, w⟩ := w
  obtain ⟨c3, w⟩ := w
  refine wk_b tt_297 7 (pc' := 9) (ls' := [(0, .inl (a0)), (1, .inl (a1))]) (st' := [.inl (((210 + (4 * a0)) + a1))]) (σ' := σ) rfl ?_
  exact wk_rI tt_297 rfl rfl ⟨by rw [v_ofGen], rfl⟩
theorem vr_ofGen  (a0 : Int) (a1 : Int) (ra0 : sg_R a0) (ra1 : sg_R a1) (w : p_ofGen a0 a1) : sg_R (v_ofGen a0 a1) := by
  unfold v_ofGen
  unfold p_ofGen at w
  first | exact w.1 | exact w.2.1 | exact w.2.2.1 | exact sg_Rg _ _ _ | exact sg_Rgl _ _ _ | exact sg_Rr _ | exact sg_RLr _ | assumption | omega | (constructor <;> omega)
-- NestedVectorsModel.flatEach
def V_flatEach (σ : sg_S) (a1 : Int) (Q : sg_S → Prop) : Prop := (0 ≤ a1 ∧ a1 < 4000) ∧ (0 ≤ (sg_g σ 126 (a1)) ∧ (sg_g σ 126 (a1)) < 210) ∧ sg_R ((sg_g σ 127 (a1)) + 1) ∧ ∀ σ4, σ4 = (sg_w σ 127 (a1) (((sg_g σ 127 (a1)) + 1))) → (((sg_g σ 98 ((sg_g σ 126 (a1)))) ≤ (sg_g σ 127 (a1)) → sg_R (200 * (sg_g σ 126 (a1))) ∧ (0 ≤ (200 * (sg_g σ 126 (a1))) ∧ (200 * (sg_g σ 126 (a1))) < 42000) ∧ sg_R ((200 * (sg_g σ 126 (a1))) + (sg_g σ 96 ((sg_g σ 126 (a1))))) ∧ sg_R (((200 * (sg_g σ 126 (a1))) + (sg_g σ 96 ((sg_g σ 126 (a1))))) - 1) ∧ (0 ≤ (((200 * (sg_g σ 126 (a1))) + (sg_g σ 96 ((sg_g σ 126 (a1))))) - 1) ∧ (((200 * (sg_g σ 126 (a1))) + (sg_g σ 96 ((sg_g σ 126 (a1))))) - 1) < 42000) ∧ ((¬ (sg_g σ 127 (a1)) = (sg_g σ 98 ((sg_g σ 126 (a1)))) → sg_R ((sg_g σ 98 ((sg_g σ 126 (a1)))) + 1) ∧ ((¬ (sg_g σ 127 (a1)) = ((sg_g σ 98 ((sg_g σ 126 (a1)))) + 1) → V_restore σ4 ((sg_g σ 146 (a1))) (fun σ17 => sg_F [134, 100088] σ4 σ17 → p_hasTest σ ((sg_g σ 126 (a1))) ∧ (((v_hasTest σ ((sg_g σ 126 (a1)))) = 0 → (0 ≤ (sg_g σ 128 (a1)) ∧ (sg_g σ 128 (a1)) < 12000) ∧ sg_R (4 * (sg_g σ 133 ((sg_g σ 128 (a1))))) ∧ (0 ≤ (4 * (sg_g σ 133 ((sg_g σ 128 (a1))))) ∧ (4 * (sg_g σ 133 ((sg_g σ 128 (a1))))) < 120000) ∧ True) ∧ (¬ (v_hasTest σ ((sg_g σ 126 (a1)))) = 0 → True)) ∧ ∀ v25 : Int, v25 = (if (v_hasTest σ ((sg_g σ 126 (a1)))) = 0 then (sg_g σ 140 ((4 * (sg_g σ 133 ((sg_g σ 128 (a1))))))) else (sg_g σ 147 (a1))) → sg_R v25 → sg_R ((sg_g σ 88 70) - 1) ∧ (0 ≤ ((sg_g σ 88 70) - 1) ∧ ((sg_g σ 88 70) - 1) < 12000) ∧ V_outer σ17 (v25) ((sg_g σ 145 (a1))) ((sg_g σ 133 (((sg_g σ 88 70) - 1)))) (fun q30 σ31 => sg_R q30 → sg_F [139, 140, 141, 88088] σ17 σ31 → V_flatLeave σ31 (q30) (fun σ37 => sg_F [133, 63088, 71088] σ31 σ37 → Q σ37)))) ∧ ((sg_g σ 127 (a1)) = ((sg_g σ 98 ((sg_g σ 126 (a1)))) + 1) → sg_R ((sg_g σ 88 70) - 1) ∧ ∀ σ46, σ46 = (sg_w σ4 88 70 (((sg_g σ 88 70) - 1))) → (0 ≤ ((sg_g σ 88 70) - 1) ∧ ((sg_g σ 88 70) - 1) < 12000) ∧ V_clearInside σ46  (fun σ51 => sg_F [120, 47088] σ46 σ51 → V_markInside σ51 ((sg_g σ 97 ((200 * (sg_g σ 126 (a1)))))) (fun σ57 => sg_F [120, 121, 50088] σ51 σ57 → V_gatherOutside σ57 ((-1)) (fun σ63 => sg_F [119, 47088] σ57 σ63 → V_listWhere σ63 ((sg_g σ 133 (((sg_g σ 88 70) - 1)))) (1) (fun σ69 => sg_F [143, 94088] σ63 σ69 → V_carried σ69  (fun q74 σ75 => (q74 = 0 ∨ q74 = 1) → sg_F [134, 139, 140, 141, 142, 144, 148, 149, 74088, 85088, 86088, 88088, 92088, 100088] σ69 σ75 → ((q74 = 0 → Q σ75) ∧ (¬ q74 = 0 → V_stepped σ75 ((sg_g σ 145 (a1))) (fun q81 σ82 => (q81 = 0 ∨ q81 = 1) → sg_F [74088, 85088, 86088] σ75 σ82 → ((¬ q81 = 0 → ∀ σ88, σ88 = (sg_w σ82 147 (a1) ((sg_g σ75 88 91))) → (∃ (I95 : Nat → Int → Int → sg_S → Prop) (X97 : sg_S → Prop), (∃ n, I95 n (0) (0) σ88) ∧ (∀ (n106 : Nat) (v91 : Int) (v92 : Int) (σ93 : sg_S), sg_R v91 → sg_R v92 → sg_F [142, 92088] σ88 σ93 → I95 n106 v91 v92 σ93 → (((sg_g σ 145 (a1)) ≤ v92 → X97 σ93) ∧ (v92 < (sg_g σ 145 (a1)) → (∃ (I124 : Nat → Int → Int → Int → Prop) (X126 : Int → Int → Prop), (∃ n, I124 n (v91) (0) (0)) ∧ (∀ (n136 : Nat) (v119 : Int) (v120 : Int) (v121 : Int), sg_R v119 → sg_R v120 → sg_R v121 → I124 n136 v119 v120 v121 → (0 ≤ (sg_g σ 128 (a1)) ∧ (sg_g σ 128 (a1)) < 12000) ∧ p_rowAt σ93 ((sg_g σ 133 ((sg_g σ 128 (a1))))) (v92) ∧ (((v_rowAt σ93 ((sg_g σ 133 ((sg_g σ 128 (a1))))) (v92)) ≤ v121 → X126 (v119) (v120)) ∧ (v121 < (v_rowAt σ93 ((sg_g σ 133 ((sg_g σ 128 (a1))))) (v92)) → p_rowAt σ93 ((sg_g σ 133 (((sg_g σ 88 70) - 1)))) (v119) ∧ ∀ v156 : Int, v156 = (if (v_rowAt σ93 ((sg_g σ 133 (((sg_g σ 88 70) - 1)))) (v119)) = 0 then (0 : Int) else (1 : Int)) → sg_R v156 → sg_R (v120 + v156) ∧ sg_R (v119 + 1) ∧ sg_R (v121 + 1) ∧ (∃ m, m < n136 ∧ I124 m ((v119 + 1)) ((v120 + v156)) ((v121 + 1)))))) ∧ (∀ (v119 : Int) (v120 : Int), sg_R v119 → sg_R v120 → X126 v119 v120 → (0 ≤ (sg_g σ93 88 91) ∧ (sg_g σ93 88 91) < 60000) ∧ ∀ σ139, σ139 = (sg_w σ93 142 ((sg_g σ93 88 91)) (v120)) → sg_R ((sg_g σ93 88 91) + 1) ∧ ∀ σ143, σ143 = (sg_w σ139 88 91 (((sg_g σ93 88 91) + 1))) → sg_R (v92 + 1) ∧ (∃ m, m < n106 ∧ I95 m (v119) ((v92 + 1)) σ143)))))) ∧ (∀ (σ93 : sg_S), sg_F [142, 92088] σ88 σ93 → X97 σ93 → sg_R ((sg_g σ 98 ((sg_g σ 126 (a1)))) + 2) ∧ ∀ σ109, σ109 = (sg_w σ93 127 (a1) (((sg_g σ 98 ((sg_g σ 126 (a1)))) + 2))) → V_flatBegin σ109 ((sg_g σ 97 ((200 * (sg_g σ 126 (a1)))))) ((sg_g σ69 88 93)) (fun σ113 => sg_F [126, 127, 128, 145, 146, 63088, 74088, 85088, 86088, 87088] σ109 σ113 → Q σ113)))) ∧ (q81 = 0 → Q σ82))))))))))))) ∧ ((sg_g σ 127 (a1)) = (sg_g σ 98 ((sg_g σ 126 (a1)))) → (∃ (I166 : Nat → Int → sg_S → Prop) (X168 : sg_S → Prop), (∃ n, I166 n (0) σ4) ∧ (∀ (n176 : Nat) (v163 : Int) (σ164 : sg_S), sg_R v163 → sg_F [74088] σ4 σ164 → I166 n176 v163 σ164 → (((sg_g σ 145 (a1)) ≤ v163 → X168 σ164) ∧ (v163 < (sg_g σ 145 (a1)) → (∃ (I323 : Nat → Int → sg_S → Prop) (X325 : sg_S → Prop), (∃ n, I323 n (1) σ164) ∧ (∀ (n333 : Nat) (v320 : Int) (σ321 : sg_S), sg_R v320 → sg_F [74088] σ164 σ321 → I323 n333 v320 σ321 → (((sg_g σ 98 ((sg_g σ 126 (a1)))) ≤ v320 → X325 σ321) ∧ (v320 < (sg_g σ 98 ((sg_g σ 126 (a1)))) → (0 ≤ (sg_g σ 128 (a1)) ∧ (sg_g σ 128 (a1)) < 12000) ∧ p_rowAt σ ((sg_g σ 133 ((sg_g σ 128 (a1))))) (v163) ∧ sg_R ((sg_g σ 128 (a1)) + v320) ∧ (0 ≤ ((sg_g σ 128 (a1)) + v320) ∧ ((sg_g σ 128 (a1)) + v320) < 12000) ∧ p_rowAt σ ((sg_g σ 133 (((sg_g σ 128 (a1)) + v320)))) (v163) ∧ (((v_rowAt σ ((sg_g σ 133 ((sg_g σ 128 (a1))))) (v163)) = (v_rowAt σ ((sg_g σ 133 (((sg_g σ 128 (a1)) + v320)))) (v163)) → sg_R (v320 + 1) ∧ (∃ m, m < n333 ∧ I323 m ((v320 + 1)) σ321)) ∧ (¬ (v_rowAt σ ((sg_g σ 133 ((sg_g σ 128 (a1))))) (v163)) = (v_rowAt σ ((sg_g σ 133 (((sg_g σ 128 (a1)) + v320)))) (v163)) → V_ends σ321 (3) (fun σ349 => sg_F [74088] σ321 σ349 → Q σ349)))))) ∧ (∀ (σ321 : sg_S), sg_F [74088] σ164 σ321 → X325 σ321 → sg_R (v163 + 1) ∧ (∃ m, m < n176 ∧ I166 m ((v163 + 1)) σ321)))))) ∧ (∀ (σ164 : sg_S), sg_F [74088] σ4 σ164 → X168 σ164 → V_clearInside σ164  (fun σ179 => sg_F [120, 47088] σ164 σ179 → V_markInside σ179 ((sg_g σ 97 ((200 * (sg_g σ 126 (a1)))))) (fun σ185 => sg_F [120, 121, 50088] σ179 σ185 → p_hasTest σ ((sg_g σ 126 (a1))) ∧ (∃ P193 : sg_S → Prop, (((v_hasTest σ ((sg_g σ 126 (a1)))) = 0 → P193 σ185) ∧ (¬ (v_hasTest σ ((sg_g σ 126 (a1)))) = 0 → V_markInside σ185 ((sg_g σ 97 ((((200 * (sg_g σ 126 (a1))) + (sg_g σ 96 ((sg_g σ 126 (a1))))) - 1)))) (fun σ314 => sg_F [120, 121, 50088] σ185 σ314 → P193 σ314))) ∧ (∀ (σ194 : sg_S), sg_F [120, 121, 50088] σ185 σ194 → P193 σ194 → V_gatherOutside σ194 ((sg_g σ 126 (a1))) (fun σ198 => sg_F [119, 47088] σ194 σ198 → ∀ σ203, σ203 = (sg_w σ198 88 93 (0)) → (∃ (I209 : Nat → Int → sg_S → Prop) (X211 : sg_S → Prop), (∃ n, I209 n (0) σ203) ∧ (∀ (n219 : Nat) (v206 : Int) (σ207 : sg_S), sg_R v206 → sg_F [143, 94088] σ203 σ207 → I209 n219 v206 σ207 → (((sg_g σ 145 (a1)) ≤ v206 → X211 σ207) ∧ (v206 < (sg_g σ 145 (a1)) → (∃ (I287 : Nat → Int → sg_S → Prop) (X289 : sg_S → Prop), (∃ n, I287 n (0) σ207) ∧ (∀ (n297 : Nat) (v284 : Int) (σ285 : sg_S), sg_R v284 → sg_F [143, 94088] σ207 σ285 → I287 n297 v284 σ285 → (0 ≤ (sg_g σ 128 (a1)) ∧ (sg_g σ 128 (a1)) < 12000) ∧ p_rowAt σ ((sg_g σ 133 ((sg_g σ 128 (a1))))) (v206) ∧ (((v_rowAt σ ((sg_g σ 133 ((sg_g σ 128 (a1))))) (v206)) ≤ v284 → X289 σ285) ∧ (v284 < (v_rowAt σ ((sg_g σ 133 ((sg_g σ 128 (a1))))) (v206)) → V_list σ285 (v206) (fun σ306 => sg_F [143, 94088] σ285 σ306 → sg_R (v284 + 1) ∧ (∃ m, m < n297 ∧ I287 m ((v284 + 1)) σ306))))) ∧ (∀ (σ285 : sg_S), sg_F [143, 94088] σ207 σ285 → X289 σ285 → sg_R (v206 + 1) ∧ (∃ m, m < n219 ∧ I209 m ((v206 + 1)) σ285)))))) ∧ (∀ (σ207 : sg_S), sg_F [143, 94088] σ203 σ207 → X211 σ207 → V_carried σ207  (fun q221 σ222 => (q221 = 0 ∨ q221 = 1) → sg_F [134, 139, 140, 141, 142, 144, 148, 149, 74088, 85088, 86088, 88088, 92088, 100088] σ207 σ222 → ((¬ q221 = 0 → (∃ (I231 : Nat → Int → sg_S → Prop) (X233 : sg_S → Prop), (∃ n, I231 n (0) σ222) ∧ (∀ (n241 : Nat) (v228 : Int) (σ229 : sg_S), sg_R v228 → sg_F [134, 139, 140, 141, 88088] σ222 σ229 → I231 n241 v228 σ229 → (((sg_g σ 98 ((sg_g σ 126 (a1)))) ≤ v228 → X233 σ229) ∧ (v228 < (sg_g σ 98 ((sg_g σ 126 (a1)))) → p_ofGen ((sg_g σ 126 (a1))) (v228) ∧ sg_R ((sg_g σ 128 (a1)) + v228) ∧ (0 ≤ ((sg_g σ 128 (a1)) + v228) ∧ ((sg_g σ 128 (a1)) + v228) < 12000) ∧ V_inner σ229 ((sg_g σ 133 (((sg_g σ 128 (a1)) + v228)))) (fun q271 σ272 => sg_R q271 → sg_F [139, 140, 141, 88088] σ229 σ272 → (0 ≤ (v_ofGen ((sg_g σ 126 (a1))) (v228)) ∧ (v_ofGen ((sg_g σ 126 (a1))) (v228)) < 1200) ∧ ∀ σ278, σ278 = (sg_w σ272 134 ((v_ofGen ((sg_g σ 126 (a1))) (v228))) (q271)) → sg_R (v228 + 1) ∧ (∃ m, m < n241 ∧ I231 m ((v228 + 1)) σ278))))) ∧ (∀ (σ229 : sg_S), sg_F [134, 139, 140, 141, 88088] σ222 σ229 → X233 σ229 → p_hasTest σ ((sg_g σ 126 (a1))) ∧ (((v_hasTest σ ((sg_g σ 126 (a1)))) = 0 → sg_R ((sg_g σ 98 ((sg_g σ 126 (a1)))) + 2) ∧ True) ∧ (¬ (v_hasTest σ ((sg_g σ 126 (a1)))) = 0 → sg_R ((sg_g σ 98 ((sg_g σ 126 (a1)))) + 1) ∧ True)) ∧ ∀ v246 : Int, v246 = (if (v_hasTest σ ((sg_g σ 126 (a1)))) = 0 then ((sg_g σ 98 ((sg_g σ 126 (a1)))) + 2) else ((sg_g σ 98 ((sg_g σ 126 (a1)))) + 1)) → sg_R v246 → ∀ σ249, σ249 = (sg_w σ229 127 (a1) (v246)) → p_hasTest σ ((sg_g σ 126 (a1))) ∧ ∀ v255 : Int, v255 = (if (v_hasTest σ ((sg_g σ 126 (a1)))) = 0 then (sg_g σ 97 ((200 * (sg_g σ 126 (a1))))) else (sg_g σ 97 ((((200 * (sg_g σ 126 (a1))) + (sg_g σ 96 ((sg_g σ 126 (a1))))) - 1)))) → sg_R v255 → V_flatBegin σ249 (v255) ((sg_g σ207 88 93)) (fun σ259 => sg_F [126, 127, 128, 145, 146, 63088, 74088, 85088, 86088, 87088] σ249 σ259 → Q σ259)))) ∧ (q221 = 0 → Q σ222))))))))))))))) ∧ ((sg_g σ 127 (a1)) < (sg_g σ 98 ((sg_g σ 126 (a1)))) → sg_R (200 * (sg_g σ 126 (a1))) ∧ sg_R ((200 * (sg_g σ 126 (a1))) + 1) ∧ sg_R (((200 * (sg_g σ 126 (a1))) + 1) + (sg_g σ 127 (a1))) ∧ (0 ≤ (((200 * (sg_g σ 126 (a1))) + 1) + (sg_g σ 127 (a1))) ∧ (((200 * (sg_g σ 126 (a1))) + 1) + (sg_g σ 127 (a1))) < 42000) ∧ V_flatBegin σ4 ((sg_g σ 97 ((((200 * (sg_g σ 126 (a1))) + 1) + (sg_g σ 127 (a1)))))) ((sg_g σ 145 (a1))) (fun σ359 => sg_F [126, 127, 128, 145, 146, 63088, 74088, 85088, 86088, 87088] σ4 σ359 → Q σ359)))
set_option maxHeartbeats 4000000 in
set_option maxRecDepth 8000 in
theorem w_flatEach (z : Value) (σ : sg_S) (a1 : Int) (Q : sg_S → Prop) (ra1 : sg_R a1) (w : V_flatEach σ a1 Q) : wx z 4 236 0 [(0, .inr (.inr (.ref 88))), (1, .inl (a1))] [] σ (fun v σ' => v = none ∧ sg_F [119, 120, 121, 126, 127, 128, 133, 134, 139, 140, 141, 142, 143, 144, 145, 146, 147, 148, 149, 47088, 50088, 63088, 71088, 74088, 85088, 86088, 87088, 88088, 92088, 94088, 100088] σ σ' ∧ Q σ') := by
  unfold V_flatEach at w
  refine wk_b tt_236 3 (pc' := 5) (ls' := [(0, .inr (.inr (.ref 88))), (1, .inl (a1))]) (st' := [.inl (a1), .inr (.inr (.ref 126))]) (σ' := σ) rfl ?_
  obtain ⟨c1, w⟩ := w
  refine wk_ia tt_236 rfl rfl c1.1 c1.2 ra1 ?_
  refine wk_b tt_236 4 (pc' := 12) (ls' := [(2, .inl ((sg_g σ 126 (a1)))), (0, .inr (.inr (.ref 88))), (1, .inl (a1))]) (st' := [.inl ((sg_g σ 126 (a1))), .inr (.inr (.ref 98))]) (σ' := σ) rfl ?_
  obtain ⟨c2, w⟩ := w
  refine wk_ia tt_236 rfl rfl c2.1 c2.2 (sg_Rg _ _ _) ?_
  refine wk_b tt_236 4 (pc' := 19) (ls' := [(3, .inl ((sg_g σ 98 ((sg_g σ 126 (a1)))))), (2, .inl ((sg_g σ 126 (a1)))), (0, .inr (.inr (.ref 88))), (1, .inl (a1))]) (st' := [.inl (a1), .inr (.inr (.ref 128))]) (σ' := σ) rfl ?_
  refine wk_ia tt_236 rfl rfl c1.1 c1.2 ra1 ?_
  refine wk_b tt_236 4 (pc' := 27) (ls' := [(4, .inl ((sg_g σ 128 (a1)))), (3, .inl ((sg_g σ 98 ((sg_g σ 126 (a1)))))), (2, .inl ((sg_g σ 126 (a1)))), (0, .inr (.inr (.ref 88))), (1, .inl (a1))]) (st' := [.inl (a1), .inr (.inr (.ref 127))]) (σ' := σ) rfl ?_
  refine wk_ia tt_236 rfl rfl c1.1 c1.2 ra1 ?_
  refine wk_b tt_236 5 (pc' := 36) (ls' := [(5, .inl ((sg_g σ 127 (a1)))), (4, .inl ((sg_g σ 128 (a1)))), (3, .inl ((sg_g σ 98 ((sg_g σ 126 (a1)))))), (2, .inl ((sg_g σ 126 (a1)))), (0, .inr (.inr (.ref 88))), (1, .inl (a1))]) (st' := [.inl (a1), .inr (.inr (.ref 127)), .inl (a1), .inr (.inr (.ref 127))]) (σ' := σ) rfl ?_
  refine wk_ia tt_236 rfl rfl c1.1 c1.2 ra1 ?_
  obtain ⟨c3, w⟩ := w
  refine wk_b tt_236 2 (pc' := 39) (ls' := [(5, .inl ((sg_g σ 127 (a1)))), (4, .inl ((sg_g σ 128 (a1)))), (3, .inl ((sg_g σ 98 ((sg_g σ 126 (a1)))))), (2, .inl ((sg_g σ 126 (a1)))), (0, .inr (.inr (.ref 88))), (1, .inl (a1))]) (st' := [.inl (((sg_g σ 127 (a1)) + 1)), .inl (a1), .inr (.inr (.ref 127))]) (σ' := σ) rfl ?_
  refine wk_is tt_236 rfl rfl c1.1 c1.2 ra1 ?_
  generalize hs5 : (sg_w σ 127 (a1) (((sg_g σ 127 (a1)) + 1))) = σ4
  have w := w σ4 hs5.symm
  have hF6 : sg_F [127] σ σ4 := by rw [← hs5]; exact sg_F_w (sg_F_r _ _) rfl _
  refine wk_b tt_236 2 (pc' := 43) (ls' := [(5, .inl ((sg_g σ 127 (a1)))), (4, .inl ((sg_g σ 128 (a1)))), (3, .inl ((sg_g σ 98 ((sg_g σ 126 (a1)))))), (2, .inl ((sg_g σ 126 (a1)))), (0, .inr (.inr (.ref 88))), (1, .inl (a1))]) (st' := [.inl ((sg_g σ 98 ((sg_g σ 126 (a1))))), .inl ((sg_g σ 127 (a1)))]) (σ' := σ4) rfl ?_
  refine wk_if2 tt_236 (tgt := 72) rfl rfl (sg_Rg _ _ _) (sg_Rg _ _ _) (fun (h7 : (sg_g σ 98 ((sg_g σ 126 (a1)))) ≤ (sg_g σ 127 (a1))) => ?_) (fun (h7 : (sg_g σ 127 (a1)) < (sg_g σ 98 ((sg_g σ 126 (a1))))) => ?_)
  ·
    have w := w.1 h7
    obtain ⟨c8, w⟩ := w
    refine wk_b tt_236 5 (pc' := 81) (ls' := [(5, .inl ((sg_g σ 127 (a1)))), (4, .inl ((sg_g σ 128 (a1)))), (3, .inl ((sg_g σ 98 ((sg_g σ 126 (a1)))))), (2, .inl ((sg_g σ 126 (a1)))), (0, .inr (.inr (.ref 88))), (1, .inl (a1))]) (st' := [.inl ((200 * (sg_g σ 126 (a1)))), .inr (.inr (.ref 97))]) (σ' := σ4) rfl ?_
    obtain ⟨c9, w⟩ := w
    refine wk_ia tt_236 rfl rfl c9.1 c9.2 c8 ?_
    rw [show (sg_g σ4 97 ((200 * (sg_g σ 126 (a1))))) = (sg_g σ 97 ((200 * (sg_g σ 126 (a1))))) from by rw [sg_F_ga hF6 rfl]]
    refine wk_b tt_236 9 (pc' := 98) (ls' := [(6, .inl ((sg_g σ 97 ((200 * (sg_g σ 126 (a1))))))), (5, .inl ((sg_g σ 127 (a1)))), (4, .inl ((sg_g σ 128 (a1)))), (3, .inl ((sg_g σ 98 ((sg_g σ 126 (a1)))))), (2, .inl ((sg_g σ 126 (a1)))), (0, .inr (.inr (.ref 88))), (1, .inl (a1))]) (st' := [.inl ((sg_g σ 126 (a1))), .inr (.inr (.ref 96)), .inl ((200 * (sg_g σ 126 (a1)))), .inr (.inr (.ref 97))]) (σ' := σ4) rfl ?_
    refine wk_ia tt_236 rfl rfl c2.1 c2.2 (sg_Rg _ _ _) ?_
    rw [show (sg_g σ4 96 ((sg_g σ 126 (a1)))) = (sg_g σ 96 ((sg_g σ 126 (a1)))) from by rw [sg_F_ga hF6 rfl]]
    obtain ⟨c10, w⟩ := w
    obtain ⟨c11, w⟩ := w
    refine wk_b tt_236 3 (pc' := 102) (ls' := [(6, .inl ((sg_g σ 97 ((200 * (sg_g σ 126 (a1))))))), (5, .inl ((sg_g σ 127 (a1)))), (4, .inl ((sg_g σ 128 (a1)))), (3, .inl ((sg_g σ 98 ((sg_g σ 126 (a1)))))), (2, .inl ((sg_g σ 126 (a1)))), (0, .inr (.inr (.ref 88))), (1, .inl (a1))]) (st' := [.inl ((((200 * (sg_g σ 126 (a1))) + (sg_g σ 96 ((sg_g σ 126 (a1))))) - 1)), .inr (.inr (.ref 97))]) (σ' := σ4) rfl ?_
    obtain ⟨c12, w⟩ := w
    refine wk_ia tt_236 rfl rfl c12.1 c12.2 c11 ?_
    rw [show (sg_g σ4 97 ((((200 * (sg_g σ 126 (a1))) + (sg_g σ 96 ((sg_g σ 126 (a1))))) - 1))) = (sg_g σ 97 ((((200 * (sg_g σ 126 (a1))) + (sg_g σ 96 ((sg_g σ 126 (a1))))) - 1))) from by rw [sg_F_ga hF6 rfl]]
    refine wk_b tt_236 3 (pc' := 108) (ls' := [(7, .inl ((sg_g σ 97 ((((200 * (sg_g σ 126 (a1))) + (sg_g σ 96 ((sg_g σ 126 (a1))))) - 1))))), (6, .inl ((sg_g σ 97 ((200 * (sg_g σ 126 (a1))))))), (5, .inl ((sg_g σ 127 (a1)))), (4, .inl ((sg_g σ 128 (a1)))), (3, .inl ((sg_g σ 98 ((sg_g σ 126 (a1)))))), (2, .inl ((sg_g σ 126 (a1)))), (0, .inr (.inr (.ref 88))), (1, .inl (a1))]) (st' := [.inl ((sg_g σ 98 ((sg_g σ 126 (a1))))), .inl ((sg_g σ 127 (a1)))]) (σ' := σ4) rfl ?_
    refine wk_if2 tt_236 (tgt := 370) rfl rfl (sg_Rg _ _ _) (sg_Rg _ _ _) (fun (h13 : ¬ (sg_g σ 127 (a1)) = (sg_g σ 98 ((sg_g σ 126 (a1))))) => ?_) (fun (h13 : (sg_g σ 127 (a1)) = (sg_g σ 98 ((sg_g σ 126 (a1))))) => ?_)
    ·
      have w := w.1 h13
      obtain ⟨c14, w⟩ := w
      refine wk_b tt_236 4 (pc' := 375) (ls' := [(7, .inl ((sg_g σ 97 ((((200 * (sg_g σ 126 (a1))) + (sg_g σ 96 ((sg_g σ 126 (a1))))) - 1))))), (6, .inl ((sg_g σ 97 ((200 * (sg_g σ 126 (a1))))))), (5, .inl ((sg_g σ 127 (a1)))), (4, .inl ((sg_g σ 128 (a1)))), (3, .inl ((sg_g σ 98 ((sg_g σ 126 (a1)))))), (2, .inl ((sg_g σ 126 (a1)))), (0, .inr (.inr (.ref 88))), (1, .inl (a1))]) (st' := [.inl (((sg_g σ 98 ((sg_g σ 126 (a1)))) + 1)), .inl ((sg_g σ 127 (a1)))]) (σ' := σ4) rfl ?_
      refine wk_if2 tt_236 (tgt := 575) rfl rfl (sg_Rg _ _ _) c14 (fun (h15 : ¬ (sg_g σ 127 (a1)) = ((sg_g σ 98 ((sg_g σ 126 (a1)))) + 1)) => ?_) (fun (h15 : (sg_g σ 127 (a1)) = ((sg_g σ 98 ((sg_g σ 126 (a1)))) + 1)) => ?_)
      ·
        have w := w.1 h15
        refine wk_b tt_236 4 (pc' := 581) (ls' := [(7, .inl ((sg_g σ 97 ((((200 * (sg_g σ 126 (a1))) + (sg_g σ 96 ((sg_g σ 126 (a1))))) - 1))))), (6, .inl ((sg_g σ 97 ((200 * (sg_g σ 126 (a1))))))), (5, .inl ((sg_g σ 127 (a1)))), (4, .inl ((sg_g σ 128 (a1)))), (3, .inl ((sg_g σ 98 ((sg_g σ 126 (a1)))))), (2, .inl ((sg_g σ 126 (a1)))), (0, .inr (.inr (.ref 88))), (1, .inl (a1))]) (st' := [.inl (a1), .inr (.inr (.ref 146)), .inr (.inr (.ref 88))]) (σ' := σ4) rfl ?_
        refine wk_ia tt_236 rfl rfl c1.1 c1.2 ra1 ?_
        rw [show (sg_g σ4 146 (a1)) = (sg_g σ 146 (a1)) from by rw [sg_F_ga hF6 rfl]]
        refine wk_call tt_236 rfl rfl rfl rfl rfl tt_321 rfl (by decide) (w_restore z σ4 ((sg_g σ 146 (a1))) _ (sg_Rg _ _ _) w) (fun u21 σ17 hq19 => ?_)
        obtain ⟨rfl, hF18, w⟩ := hq19
        have w := w hF18
        refine wk_b tt_236 3 (pc' := 588) (ls' := [(7, .inl ((sg_g σ 97 ((((200 * (sg_g σ 126 (a1))) + (sg_g σ 96 ((sg_g σ 126 (a1))))) - 1))))), (6, .inl ((sg_g σ 97 ((200 * (sg_g σ 126 (a1))))))), (5, .inl ((sg_g σ 127 (a1)))), (4, .inl ((sg_g σ 128 (a1)))), (3, .inl ((sg_g σ 98 ((sg_g σ 126 (a1)))))), (2, .inl ((sg_g σ 126 (a1)))), (0, .inr (.inr (.ref 88))), (1, .inl (a1))]) (st' := [.inl ((sg_g σ 126 (a1))), .inr (.inr (.ref 88)), .inr (.inr (.ref 88))]) (σ' := σ17) rfl ?_
        obtain ⟨c22, w⟩ := w
        have c22 : p_hasTest σ17 ((sg_g σ 126 (a1))) := by
          rw [pF_hasTest hF18 rfl rfl, pF_hasTest hF6 rfl rfl]; exact c22
        refine wk_callp tt_236 rfl rfl rfl rfl rfl tt_257 rfl (by decide) (w_hasTest z σ17 ((sg_g σ 126 (a1))) (sg_Rg _ _ _) c22) ?_
        rw [vF_hasTest hF18 rfl rfl, vF_hasTest hF6 rfl rfl]
        obtain ⟨wp, w⟩ := w
        have jn24 : ∀ v25 : Int, v25 = (if (v_hasTest σ ((sg_g σ 126 (a1)))) = 0 then (sg_g σ 140 ((4 * (sg_g σ 133 ((sg_g σ 128 (a1))))))) else (sg_g σ 147 (a1))) → sg_R v25 → wx z 4 236 617 [(0, .inr (.inr (.ref 88))), (1, .inl (a1))] [.inl (v25), .inr (.inr (.ref 88))] σ17 (fun v σ' => v = none ∧ sg_F [119, 120, 121, 126, 127, 128, 133, 134, 139, 140, 141, 142, 143, 144, 145, 146, 147, 148, 149, 47088, 50088, 63088, 71088, 74088, 85088, 86088, 87088, 88088, 92088, 94088, 100088] σ σ' ∧ Q σ') := by
          intro v25 e27 r26
          have w := w v25 e27 r26
          refine wk_b tt_236 3 (pc' := 622) (ls' := [(0, .inr (.inr (.ref 88))), (1, .inl (a1))]) (st' := [.inl (a1), .inr (.inr (.ref 145)), .inl (v25), .inr (.inr (.ref 88))]) (σ' := σ17) rfl ?_
          refine wk_ia tt_236 rfl rfl c1.1 c1.2 ra1 ?_
          rw [show (sg_g σ17 145 (a1)) = (sg_g σ 145 (a1)) from by rw [sg_F_ga hF18 rfl, sg_F_ga hF6 rfl]]
          obtain ⟨c28, w⟩ := w
          refine wk_b tt_236 6 (pc' := 633) (ls' := [(0, .inr (.inr (.ref 88))), (1, .inl (a1))]) (st' := [.inl (((sg_g σ17 88 70) - 1)), .inr (.inr (.ref 133)), .inl ((sg_g σ 145 (a1))), .inl (v25), .inr (.inr (.ref 88))]) (σ' := σ17) rfl ?_
          rw [show (sg_g σ17 88 70) = (sg_g σ 88 70) from by rw [sg_F_g hF18 rfl, sg_F_ga hF6 rfl]]
          obtain ⟨c29, w⟩ := w
          refine wk_ia tt_236 rfl rfl c29.1 c29.2 c28 ?_
          rw [show (sg_g σ17 133 (((sg_g σ 88 70) - 1))) = (sg_g σ 133 (((sg_g σ 88 70) - 1))) from by rw [sg_F_ga hF18 rfl, sg_F_ga hF6 rfl]]
          refine wk_call tt_236 rfl rfl rfl rfl rfl tt_300 rfl (by decide) (w_outer z σ17 (v25) ((sg_g σ 145 (a1))) ((sg_g σ 133 (((sg_g σ 88 70) - 1)))) _ r26 (sg_Rg _ _ _) (sg_Rg _ _ _) w) (fun u35 σ31 hq33 => ?_)
          obtain ⟨q30, rfl, r34, hF32, w⟩ := hq33
          have w := w r34 hF32
          refine wk_b tt_236 3 (pc' := 642) (ls' := [(8, .inl (q30)), (0, .inr (.inr (.ref 88))), (1, .inl (a1))]) (st' := [.inl (q30), .inr (.inr (.ref 88))]) (σ' := σ31) rfl ?_
          refine wk_call tt_236 rfl rfl rfl rfl rfl tt_242 rfl (by decide) (w_flatLeave z σ31 (q30) _ r34 w) (fun u41 σ37 hq39 => ?_)
          obtain ⟨rfl, hF38, w⟩ := hq39
          have w := w hF38
          exact wk_rV tt_236 rfl rfl ⟨rfl, (sg_F_t (sg_F_t (sg_F_t (sg_F_t (sg_F_r [119, 120, 121, 126, 127, 128, 133, 134, 139, 140, 141, 142, 143, 144, 145, 146, 147, 148, 149, 47088, 50088, 63088, 71088, 74088, 85088, 86088, 87088, 88088, 92088, 94088, 100088] σ) (sg_F_m (L := [119, 120, 121, 126, 127, 128, 133, 134, 139, 140, 141, 142, 143, 144, 145, 146, 147, 148, 149, 47088, 50088, 63088, 71088, 74088, 85088, 86088, 87088, 88088, 92088, 94088, 100088]) hF6 rfl)) (sg_F_m (L := [119, 120, 121, 126, 127, 128, 133, 134, 139, 140, 141, 142, 143, 144, 145, 146, 147, 148, 149, 47088, 50088, 63088, 71088, 74088, 85088, 86088, 87088, 88088, 92088, 94088, 100088]) hF18 rfl)) (sg_F_m (L := [119, 120, 121, 126, 127, 128, 133, 134, 139, 140, 141, 142, 143, 144, 145, 146, 147, 148, 149, 47088, 50088, 63088, 71088, 74088, 85088, 86088, 87088, 88088, 92088, 94088, 100088]) hF32 rfl)) (sg_F_m (L := [119, 120, 121, 126, 127, 128, 133, 134, 139, 140, 141, 142, 143, 144, 145, 146, 147, 148, 149, 47088, 50088, 63088, 71088, 74088, 85088, 86088, 87088, 88088, 92088, 94088, 100088]) hF38 rfl)), w⟩
        have w := wp
        refine wk_if tt_236 (tgt := 603) rfl rfl (sg_Rz (vz_hasTest ..)) (fun (h23 : (v_hasTest σ ((sg_g σ 126 (a1)))) = 0) => ?_) (fun (h23 : ¬ (v_hasTest σ ((sg_g σ 126 (a1)))) = 0) => ?_)
        ·
          have w := w.1 h23
          refine wk_b tt_236 6 (pc' := 614) (ls' := [(7, .inl ((sg_g σ 97 ((((200 * (sg_g σ 126 (a1))) + (sg_g σ 96 ((sg_g σ 126 (a1))))) - 1))))), (6, .inl ((sg_g σ 97 ((200 * (sg_g σ 126 (a1))))))), (5, .inl ((sg_g σ 127 (a1)))), (4, .inl ((sg_g σ 128 (a1)))), (3, .inl ((sg_g σ 98 ((sg_g σ 126 (a1)))))), (2, .inl ((sg_g σ 126 (a1)))), (0, .inr (.inr (.ref 88))), (1, .inl (a1))]) (st' := [.inl ((sg_g σ 128 (a1))), .inr (.inr (.ref 133)), .inl (4), .inr (.inr (.ref 140)), .inr (.inr (.ref 88))]) (σ' := σ17) rfl ?_
          obtain ⟨c42, w⟩ := w
          refine wk_ia tt_236 rfl rfl c42.1 c42.2 (sg_Rg _ _ _) ?_
          rw [show (sg_g σ17 133 ((sg_g σ 128 (a1)))) = (sg_g σ 133 ((sg_g σ 128 (a1)))) from by rw [sg_F_ga hF18 rfl, sg_F_ga hF6 rfl]]
          obtain ⟨c43, w⟩ := w
          refine wk_b tt_236 1 (pc' := 616) (ls' := [(7, .inl ((sg_g σ 97 ((((200 * (sg_g σ 126 (a1))) + (sg_g σ 96 ((sg_g σ 126 (a1))))) - 1))))), (6, .inl ((sg_g σ 97 ((200 * (sg_g σ 126 (a1))))))), (5, .inl ((sg_g σ 127 (a1)))), (4, .inl ((sg_g σ 128 (a1)))), (3, .inl ((sg_g σ 98 ((sg_g σ 126 (a1)))))), (2, .inl ((sg_g σ 126 (a1)))), (0, .inr (.inr (.ref 88))), (1, .inl (a1))]) (st' := [.inl ((4 * (sg_g σ 133 ((sg_g σ 128 (a1)))))), .inr (.inr (.ref 140)), .inr (.inr (.ref 88))]) (σ' := σ17) rfl ?_
          obtain ⟨c44, w⟩ := w
          refine wk_ia tt_236 rfl rfl c44.1 c44.2 c43 ?_
          rw [show (sg_g σ17 140 ((4 * (sg_g σ 133 ((sg_g σ 128 (a1))))))) = (sg_g σ 140 ((4 * (sg_g σ 133 ((sg_g σ 128 (a1))))))) from by rw [sg_F_ga hF18 rfl, sg_F_ga hF6 rfl]]
          exact wk_ls [(0, .inr (.inr (.ref 88))), (1, .inl (a1))] rfl ⟨rfl, rfl, trivial⟩ (jn24 ((sg_g σ 140 ((4 * (sg_g σ 133 ((sg_g σ 128 (a1)))))))) (by simp only [if_pos h23]) (sg_Rg _ _ _))
        ·
          have w := w.2 h23
          refine wk_b tt_236 3 (pc' := 599) (ls' := [(7, .inl ((sg_g σ 97 ((((200 * (sg_g σ 126 (a1))) + (sg_g σ 96 ((sg_g σ 126 (a1))))) - 1))))), (6, .inl ((sg_g σ 97 ((200 * (sg_g σ 126 (a1))))))), (5, .inl ((sg_g σ 127 (a1)))), (4, .inl ((sg_g σ 128 (a1)))), (3, .inl ((sg_g σ 98 ((sg_g σ 126 (a1)))))), (2, .inl ((sg_g σ 126 (a1)))), (0, .inr (.inr (.ref 88))), (1, .inl (a1))]) (st' := [.inl (a1), .inr (.inr (.ref 147)), .inr (.inr (.ref 88))]) (σ' := σ17) rfl ?_
          refine wk_ia tt_236 rfl rfl c1.1 c1.2 ra1 ?_
          rw [show (sg_g σ17 147 (a1)) = (sg_g σ 147 (a1)) from by rw [sg_F_ga hF18 rfl, sg_F_ga hF6 rfl]]
          refine wk_b tt_236 1 (pc' := 617) (ls' := [(7, .inl ((sg_g σ 97 ((((200 * (sg_g σ 126 (a1))) + (sg_g σ 96 ((sg_g σ 126 (a1))))) - 1))))), (6, .inl ((sg_g σ 97 ((200 * (sg_g σ 126 (a1))))))), (5, .inl ((sg_g σ 127 (a1)))), (4, .inl ((sg_g σ 128 (a1)))), (3, .inl ((sg_g σ 98 ((sg_g σ 126 (a1)))))), (2, .inl ((sg_g σ 126 (a1)))), (0, .inr (.inr (.ref 88))), (1, .inl (a1))]) (st' := [.inl ((sg_g σ 147 (a1))), .inr (.inr (.ref 88))]) (σ' := σ17) rfl ?_
          exact wk_ls [(0, .inr (.inr (.ref 88))), (1, .inl (a1))] rfl ⟨rfl, rfl, trivial⟩ (jn24 ((sg_g σ 147 (a1))) (by simp only [if_neg (show ¬ ((v_hasTest σ ((sg_g σ 126 (a1)))) = 0) by omega)]) (sg_Rg _ _ _))
      ·
        have w := w.2 h15
        obtain ⟨c45, w⟩ := w
        refine wk_b tt_236 6 (pc' := 388) (ls' := [(7, .inl ((sg_g σ 97 ((((200 * (sg_g σ 126 (a1))) + (sg_g σ 96 ((sg_g σ 126 (a1))))) - 1))))), (6, .inl ((sg_g σ 97 ((200 * (sg_g σ 126 (a1))))))), (5, .inl ((sg_g σ 127 (a1)))), (4, .inl ((sg_g σ 128 (a1)))), (3, .inl ((sg_g σ 98 ((sg_g σ 126 (a1)))))), (2, .inl ((sg_g σ 126 (a1)))), (0, .inr (.inr (.ref 88))), (1, .inl (a1))]) (st' := []) (σ' := (sg_w σ4 88 70 (((sg_g σ4 88 70) - 1)))) rfl ?_
        rw [show (sg_g σ4 88 70) = (sg_g σ 88 70) from by rw [sg_F_ga hF6 rfl]]
        generalize hs47 : (sg_w σ4 88 70 (((sg_g σ 88 70) - 1))) = σ46
        have w := w σ46 hs47.symm
        have hF48 : sg_F [71088] σ4 σ46 := by rw [← hs47]; exact sg_F_w (sg_F_r _ _) rfl _
        refine wk_b tt_236 4 (pc' := 396) (ls' := [(7, .inl ((sg_g σ 97 ((((200 * (sg_g σ 126 (a1))) + (sg_g σ 96 ((sg_g σ 126 (a1))))) - 1))))), (6, .inl ((sg_g σ 97 ((200 * (sg_g σ 126 (a1))))))), (5, .inl ((sg_g σ 127 (a1)))), (4, .inl ((sg_g σ 128 (a1)))), (3, .inl ((sg_g σ 98 ((sg_g σ 126 (a1)))))), (2, .inl ((sg_g σ 126 (a1)))), (0, .inr (.inr (.ref 88))), (1, .inl (a1))]) (st' := [.inl ((sg_g σ46 88 70)), .inr (.inr (.ref 133))]) (σ' := σ46) rfl ?_
        rw [show (sg_g σ46 88 70) = ((sg_g σ 88 70) - 1) from by rw [(show sg_g σ46 88 70 = ((sg_g σ 88 70) - 1) from by rw [← hs47]; exact sg_gw_e _ _ _ _ c45)]]
        obtain ⟨c49, w⟩ := w
        refine wk_ia tt_236 rfl rfl c49.1 c49.2 c45 ?_
        rw [show (sg_g σ46 133 (((sg_g σ 88 70) - 1))) = (sg_g σ 133 (((sg_g σ 88 70) - 1))) from by rw [sg_F_ga hF48 rfl, sg_F_ga hF6 rfl]]
        refine wk_b tt_236 2 (pc' := 400) (ls' := [(8, .inl ((sg_g σ 133 (((sg_g σ 88 70) - 1))))), (7, .inl ((sg_g σ 97 ((((200 * (sg_g σ 126 (a1))) + (sg_g σ 96 ((sg_g σ 126 (a1))))) - 1))))), (6, .inl ((sg_g σ 97 ((200 * (sg_g σ 126 (a1))))))), (5, .inl ((sg_g σ 127 (a1)))), (4, .inl ((sg_g σ 128 (a1)))), (3, .inl ((sg_g σ 98 ((sg_g σ 126 (a1)))))), (2, .inl ((sg_g σ 126 (a1)))), (0, .inr (.inr (.ref 88))), (1, .inl (a1))]) (st' := [.inr (.inr (.ref 88))]) (σ' := σ46) rfl ?_
        refine wk_call tt_236 rfl rfl rfl rfl rfl tt_218 rfl (by decide) (w_clearInside z σ46  _  w) (fun u55 σ51 hq53 => ?_)
        obtain ⟨rfl, hF52, w⟩ := hq53
        have w := w hF52
        refine wk_b tt_236 2 (pc' := 406) (ls' := [(8, .inl ((sg_g σ 133 (((sg_g σ 88 70) - 1))))), (7, .inl ((sg_g σ 97 ((((200 * (sg_g σ 126 (a1))) + (sg_g σ 96 ((sg_g σ 126 (a1))))) - 1))))), (6, .inl ((sg_g σ 97 ((200 * (sg_g σ 126 (a1))))))), (5, .inl ((sg_g σ 127 (a1)))), (4, .inl ((sg_g σ 128 (a1)))), (3, .inl ((sg_g σ 98 ((sg_g σ 126 (a1)))))), (2, .inl ((sg_g σ 126 (a1)))), (0, .inr (.inr (.ref 88))), (1, .inl (a1))]) (st' := [.inl ((sg_g σ 97 ((200 * (sg_g σ 126 (a1)))))), .inr (.inr (.ref 88))]) (σ' := σ51) rfl ?_
        refine wk_call tt_236 rfl rfl rfl rfl rfl tt_290 rfl (by decide) (w_markInside z σ51 ((sg_g σ 97 ((200 * (sg_g σ 126 (a1)))))) _ (sg_Rg _ _ _) w) (fun u61 σ57 hq59 => ?_)
        obtain ⟨rfl, hF58, w⟩ := hq59
        have w := w hF58
        refine wk_b tt_236 2 (pc' := 411) (ls' := [(8, .inl ((sg_g σ 133 (((sg_g σ 88 70) - 1))))), (7, .inl ((sg_g σ 97 ((((200 * (sg_g σ 126 (a1))) + (sg_g σ 96 ((sg_g σ 126 (a1))))) - 1))))), (6, .inl ((sg_g σ 97 ((200 * (sg_g σ 126 (a1))))))), (5, .inl ((sg_g σ 127 (a1)))), (4, .inl ((sg_g σ 128 (a1)))), (3, .inl ((sg_g σ 98 ((sg_g σ 126 (a1)))))), (2, .inl ((sg_g σ 126 (a1)))), (0, .inr (.inr (.ref 88))), (1, .inl (a1))]) (st' := [.inl ((-1)), .inr (.inr (.ref 88))]) (σ' := σ57) rfl ?_
        refine wk_call tt_236 rfl rfl rfl rfl rfl tt_248 rfl (by decide) (w_gatherOutside z σ57 ((-1)) _ (by decide) w) (fun u67 σ63 hq65 => ?_)
        obtain ⟨rfl, hF64, w⟩ := hq65
        have w := w hF64
        refine wk_b tt_236 3 (pc' := 418) (ls' := [(8, .inl ((sg_g σ 133 (((sg_g σ 88 70) - 1))))), (7, .inl ((sg_g σ 97 ((((200 * (sg_g σ 126 (a1))) + (sg_g σ 96 ((sg_g σ 126 (a1))))) - 1))))), (6, .inl ((sg_g σ 97 ((200 * (sg_g σ 126 (a1))))))), (5, .inl ((sg_g σ 127 (a1)))), (4, .inl ((sg_g σ 128 (a1)))), (3, .inl ((sg_g σ 98 ((sg_g σ 126 (a1)))))), (2, .inl ((sg_g σ 126 (a1)))), (0, .inr (.inr (.ref 88))), (1, .inl (a1))]) (st' := [.inl (1), .inl ((sg_g σ 133 (((sg_g σ 88 70) - 1)))), .inr (.inr (.ref 88))]) (σ' := σ63) rfl ?_
        refine wk_call tt_236 rfl rfl rfl rfl rfl tt_282 rfl (by decide) (w_listWhere z σ63 ((sg_g σ 133 (((sg_g σ 88 70) - 1)))) (1) _ (sg_Rg _ _ _) (by decide) w) (fun u73 σ69 hq71 => ?_)
        obtain ⟨rfl, hF70, w⟩ := hq71
        have w := w hF70
        refine wk_b tt_236 4 (pc' := 428) (ls' := [(9, .inl ((sg_g σ69 88 93))), (8, .inl ((sg_g σ 133 (((sg_g σ 88 70) - 1))))), (7, .inl ((sg_g σ 97 ((((200 * (sg_g σ 126 (a1))) + (sg_g σ 96 ((sg_g σ 126 (a1))))) - 1))))), (6, .inl ((sg_g σ 97 ((200 * (sg_g σ 126 (a1))))))), (5, .inl ((sg_g σ 127 (a1)))), (4, .inl ((sg_g σ 128 (a1)))), (3, .inl ((sg_g σ 98 ((sg_g σ 126 (a1)))))), (2, .inl ((sg_g σ 126 (a1)))), (0, .inr (.inr (.ref 88))), (1, .inl (a1))]) (st' := [.inr (.inr (.ref 88))]) (σ' := σ69) rfl ?_
        refine wk_call tt_236 rfl rfl rfl rfl rfl tt_217 rfl (by decide) (w_carried z σ69  _  w) (fun u79 σ75 hq77 => ?_)
        obtain ⟨q74, rfl, r78, hF76, w⟩ := hq77
        have w := w r78 hF76
        refine wk_if tt_236 (tgt := 448) rfl rfl (sg_Rz r78) (fun (h80 : q74 = 0) => ?_) (fun (h80 : ¬ q74 = 0) => ?_)
        ·
          have w := w.1 h80
          exact wk_rV tt_236 rfl rfl ⟨rfl, (sg_F_t (sg_F_t (sg_F_t (sg_F_t (sg_F_t (sg_F_t (sg_F_t (sg_F_r [119, 120, 121, 126, 127, 128, 133, 134, 139, 140, 141, 142, 143, 144, 145, 146, 147, 148, 149, 47088, 50088, 63088, 71088, 74088, 85088, 86088, 87088, 88088, 92088, 94088, 100088] σ) (sg_F_m (L := [119, 120, 121, 126, 127, 128, 133, 134, 139, 140, 141, 142, 143, 144, 145, 146, 147, 148, 149, 47088, 50088, 63088, 71088, 74088, 85088, 86088, 87088, 88088, 92088, 94088, 100088]) hF6 rfl)) (sg_F_m (L := [119, 120, 121, 126, 127, 128, 133, 134, 139, 140, 141, 142, 143, 144, 145, 146, 147, 148, 149, 47088, 50088, 63088, 71088, 74088, 85088, 86088, 87088, 88088, 92088, 94088, 100088]) hF48 rfl)) (sg_F_m (L := [119, 120, 121, 126, 127, 128, 133, 134, 139, 140, 141, 142, 143, 144, 145, 146, 147, 148, 149, 47088, 50088, 63088, 71088, 74088, 85088, 86088, 87088, 88088, 92088, 94088, 100088]) hF52 rfl)) (sg_F_m (L := [119, 120, 121, 126, 127, 128, 133, 134, 139, 140, 141, 142, 143, 144, 145, 146, 147, 148, 149, 47088, 50088, 63088, 71088, 74088, 85088, 86088, 87088, 88088, 92088, 94088, 100088]) hF58 rfl)) (sg_F_m (L := [119, 120, 121, 126, 127, 128, 133, 134, 139, 140, 141, 142, 143, 144, 145, 146, 147, 148, 149, 47088, 50088, 63088, 71088, 74088, 85088, 86088, 87088, 88088, 92088, 94088, 100088]) hF64 rfl)) (sg_F_m (L := [119, 120, 121, 126, 127, 128, 133, 134, 139, 140, 141, 142, 143, 144, 145, 146, 147, 148, 149, 47088, 50088, 63088, 71088, 74088, 85088, 86088, 87088, 88088, 92088, 94088, 100088]) hF70 rfl)) (sg_F_m (L := [119, 120, 121, 126, 127, 128, 133, 134, 139, 140, 141, 142, 143, 144, 145, 146, 147, 148, 149, 47088, 50088, 63088, 71088, 74088, 85088, 86088, 87088, 88088, 92088, 94088, 100088]) hF76 rfl)), w⟩
        ·
          have w := w.2 h80
          refine wk_b tt_236 4 (pc' := 440) (ls' := [(9, .inl ((sg_g σ69 88 93))), (8, .inl ((sg_g σ 133 (((sg_g σ 88 70) - 1))))), (7, .inl ((sg_g σ 97 ((((200 * (sg_g σ 126 (a1))) + (sg_g σ 96 ((sg_g σ 126 (a1))))) - 1))))), (6, .inl ((sg_g σ 97 ((200 * (sg_g σ 126 (a1))))))), (5, .inl ((sg_g σ 127 (a1)))), (4, .inl ((sg_g σ 128 (a1)))), (3, .inl ((sg_g σ 98 ((sg_g σ 126 (a1)))))), (2, .inl ((sg_g σ 126 (a1)))), (0, .inr (.inr (.ref 88))), (1, .inl (a1))]) (st' := [.inl (a1), .inr (.inr (.ref 145)), .inr (.inr (.ref 88))]) (σ' := σ75) rfl ?_
          refine wk_ia tt_236 rfl rfl c1.1 c1.2 ra1 ?_
          rw [show (sg_g σ75 145 (a1)) = (sg_g σ 145 (a1)) from by rw [sg_F_ga hF76 rfl, sg_F_ga hF70 rfl, sg_F_ga hF64 rfl, sg_F_ga hF58 rfl, sg_F_ga hF52 rfl, sg_F_ga hF48 rfl, sg_F_ga hF6 rfl]]
          refine wk_b tt_236 1 (pc' := 442) (ls' := [(9, .inl ((sg_g σ69 88 93))), (8, .inl ((sg_g σ 133 (((sg_g σ 88 70) - 1))))), (7, .inl ((sg_g σ 97 ((((200 * (sg_g σ 126 (a1))) + (sg_g σ 96 ((sg_g σ 126 (a1))))) - 1))))), (6, .inl ((sg_g σ 97 ((200 * (sg_g σ 126 (a1))))))), (5, .inl ((sg_g σ 127 (a1)))), (4, .inl ((sg_g σ 128 (a1)))), (3, .inl ((sg_g σ 98 ((sg_g σ 126 (a1)))))), (2, .inl ((sg_g σ 126 (a1)))), (0, .inr (.inr (.ref 88))), (1, .inl (a1))]) (st' := [.inr (.inl ((sg_n ((sg_g σ 145 (a1)))))), .inr (.inr (.ref 88))]) (σ' := σ75) rfl ?_
          rw [show (sg_n ((sg_g σ 145 (a1)))) = (sg_g σ 145 (a1)) from by rw [sg_id (sg_Rg _ _ _)]]
          refine wk_call tt_236 rfl rfl rfl rfl rfl tt_329 rfl (by decide) (w_stepped z σ75 ((sg_g σ 145 (a1))) _ (sg_Rgl2 (sg_Rg _ _ _)) w) (fun u86 σ82 hq84 => ?_)
          obtain ⟨q81, rfl, r85, hF83, w⟩ := hq84
          have w := w r85 hF83
          refine wk_if tt_236 (tgt := 449) rfl rfl (sg_Rz r85) (fun (h87 : ¬ q81 = 0) => ?_) (fun (h87 : q81 = 0) => ?_)
          ·
            have w := w.1 h87
            refine wk_b tt_236 5 (pc' := 458) (ls' := [(9, .inl ((sg_g σ69 88 93))), (8, .inl ((sg_g σ 133 (((sg_g σ 88 70) - 1))))), (7, .inl ((sg_g σ 97 ((((200 * (sg_g σ 126 (a1))) + (sg_g σ 96 ((sg_g σ 126 (a1))))) - 1))))), (6, .inl ((sg_g σ 97 ((200 * (sg_g σ 126 (a1))))))), (5, .inl ((sg_g σ 127 (a1)))), (4, .inl ((sg_g σ 128 (a1)))), (3, .inl ((sg_g σ 98 ((sg_g σ 126 (a1)))))), (2, .inl ((sg_g σ 126 (a1)))), (0, .inr (.inr (.ref 88))), (1, .inl (a1))]) (st' := [.inl ((sg_g σ82 88 91)), .inl (a1), .inr (.inr (.ref 147))]) (σ' := σ82) rfl ?_
            rw [show (sg_g σ82 88 91) = (sg_g σ75 88 91) from by rw [sg_F_g hF83 rfl]]
            refine wk_is tt_236 rfl rfl c1.1 c1.2 ra1 ?_
            generalize hs89 : (sg_w σ82 147 (a1) ((sg_g σ75 88 91))) = σ88
            have w := w σ88 hs89.symm
            have hF90 : sg_F [147] σ82 σ88 := by rw [← hs89]; exact sg_F_w (sg_F_r _ _) rfl _
            refine wk_b tt_236 4 (pc' := 465) (ls' := [(11, .inl (0)), (10, .inl (0)), (9, .inl ((sg_g σ69 88 93))), (8, .inl ((sg_g σ 133 (((sg_g σ 88 70) - 1))))), (7, .inl ((sg_g σ 97 ((((200 * (sg_g σ 126 (a1))) + (sg_g σ 96 ((sg_g σ 126 (a1))))) - 1))))), (6, .inl ((sg_g σ 97 ((200 * (sg_g σ 126 (a1))))))), (5, .inl ((sg_g σ 127 (a1)))), (4, .inl ((sg_g σ 128 (a1)))), (3, .inl ((sg_g σ 98 ((sg_g σ 126 (a1)))))), (2, .inl ((sg_g σ 126 (a1)))), (0, .inr (.inr (.ref 88))), (1, .inl (a1))]) (st' := []) (σ' := σ88) rfl ?_
            obtain ⟨I95, X97, ⟨μ96, w103⟩, w104, w105⟩ := w
            have ex107 : ∀ (σ93 : sg_S), sg_F [142, 92088] σ88 σ93 → X97 σ93 → wx z 4 236 557 [(0, .inr (.inr (.ref 88))), (1, .inl (a1)), (3, .inl ((sg_g σ 98 ((sg_g σ 126 (a1)))))), (6, .inl ((sg_g σ 97 ((200 * (sg_g σ 126 (a1))))))), (9, .inl ((sg_g σ69 88 93)))] [] σ93 (fun v σ' => v = none ∧ sg_F [119, 120, 121, 126, 127, 128, 133, 134, 139, 140, 141, 142, 143, 144, 145, 146, 147, 148, 149, 47088, 50088, 63088, 71088, 74088, 85088, 86088, 87088, 88088, 92088, 94088, 100088] σ σ' ∧ Q σ') := by
              intro σ93 hF94 w
              have w := w105 σ93 hF94 w
              obtain ⟨c108, w⟩ := w
              refine wk_b tt_236 6 (pc' := 565) (ls' := [(0, .inr (.inr (.ref 88))), (1, .inl (a1)), (3, .inl ((sg_g σ 98 ((sg_g σ 126 (a1)))))), (6, .inl ((sg_g σ 97 ((200 * (sg_g σ 126 (a1))))))), (9, .inl ((sg_g σ69 88 93)))]) (st' := [.inl (((sg_g σ 98 ((sg_g σ 126 (a1)))) + 2)), .inl (a1), .inr (.inr (.ref 127))]) (σ' := σ93) rfl ?_
              refine wk_is tt_236 rfl rfl c1.1 c1.2 ra1 ?_
              generalize hs110 : (sg_w σ93 127 (a1) (((sg_g σ 98 ((sg_g σ 126 (a1)))) + 2))) = σ109
              have w := w σ109 hs110.symm
              have hF111 : sg_F [127] σ93 σ109 := by rw [← hs110]; exact sg_F_w (sg_F_r _ _) rfl _
              refine wk_b tt_236 3 (pc' := 571) (ls' := [(0, .inr (.inr (.ref 88))), (1, .inl (a1)), (3, .inl ((sg_g σ 98 ((sg_g σ 126 (a1)))))), (6, .inl ((sg_g σ 97 ((200 * (sg_g σ 126 (a1))))))), (9, .inl ((sg_g σ69 88 93)))]) (st' := [.inl ((sg_g σ69 88 93)), .inl ((sg_g σ 97 ((200 * (sg_g σ 126 (a1)))))), .inr (.inr (.ref 88))]) (σ' := σ109) rfl ?_
              refine wk_call tt_236 rfl rfl rfl rfl rfl tt_232 rfl (by decide) (w_flatBegin z σ109 ((sg_g σ 97 ((200 * (sg_g σ 126 (a1)))))) ((sg_g σ69 88 93)) _ (sg_Rg _ _ _) (sg_Rg _ _ _) w) (fun u117 σ113 hq115 => ?_)
              obtain ⟨rfl, hF114, w⟩ := hq115
              have w := w hF114
              exact wk_rV tt_236 rfl rfl ⟨rfl, (sg_F_t (sg_F_t (sg_F_t (sg_F_t (sg_F_t (sg_F_t (sg_F_t (sg_F_t (sg_F_t (sg_F_t (sg_F_t (sg_F_t (sg_F_r [119, 120, 121, 126, 127, 128, 133, 134, 139, 140, 141, 142, 143, 144, 145, 146, 147, 148, 149, 47088, 50088, 63088, 71088, 74088, 85088, 86088, 87088, 88088, 92088, 94088, 100088] σ) (sg_F_m (L := [119, 120, 121, 126, 127, 128, 133, 134, 139, 140, 141, 142, 143, 144, 145, 146, 147, 148, 149, 47088, 50088, 63088, 71088, 74088, 85088, 86088, 87088, 88088, 92088, 94088, 100088]) hF6 rfl)) (sg_F_m (L := [119, 120, 121, 126, 127, 128, 133, 134, 139, 140, 141, 142, 143, 144, 145, 146, 147, 148, 149, 47088, 50088, 63088, 71088, 74088, 85088, 86088, 87088, 88088, 92088, 94088, 100088]) hF48 rfl)) (sg_F_m (L := [119, 120, 121, 126, 127, 128, 133, 134, 139, 140, 141, 142, 143, 144, 145, 146, 147, 148, 149, 47088, 50088, 63088, 71088, 74088, 85088, 86088, 87088, 88088, 92088, 94088, 100088]) hF52 rfl)) (sg_F_m (L := [119, 120, 121, 126, 127, 128, 133, 134, 139, 140, 141, 142, 143, 144, 145, 146, 147, 148, 149, 47088, 50088, 63088, 71088, 74088, 85088, 86088, 87088, 88088, 92088, 94088, 100088]) hF58 rfl)) (sg_F_m (L := [119, 120, 121, 126, 127, 128, 133, 134, 139, 140, 141, 142, 143, 144, 145, 146, 147, 148, 149, 47088, 50088, 63088, 71088, 74088, 85088, 86088, 87088, 88088, 92088, 94088, 100088]) hF64 rfl)) (sg_F_m (L := [119, 120, 121, 126, 127, 128, 133, 134, 139, 140, 141, 142, 143, 144, 145, 146, 147, 148, 149, 47088, 50088, 63088, 71088, 74088, 85088, 86088, 87088, 88088, 92088, 94088, 100088]) hF70 rfl)) (sg_F_m (L := [119, 120, 121, 126, 127, 128, 133, 134, 139, 140, 141, 142, 143, 144, 145, 146, 147, 148, 149, 47088, 50088, 63088, 71088, 74088, 85088, 86088, 87088, 88088, 92088, 94088, 100088]) hF76 rfl)) (sg_F_m (L := [119, 120, 121, 126, 127, 128, 133, 134, 139, 140, 141, 142, 143, 144, 145, 146, 147, 148, 149, 47088, 50088, 63088, 71088, 74088, 85088, 86088, 87088, 88088, 92088, 94088, 100088]) hF83 rfl)) (sg_F_m (L := [119, 120, 121, 126, 127, 128, 133, 134, 139, 140, 141, 142, 143, 144, 145, 146, 147, 148, 149, 47088, 50088, 63088, 71088, 74088, 85088, 86088, 87088, 88088, 92088, 94088, 100088]) hF90 rfl)) (sg_F_m (L := [119, 120, 121, 126, 127, 128, 133, 134, 139, 140, 141, 142, 143, 144, 145, 146, 147, 148, 149, 47088, 50088, 63088, 71088, 74088, 85088, 86088, 87088, 88088, 92088, 94088, 100088]) hF94 rfl)) (sg_F_m (L := [119, 120, 121, 126, 127, 128, 133, 134, 139, 140, 141, 142, 143, 144, 145, 146, 147, 148, 149, 47088, 50088, 63088, 71088, 74088, 85088, 86088, 87088, 88088, 92088, 94088, 100088]) hF111 rfl)) (sg_F_m (L := [119, 120, 121, 126, 127, 128, 133, 134, 139, 140, 141, 142, 143, 144, 145, 146, 147, 148, 149, 47088, 50088, 63088, 71088, 74088, 85088, 86088, 87088, 88088, 92088, 94088, 100088]) hF114 rfl)), w⟩
            have lp102 : ∀ (n106 : Nat) (v91 : Int) (v92 : Int) (σ93 : sg_S), sg_R v91 → sg_R v92 → sg_F [142, 92088] σ88 σ93 → I95 n106 v91 v92 σ93 → wx z 4 236 465 [(0, .inr (.inr (.ref 88))), (1, .inl (a1)), (3, .inl ((sg_g σ 98 ((sg_g σ 126 (a1)))))), (4, .inl ((sg_g σ 128 (a1)))), (6, .inl ((sg_g σ 97 ((200 * (sg_g σ 126 (a1))))))), (8, .inl ((sg_g σ 133 (((sg_g σ 88 70) - 1))))), (9, .inl ((sg_g σ69 88 93))), (10, .inl (v91)), (11, .inl (v92))] [] σ93 (fun v σ' => v = none ∧ sg_F [119, 120, 121, 126, 127, 128, 133, 134, 139, 140, 141, 142, 143, 144, 145, 146, 147, 148, 149, 47088, 50088, 63088, 71088, 74088, 85088, 86088, 87088, 88088, 92088, 94088, 100088] σ σ' ∧ Q σ') := by
              intro n106
              induction n106 using Nat.strongRecOn with
              | _ n106 ih100 =>
                intro v91 v92 σ93 r98 r99 hF94 w
                have w := w104 n106 v91 v92 σ93 r98 r99 hF94 w
                refine wk_b tt_236 4 (pc' := 472) (ls' := [(0, .inr (.inr (.ref 88))), (1, .inl (a1)), (3, .inl ((sg_g σ 98 ((sg_g σ 126 (a1)))))), (4, .inl ((sg_g σ 128 (a1)))), (6, .inl ((sg_g σ 97 ((200 * (sg_g σ 126 (a1))))))), (8, .inl ((sg_g σ 133 (((sg_g σ 88 70) - 1))))), (9, .inl ((sg_g σ69 88 93))), (10, .inl (v91)), (11, .inl (v92))]) (st' := [.inl (a1), .inr (.inr (.ref 145)), .inl (v92)]) (σ' := σ93) rfl ?_
                refine wk_ia tt_236 rfl rfl c1.1 c1.2 ra1 ?_
                rw [show (sg_g σ93 145 (a1)) = (sg_g σ 145 (a1)) from by rw [sg_F_ga hF94 rfl, sg_F_ga hF90 rfl, sg_F_ga hF83 rfl, sg_F_ga hF76 rfl, sg_F_ga hF70 rfl, sg_F_ga hF64 rfl, sg_F_ga hF58 rfl, sg_F_ga hF52 rfl, sg_F_ga hF48 rfl, sg_F_ga hF6 rfl]]
                refine wk_if2 tt_236 (tgt := 557) rfl rfl r99 (sg_Rg _ _ _) (fun (h118 : (sg_g σ 145 (a1)) ≤ v92) => ?_) (fun (h118 : v92 < (sg_g σ 145 (a1))) => ?_)
                ·
                  have w := w.1 h118
                  exact wk_ls [(0, .inr (.inr (.ref 88))), (1, .inl (a1)), (3, .inl ((sg_g σ 98 ((sg_g σ 126 (a1)))))), (6, .inl ((sg_g σ 97 ((200 * (sg_g σ 126 (a1))))))), (9, .inl ((sg_g σ69 88 93)))] rfl ⟨rfl, rfl, rfl, rfl, rfl, trivial⟩ (ex107  σ93  (sg_F_t (sg_F_r [142, 92088] σ88) (sg_F_m (L := [142, 92088]) hF94 rfl)) w)
                ·
                  have w := w.2 h118
                  refine wk_b tt_236 4 (pc' := 482) (ls' := [(13, .inl (0)), (12, .inl (0)), (0, .inr (.inr (.ref 88))), (1, .inl (a1)), (3, .inl ((sg_g σ 98 ((sg_g σ 126 (a1)))))), (4, .inl ((sg_g σ 128 (a1)))), (6, .inl ((sg_g σ 97 ((200 * (sg_g σ 126 (a1))))))), (8, .inl ((sg_g σ 133 (((sg_g σ 88 70) - 1))))), (9, .inl ((sg_g σ69 88 93))), (10, .inl (v91)), (11, .inl (v92))]) (st' := []) (σ' := σ93) rfl ?_
                  obtain ⟨I124, X126, ⟨μ125, w133⟩, w134, w135⟩ := w
                  have ex137 : ∀ (v119 : Int) (v120 : Int), sg_R v119 → sg_R v120 → X126 v119 v120 → wx z 4 236 530 [(0, .inr (.inr (.ref 88))), (1, .inl (a1)), (3, .inl ((sg_g σ 98 ((sg_g σ 126 (a1)))))), (4, .inl ((sg_g σ 128 (a1)))), (6, .inl ((sg_g σ 97 ((200 * (sg_g σ 126 (a1))))))), (8, .inl ((sg_g σ 133 (((sg_g σ 88 70) - 1))))), (9, .inl ((sg_g σ69 88 93))), (10, .inl (v119)), (11, .inl (v92)), (12, .inl (v120))] [] σ93 (fun v σ' => v = none ∧ sg_F [119, 120, 121, 126, 127, 128, 133, 134, 139, 140, 141, 142, 143, 144, 145, 146, 147, 148, 149, 47088, 50088, 63088, 71088, 74088, 85088, 86088, 87088, 88088, 92088, 94088, 100088] σ σ' ∧ Q σ') := by
                    intro v119 v120 r127 r128 w
                    have w := w135 v119 v120 r127 r128 w
                    refine wk_b tt_236 5 (pc' := 540) (ls' := [(0, .inr (.inr (.ref 88))), (1, .inl (a1)), (3, .inl ((sg_g σ 98 ((sg_g σ 126 (a1)))))), (4, .inl ((sg_g σ 128 (a1)))), (6, .inl ((sg_g σ 97 ((200 * (sg_g σ 126 (a1))))))), (8, .inl ((sg_g σ 133 (((sg_g σ 88 70) - 1))))), (9, .inl ((sg_g σ69 88 93))), (10, .inl (v119)), (11, .inl (v92)), (12, .inl (v120))]) (st' := [.inl (v120), .inl ((sg_g σ93 88 91)), .inr (.inr (.ref 142))]) (σ' := σ93) rfl ?_
                    obtain ⟨c138, w⟩ := w
                    refine wk_is tt_236 rfl rfl c138.1 c138.2 (sg_Rg _ _ _) ?_
                    generalize hs140 : (sg_w σ93 142 ((sg_g σ93 88 91)) (v120)) = σ139
                    have w := w σ139 hs140.symm
                    have hF141 : sg_F [142] σ93 σ139 := by rw [← hs140]; exact sg_F_w (sg_F_r _ _) rfl _
                    obtain ⟨c142, w⟩ := w
                    refine wk_b tt_236 6 (pc' := 551) (ls' := [(0, .inr (.inr (.ref 88))), (1, .inl (a1)), (3, .inl ((sg_g σ 98 ((sg_g σ 126 (a1)))))), (4, .inl ((sg_g σ 128 (a1)))), (6, .inl ((sg_g σ 97 ((200 * (sg_g σ 126 (a1))))))), (8, .inl ((sg_g σ 133 (((sg_g σ 88 70) - 1))))), (9, .inl ((sg_g σ69 88 93))), (10, .inl (v119)), (11, .inl (v92)), (12, .inl (v120))]) (st' := []) (σ' := (sg_w σ139 88 91 (((sg_g σ139 88 91) + 1)))) rfl ?_
                    rw [show (sg_g σ139 88 91) = (sg_g σ93 88 91) from by rw [sg_F_ga hF141 rfl]]
                    generalize hs144 : (sg_w σ139 88 91 (((sg_g σ93 88 91) + 1))) = σ143
                    have w := w σ143 hs144.symm
                    have hF145 : sg_F [92088] σ139 σ143 := by rw [← hs144]; exact sg_F_w (sg_F_r _ _) rfl _
                    obtain ⟨c146, w⟩ := w
                    refine wk_b tt_236 2 (pc' := 465) (ls' := [(11, .inl ((v92 + 1))), (0, .inr (.inr (.ref 88))), (1, .inl (a1)), (3, .inl ((sg_g σ 98 ((sg_g σ 126 (a1)))))), (4, .inl ((sg_g σ 128 (a1)))), (6, .inl ((sg_g σ 97 ((200 * (sg_g σ 126 (a1))))))), (8, .inl ((sg_g σ 133 (((sg_g σ 88 70) - 1))))), (9, .inl ((sg_g σ69 88 93))), (10, .inl (v119)), (12, .inl (v120))]) (st' := []) (σ' := σ143) rfl ?_
                    obtain ⟨m147, hm147, w⟩ := w
                    exact wk_ls [(0, .inr (.inr (.ref 88))), (1, .inl (a1)), (3, .inl ((sg_g σ 98 ((sg_g σ 126 (a1)))))), (4, .inl ((sg_g σ 128 (a1)))), (6, .inl ((sg_g σ 97 ((200 * (sg_g σ 126 (a1))))))), (8, .inl ((sg_g σ 133 (((sg_g σ 88 70) - 1))))), (9, .inl ((sg_g σ69 88 93))), (10, .inl (v119)), (11, .inl ((v92 + 1)))] rfl ⟨rfl, rfl, rfl, rfl, rfl, rfl, rfl, rfl, rfl, trivial⟩ (ih100 m147 hm147 (v119) ((v92 + 1)) σ143 r127 c146 (sg_F_t (sg_F_t (sg_F_t (sg_F_r [142, 92088] σ88) (sg_F_m (L := [142, 92088]) hF94 rfl)) (sg_F_m (L := [142, 92088]) hF141 rfl)) (sg_F_m (L := [142, 92088]) hF145 rfl)) w)
                  have lp132 : ∀ (n136 : Nat) (v119 : Int) (v120 : Int) (v121 : Int), sg_R v119 → sg_R v120 → sg_R v121 → I124 n136 v119 v120 v121 → wx z 4 236 482 [(0, .inr (.inr (.ref 88))), (1, .inl (a1)), (3, .inl ((sg_g σ 98 ((sg_g σ 126 (a1)))))), (4, .inl ((sg_g σ 128 (a1)))), (6, .inl ((sg_g σ 97 ((200 * (sg_g σ 126 (a1))))))), (8, .inl ((sg_g σ 133 (((sg_g σ 88 70) - 1))))), (9, .inl ((sg_g σ69 88 93))), (10, .inl (v119)), (11, .inl (v92)), (12, .inl (v120)), (13, .inl (v121))] [] σ93 (fun v σ' => v = none ∧ sg_F [119, 120, 121, 126, 127, 128, 133, 134, 139, 140, 141, 142, 143, 144, 145, 146, 147, 148, 149, 47088, 50088, 63088, 71088, 74088, 85088, 86088, 87088, 88088, 92088, 94088, 100088] σ σ' ∧ Q σ') := by
                    intro n136
                    induction n136 using Nat.strongRecOn with
                    | _ n136 ih130 =>
                      intro v119 v120 v121 r127 r128 r129 w
                      have w := w134 n136 v119 v120 v121 r127 r128 r129 w
                      refine wk_b tt_236 5 (pc' := 491) (ls' := [(0, .inr (.inr (.ref 88))), (1, .inl (a1)), (3, .inl ((sg_g σ 98 ((sg_g σ 126 (a1)))))), (4, .inl ((sg_g σ 128 (a1)))), (6, .inl ((sg_g σ 97 ((200 * (sg_g σ 126 (a1))))))), (8, .inl ((sg_g σ 133 (((sg_g σ 88 70) - 1))))), (9, .inl ((sg_g σ69 88 93))), (10, .inl (v119)), (11, .inl (v92)), (12, .inl (v120)), (13, .inl (v121))]) (st' := [.inl ((sg_g σ 128 (a1))), .inr (.inr (.ref 133)), .inr (.inr (.ref 88)), .inl (v121)]) (σ' := σ93) rfl ?_
                      obtain ⟨c148, w⟩ := w
                      refine wk_ia tt_236 rfl rfl c148.1 c148.2 (sg_Rg _ _ _) ?_
                      rw [show (sg_g σ93 133 ((sg_g σ 128 (a1)))) = (sg_g σ 133 ((sg_g σ 128 (a1)))) from by rw [sg_F_ga hF94 rfl, sg_F_ga hF90 rfl, sg_F_ga hF83 rfl, sg_F_ga hF76 rfl, sg_F_ga hF70 rfl, sg_F_ga hF64 rfl, sg_F_ga hF58 rfl, sg_F_ga hF52 rfl, sg_F_ga hF48 rfl, sg_F_ga hF6 rfl]]
                      refine wk_b tt_236 1 (pc' := 494) (ls' := [(0, .inr (.inr (.ref 88))), (1, .inl (a1)), (3, .inl ((sg_g σ 98 ((sg_g σ 126 (a1)))))), (4, .inl ((sg_g σ 128 (a1)))), (6, .inl ((sg_g σ 97 ((200 * (sg_g σ 126 (a1))))))), (8, .inl ((sg_g σ 133 (((sg_g σ 88 70) - 1))))), (9, .inl ((sg_g σ69 88 93))), (10, .inl (v119)), (11, .inl (v92)), (12, .inl (v120)), (13, .inl (v121))]) (st' := [.inl (v92), .inl ((sg_g σ 133 ((sg_g σ 128 (a1))))), .inr (.inr (.ref 88)), .inl (v121)]) (σ' := σ93) rfl ?_
                      obtain ⟨c149, w⟩ := w
                      refine wk_callp tt_236 rfl rfl rfl rfl rfl tt_322 rfl (by decide) (w_rowAt z σ93 ((sg_g σ 133 ((sg_g σ 128 (a1))))) (v92) (sg_Rg _ _ _) r99 c149) ?_
                      have r150 := vr_rowAt σ93  ((sg_g σ 133 ((sg_g σ 128 (a1))))) (v92) (sg_Rg _ _ _) r99 c149
                      refine wk_if2 tt_236 (tgt := 530) rfl rfl r129 r150 (fun (h151 : (v_rowAt σ93 ((sg_g σ 133 ((sg_g σ 128 (a1))))) (v92)) ≤ v121) => ?_) (fun (h151 : v121 < (v_rowAt σ93 ((sg_g σ 133 ((sg_g σ 128 (a1))))) (v92))) => ?_)
                      ·
                        have w := w.1 h151
                        exact wk_ls [(0, .inr (.inr (.ref 88))), (1, .inl (a1)), (3, .inl ((sg_g σ 98 ((sg_g σ 126 (a1)))))), (4, .inl ((sg_g σ 128 (a1)))), (6, .inl ((sg_g σ 97 ((200 * (sg_g σ 126 (a1))))))), (8, .inl ((sg_g σ 133 (((sg_g σ 88 70) - 1))))), (9, .inl ((sg_g σ69 88 93))), (10, .inl (v119)), (11, .inl (v92)), (12, .inl (v120))] rfl ⟨rfl, rfl, rfl, rfl, rfl, rfl, rfl, rfl, rfl, rfl, trivial⟩ (ex137 (v119) (v120)  r127 r128  w)
                      ·
                        have w := w.2 h151
                        refine wk_b tt_236 4 (pc' := 507) (ls' := [(0, .inr (.inr (.ref 88))), (1, .inl (a1)), (3, .inl ((sg_g σ 98 ((sg_g σ 126 (a1)))))), (4, .inl ((sg_g σ 128 (a1)))), (6, .inl ((sg_g σ 97 ((200 * (sg_g σ 126 (a1))))))), (8, .inl ((sg_g σ 133 (((sg_g σ 88 70) - 1))))), (9, .inl ((sg_g σ69 88 93))), (10, .inl (v119)), (11, .inl (v92)), (12, .inl (v120)), (13, .inl (v121))]) (st' := [.inl (v119), .inl ((sg_g σ 133 (((sg_g σ 88 70) - 1)))), .inr (.inr (.ref 88)), .inl (v120)]) (σ' := σ93) rfl ?_
                        obtain ⟨c152, w⟩ := w
                        refine wk_callp tt_236 rfl rfl rfl rfl rfl tt_322 rfl (by decide) (w_rowAt z σ93 ((sg_g σ 133 (((sg_g σ 88 70) - 1)))) (v119) (sg_Rg _ _ _) r127 c152) ?_
                        have r153 := vr_rowAt σ93  ((sg_g σ 133 (((sg_g σ 88 70) - 1)))) (v119) (sg_Rg _ _ _) r127 c152
                        have jn155 : ∀ v156 : Int, v156 = (if (v_rowAt σ93 ((sg_g σ 133 (((sg_g σ 88 70) - 1)))) (v119)) = 0 then (0 : Int) else (1 : Int)) → sg_R v156 → wx z 4 236 518 [(0, .inr (.inr (.ref 88))), (1, .inl (a1)), (3, .inl ((sg_g σ 98 ((sg_g σ 126 (a1)))))), (4, .inl ((sg_g σ 128 (a1)))), (6, .inl ((sg_g σ 97 ((200 * (sg_g σ 126 (a1))))))), (8, .inl ((sg_g σ 133 (((sg_g σ 88 70) - 1))))), (9, .inl ((sg_g σ69 88 93))), (10, .inl (v119)), (11, .inl (v92)), (13, .inl (v121))] [.inl (v156), .inl (v120)] σ93 (fun v σ' => v = none ∧ sg_F [119, 120, 121, 126, 127, 128, 133, 134, 139, 140, 141, 142, 143, 144, 145, 146, 147, 148, 149, 47088, 50088, 63088, 71088, 74088, 85088, 86088, 87088, 88088, 92088, 94088, 100088] σ σ' ∧ Q σ') := by
                          intro v156 e158 r157
                          have w := w v156 e158 r157
                          obtain ⟨c159, w⟩ := w
                          obtain ⟨c160, w⟩ := w
                          obtain ⟨c161, w⟩ := w
                          refine wk_b tt_236 5 (pc' := 482) (ls' := [(13, .inl ((v121 + 1))), (10, .inl ((v119 + 1))), (12, .inl ((v120 + v156))), (0, .inr (.inr (.ref 88))), (1, .inl (a1)), (3, .inl ((sg_g σ 98 ((sg_g σ 126 (a1)))))), (4, .inl ((sg_g σ 128 (a1)))), (6, .inl ((sg_g σ 97 ((200 * (sg_g σ 126 (a1))))))), (8, .inl ((sg_g σ 133 (((sg_g σ 88 70) - 1))))), (9, .inl ((sg_g σ69 88 93))), (11, .inl (v92))]) (st' := []) (σ' := σ93) rfl ?_
                          obtain ⟨m162, hm162, w⟩ := w
                          exact wk_ls [(0, .inr (.inr (.ref 88))), (1, .inl (a1)), (3, .inl ((sg_g σ 98 ((sg_g σ 126 (a1)))))), (4, .inl ((sg_g σ 128 (a1)))), (6, .inl ((sg_g σ 97 ((200 * (sg_g σ 126 (a1))))))), (8, .inl ((sg_g σ 133 (((sg_g σ 88 70) - 1))))), (9, .inl ((sg_g σ69 88 93))), (10, .inl ((v119 + 1))), (11, .inl (v92)), (12, .inl ((v120 + v156))), (13, .inl ((v121 + 1)))] rfl ⟨rfl, rfl, rfl, rfl, rfl, rfl, rfl, rfl, rfl, rfl, rfl, trivial⟩ (ih130 m162 hm162 ((v119 + 1)) ((v120 + v156)) ((v121 + 1))  c160 c159 c161  w)
                        refine wk_if tt_236 (tgt := 517) rfl rfl r153 (fun (h154 : (v_rowAt σ93 ((sg_g σ 133 (((sg_g σ 88 70) - 1)))) (v119)) = 0) => ?_) (fun (h154 : ¬ (v_rowAt σ93 ((sg_g σ 133 (((sg_g σ 88 70) - 1)))) (v119)) = 0) => ?_)
                        ·
                          clear w
                          refine wk_b tt_236 1 (pc' := 518) (ls' := [(0, .inr (.inr (.ref 88))), (1, .inl (a1)), (3, .inl ((sg_g σ 98 ((sg_g σ 126 (a1)))))), (4, .inl ((sg_g σ 128 (a1)))), (6, .inl ((sg_g σ 97 ((200 * (sg_g σ 126 (a1))))))), (8, .inl ((sg_g σ 133 (((sg_g σ 88 70) - 1))))), (9, .inl ((sg_g σ69 88 93))), (10, .inl (v119)), (11, .inl (v92)), (12, .inl (v120)), (13, .inl (v121))]) (st' := [.inl (0), .inl (v120)]) (σ' := σ93) rfl ?_
                          exact wk_ls [(0, .inr (.inr (.ref 88))), (1, .inl (a1)), (3, .inl ((sg_g σ 98 ((sg_g σ 126 (a1)))))), (4, .inl ((sg_g σ 128 (a1)))), (6, .inl ((sg_g σ 97 ((200 * (sg_g σ 126 (a1))))))), (8, .inl ((sg_g σ 133 (((sg_g σ 88 70) - 1))))), (9, .inl ((sg_g σ69 88 93))), (10, .inl (v119)), (11, .inl (v92)), (13, .inl (v121))] rfl ⟨rfl, rfl, rfl, rfl, rfl, rfl, rfl, rfl, rfl, rfl, trivial⟩ (jn155 (0) (by simp only [if_pos h154]) (by decide))
                        ·
                          clear w
                          refine wk_b tt_236 2 (pc' := 518) (ls' := [(0, .inr (.inr (.ref 88))), (1, .inl (a1)), (3, .inl ((sg_g σ 98 ((sg_g σ 126 (a1)))))), (4, .inl ((sg_g σ 128 (a1)))), (6, .inl ((sg_g σ 97 ((200 * (sg_g σ 126 (a1))))))), (8, .inl ((sg_g σ 133 (((sg_g σ 88 70) - 1))))), (9, .inl ((sg_g σ69 88 93))), (10, .inl (v119)), (11, .inl (v92)), (12, .inl (v120)), (13, .inl (v121))]) (st' := [.inl (1), .inl (v120)]) (σ' := σ93) rfl ?_
                          exact wk_ls [(0, .inr (.inr (.ref 88))), (1, .inl (a1)), (3, .inl ((sg_g σ 98 ((sg_g σ 126 (a1)))))), (4, .inl ((sg_g σ 128 (a1)))), (6, .inl ((sg_g σ 97 ((200 * (sg_g σ 126 (a1))))))), (8, .inl ((sg_g σ 133 (((sg_g σ 88 70) - 1))))), (9, .inl ((sg_g σ69 88 93))), (10, .inl (v119)), (11, .inl (v92)), (13, .inl (v121))] rfl ⟨rfl, rfl, rfl, rfl, rfl, rfl, rfl, rfl, rfl, rfl, trivial⟩ (jn155 (1) (by simp only [if_neg (show ¬ ((v_rowAt σ93 ((sg_g σ 133 (((sg_g σ 88 70) - 1)))) (v119)) = 0) by omega)]) (by decide))
                  exact wk_ls [(0, .inr (.inr (.ref 88))), (1, .inl (a1)), (3, .inl ((sg_g σ 98 ((sg_g σ 126 (a1)))))), (4, .inl ((sg_g σ 128 (a1)))), (6, .inl ((sg_g σ 97 ((200 * (sg_g σ 126 (a1))))))), (8, .inl ((sg_g σ 133 (((sg_g σ 88 70) - 1))))), (9, .inl ((sg_g σ69 88 93))), (10, .inl (v91)), (11, .inl (v92)), (12, .inl (0)), (13, .inl (0))] rfl ⟨rfl, rfl, rfl, rfl, rfl, rfl, rfl, rfl, rfl, rfl, rfl, trivial⟩ (lp132 μ125 (v91) (0) (0)  r98 (by decide) (by decide)  w133)
            exact wk_ls [(0, .inr (.inr (.ref 88))), (1, .inl (a1)), (3, .inl ((sg_g σ 98 ((sg_g σ 126 (a1)))))), (4, .inl ((sg_g σ 128 (a1)))), (6, .inl ((sg_g σ 97 ((200 * (sg_g σ 126 (a1))))))), (8, .inl ((sg_g σ 133 (((sg_g σ 88 70) - 1))))), (9, .inl ((sg_g σ69 88 93))), (10, .inl (0)), (11, .inl (0))] rfl ⟨rfl, rfl, rfl, rfl, rfl, rfl, rfl, rfl, rfl, trivial⟩ (lp102 μ96 (0) (0) σ88 (by decide) (by decide) (sg_F_r _ _) w103)
          ·
            have w := w.2 h87
            exact wk_rV tt_236 rfl rfl ⟨rfl, (sg_F_t (sg_F_t (sg_F_t (sg_F_t (sg_F_t (sg_F_t (sg_F_t (sg_F_t (sg_F_r [119, 120, 121, 126, 127, 128, 133, 134, 139, 140, 141, 142, 143, 144, 145, 146, 147, 148, 149, 47088, 50088, 63088, 71088, 74088, 85088, 86088, 87088, 88088, 92088, 94088, 100088] σ) (sg_F_m (L := [119, 120, 121, 126, 127, 128, 133, 134, 139, 140, 141, 142, 143, 144, 145, 146, 147, 148, 149, 47088, 50088, 63088, 71088, 74088, 85088, 86088, 87088, 88088, 92088, 94088, 100088]) hF6 rfl)) (sg_F_m (L := [119, 120, 121, 126, 127, 128, 133, 134, 139, 140, 141, 142, 143, 144, 145, 146, 147, 148, 149, 47088, 50088, 63088, 71088, 74088, 85088, 86088, 87088, 88088, 92088, 94088, 100088]) hF48 rfl)) (sg_F_m (L := [119, 120, 121, 126, 127, 128, 133, 134, 139, 140, 141, 142, 143, 144, 145, 146, 147, 148, 149, 47088, 50088, 63088, 71088, 74088, 85088, 86088, 87088, 88088, 92088, 94088, 100088]) hF52 rfl)) (sg_F_m (L := [119, 120, 121, 126, 127, 128, 133, 134, 139, 140, 141, 142, 143, 144, 145, 146, 147, 148, 149, 47088, 50088, 63088, 71088, 74088, 85088, 86088, 87088, 88088, 92088, 94088, 100088]) hF58 rfl)) (sg_F_m (L := [119, 120, 121, 126, 127, 128, 133, 134, 139, 140, 141, 142, 143, 144, 145, 146, 147, 148, 149, 47088, 50088, 63088, 71088, 74088, 85088, 86088, 87088, 88088, 92088, 94088, 100088]) hF64 rfl)) (sg_F_m (L := [119, 120, 121, 126, 127, 128, 133, 134, 139, 140, 141, 142, 143, 144, 145, 146, 147, 148, 149, 47088, 50088, 63088, 71088, 74088, 85088, 86088, 87088, 88088, 92088, 94088, 100088]) hF70 rfl)) (sg_F_m (L := [119, 120, 121, 126, 127, 128, 133, 134, 139, 140, 141, 142, 143, 144, 145, 146, 147, 148, 149, 47088, 50088, 63088, 71088, 74088, 85088, 86088, 87088, 88088, 92088, 94088, 100088]) hF76 rfl)) (sg_F_m (L := [119, 120, 121, 126, 127, 128, 133, 134, 139, 140, 141, 142, 143, 144, 145, 146, 147, 148, 149, 47088, 50088, 63088, 71088, 74088, 85088, 86088, 87088, 88088, 92088, 94088, 100088]) hF83 rfl)), w⟩
    ·
      have w := w.2 h13
      refine wk_b tt_236 2 (pc' := 114) (ls' := [(8, .inl (0)), (7, .inl ((sg_g σ 97 ((((200 * (sg_g σ 126 (a1))) + (sg_g σ 96 ((sg_g σ 126 (a1))))) - 1))))), (6, .inl ((sg_g σ 97 ((200 * (sg_g σ 126 (a1))))))), (5, .inl ((sg_g σ 127 (a1)))), (4, .inl ((sg_g σ 128 (a1)))), (3, .inl ((sg_g σ 98 ((sg_g σ 126 (a1)))))), (2, .inl ((sg_g σ 126 (a1)))), (0, .inr (.inr (.ref 88))), (1, .inl (a1))]) (st' := []) (σ' := σ4) rfl ?_
      obtain ⟨I166, X168, ⟨μ167, w173⟩, w174, w175⟩ := w
      have ex177 : ∀ (σ164 : sg_S), sg_F [74088] σ4 σ164 → X168 σ164 → wx z 4 236 184 [(0, .inr (.inr (.ref 88))), (1, .inl (a1)), (2, .inl ((sg_g σ 126 (a1)))), (3, .inl ((sg_g σ 98 ((sg_g σ 126 (a1)))))), (4, .inl ((sg_g σ 128 (a1)))), (6, .inl ((sg_g σ 97 ((200 * (sg_g σ 126 (a1))))))), (7, .inl ((sg_g σ 97 ((((200 * (sg_g σ 126 (a1))) + (sg_g σ 96 ((sg_g σ 126 (a1))))) - 1)))))] [] σ164 (fun v σ' => v = none ∧ sg_F [119, 120, 121, 126, 127, 128, 133, 134, 139, 140, 141, 142, 143, 144, 145, 146, 147, 148, 149, 47088, 50088, 63088, 71088, 74088, 85088, 86088, 87088, 88088, 92088, 94088, 100088] σ σ' ∧ Q σ') := by
        intro σ164 hF165 w
        have w := w175 σ164 hF165 w
        refine wk_b tt_236 1 (pc' := 185) (ls' := [(0, .inr (.inr (.ref 88))), (1, .inl (a1)), (2, .inl ((sg_g σ 126 (a1)))), (3, .inl ((sg_g σ 98 ((sg_g σ 126 (a1)))))), (4, .inl ((sg_g σ 128 (a1)))), (6, .inl ((sg_g σ 97 ((200 * (sg_g σ 126 (a1))))))), (7, .inl ((sg_g σ 97 ((((200 * (sg_g σ 126 (a1))) + (sg_g σ 96 ((sg_g σ 126 (a1))))) - 1)))))]) (st' := [.inr (.inr (.ref 88))]) (σ' := σ164) rfl ?_
        refine wk_call tt_236 rfl rfl rfl rfl rfl tt_218 rfl (by decide) (w_clearInside z σ164  _  w) (fun u183 σ179 hq181 => ?_)
        obtain ⟨rfl, hF180, w⟩ := hq181
        have w := w hF180
        refine wk_b tt_236 2 (pc' := 191) (ls' := [(0, .inr (.inr (.ref 88))), (1, .inl (a1)), (2, .inl ((sg_g σ 126 (a1)))), (3, .inl ((sg_g σ 98 ((sg_g σ 126 (a1)))))), (4, .inl ((sg_g σ 128 (a1)))), (6, .inl ((sg_g σ 97 ((200 * (sg_g σ 126 (a1))))))), (7, .inl ((sg_g σ 97 ((((200 * (sg_g σ 126 (a1))) + (sg_g σ 96 ((sg_g σ 126 (a1))))) - 1)))))]) (st' := [.inl ((sg_g σ 97 ((200 * (sg_g σ 126 (a1)))))), .inr (.inr (.ref 88))]) (σ' := σ179) rfl ?_
        refine wk_call tt_236 rfl rfl rfl rfl rfl tt_290 rfl (by decide) (w_markInside z σ179 ((sg_g σ 97 ((200 * (sg_g σ 126 (a1)))))) _ (sg_Rg _ _ _) w) (fun u189 σ185 hq187 => ?_)
        obtain ⟨rfl, hF186, w⟩ := hq187
        have w := w hF186
        refine wk_b tt_236 2 (pc' := 196) (ls' := [(0, .inr (.inr (.ref 88))), (1, .inl (a1)), (2, .inl ((sg_g σ 126 (a1)))), (3, .inl ((sg_g σ 98 ((sg_g σ 126 (a1)))))), (4, .inl ((sg_g σ 128 (a1)))), (6, .inl ((sg_g σ 97 ((200 * (sg_g σ 126 (a1))))))), (7, .inl ((sg_g σ 97 ((((200 * (sg_g σ 126 (a1))) + (sg_g σ 96 ((sg_g σ 126 (a1))))) - 1)))))]) (st' := [.inl ((sg_g σ 126 (a1))), .inr (.inr (.ref 88))]) (σ' := σ185) rfl ?_
        obtain ⟨c190, w⟩ := w
        have c190 : p_hasTest σ185 ((sg_g σ 126 (a1))) := by
          rw [pF_hasTest hF186 rfl rfl, pF_hasTest hF180 rfl rfl, pF_hasTest hF165 rfl rfl, pF_hasTest hF6 rfl rfl]; exact c190
        refine wk_callp tt_236 rfl rfl rfl rfl rfl tt_257 rfl (by decide) (w_hasTest z σ185 ((sg_g σ 126 (a1))) (sg_Rg _ _ _) c190) ?_
        rw [vF_hasTest hF186 rfl rfl, vF_hasTest hF180 rfl rfl, vF_hasTest hF165 rfl rfl, vF_hasTest hF6 rfl rfl]
        obtain ⟨P193, w, w196⟩ := w
        have jn192 : ∀ (σ194 : sg_S), sg_F [120, 121, 50088] σ185 σ194 → P193 σ194 → wx z 4 236 208 [(0, .inr (.inr (.ref 88))), (1, .inl (a1)), (2, .inl ((sg_g σ 126 (a1)))), (3, .inl ((sg_g σ 98 ((sg_g σ 126 (a1)))))), (4, .inl ((sg_g σ 128 (a1)))), (6, .inl ((sg_g σ 97 ((200 * (sg_g σ 126 (a1))))))), (7, .inl ((sg_g σ 97 ((((200 * (sg_g σ 126 (a1))) + (sg_g σ 96 ((sg_g σ 126 (a1))))) - 1)))))] [] σ194 (fun v σ' => v = none ∧ sg_F [119, 120, 121, 126, 127, 128, 133, 134, 139, 140, 141, 142, 143, 144, 145, 146, 147, 148, 149, 47088, 50088, 63088, 71088, 74088, 85088, 86088, 87088, 88088, 92088, 94088, 100088] σ σ' ∧ Q σ') := by
          intro σ194 hF195 w
          have w := w196 σ194 hF195 w
          refine wk_b tt_236 2 (pc' := 210) (ls' := [(0, .inr (.inr (.ref 88))), (1, .inl (a1)), (2, .inl ((sg_g σ 126 (a1)))), (3, .inl ((sg_g σ 98 ((sg_g σ 126 (a1)))))), (4, .inl ((sg_g σ 128 (a1)))), (6, .inl ((sg_g σ 97 ((200 * (sg_g σ 126 (a1))))))), (7, .inl ((sg_g σ 97 ((((200 * (sg_g σ 126 (a1))) + (sg_g σ 96 ((sg_g σ 126 (a1))))) - 1)))))]) (st' := [.inl ((sg_g σ 126 (a1))), .inr (.inr (.ref 88))]) (σ' := σ194) rfl ?_
          refine wk_call tt_236 rfl rfl rfl rfl rfl tt_248 rfl (by decide) (w_gatherOutside z σ194 ((sg_g σ 126 (a1))) _ (sg_Rg _ _ _) w) (fun u202 σ198 hq200 => ?_)
          obtain ⟨rfl, hF199, w⟩ := hq200
          have w := w hF199
          refine wk_b tt_236 3 (pc' := 218) (ls' := [(0, .inr (.inr (.ref 88))), (1, .inl (a1)), (2, .inl ((sg_g σ 126 (a1)))), (3, .inl ((sg_g σ 98 ((sg_g σ 126 (a1)))))), (4, .inl ((sg_g σ 128 (a1)))), (6, .inl ((sg_g σ 97 ((200 * (sg_g σ 126 (a1))))))), (7, .inl ((sg_g σ 97 ((((200 * (sg_g σ 126 (a1))) + (sg_g σ 96 ((sg_g σ 126 (a1))))) - 1)))))]) (st' := []) (σ' := (sg_w σ198 88 93 (0))) rfl ?_
          generalize hs204 : (sg_w σ198 88 93 (0)) = σ203
          have w := w σ203 hs204.symm
          have hF205 : sg_F [94088] σ198 σ203 := by rw [← hs204]; exact sg_F_w (sg_F_r _ _) rfl _
          refine wk_b tt_236 2 (pc' := 221) (ls' := [(8, .inl (0)), (0, .inr (.inr (.ref 88))), (1, .inl (a1)), (2, .inl ((sg_g σ 126 (a1)))), (3, .inl ((sg_g σ 98 ((sg_g σ 126 (a1)))))), (4, .inl ((sg_g σ 128 (a1)))), (6, .inl ((sg_g σ 97 ((200 * (sg_g σ 126 (a1))))))), (7, .inl ((sg_g σ 97 ((((200 * (sg_g σ 126 (a1))) + (sg_g σ 96 ((sg_g σ 126 (a1))))) - 1)))))]) (st' := []) (σ' := σ203) rfl ?_
          obtain ⟨I209, X211, ⟨μ210, w216⟩, w217, w218⟩ := w
          have ex220 : ∀ (σ207 : sg_S), sg_F [143, 94088] σ203 σ207 → X211 σ207 → wx z 4 236 271 [(0, .inr (.inr (.ref 88))), (1, .inl (a1)), (2, .inl ((sg_g σ 126 (a1)))), (3, .inl ((sg_g σ 98 ((sg_g σ 126 (a1)))))), (4, .inl ((sg_g σ 128 (a1)))), (6, .inl ((sg_g σ 97 ((200 * (sg_g σ 126 (a1))))))), (7, .inl ((sg_g σ 97 ((((200 * (sg_g σ 126 (a1))) + (sg_g σ 96 ((sg_g σ 126 (a1))))) - 1)))))] [] σ207 (fun v σ' => v = none ∧ sg_F [119, 120, 121, 126, 127, 128, 133, 134, 139, 140, 141, 142, 143, 144, 145, 146, 147, 148, 149, 47088, 50088, 63088, 71088, 74088, 85088, 86088, 87088, 88088, 92088, 94088, 100088] σ σ' ∧ Q σ') := by
            intro σ207 hF208 w
            have w := w218 σ207 hF208 w
            refine wk_b tt_236 4 (pc' := 278) (ls' := [(8, .inl ((sg_g σ207 88 93))), (0, .inr (.inr (.ref 88))), (1, .inl (a1)), (2, .inl ((sg_g σ 126 (a1)))), (3, .inl ((sg_g σ 98 ((sg_g σ 126 (a1)))))), (4, .inl ((sg_g σ 128 (a1)))), (6, .inl ((sg_g σ 97 ((200 * (sg_g σ 126 (a1))))))), (7, .inl ((sg_g σ 97 ((((200 * (sg_g σ 126 (a1))) + (sg_g σ 96 ((sg_g σ 126 (a1))))) - 1)))))]) (st' := [.inr (.inr (.ref 88))]) (σ' := σ207) rfl ?_
            refine wk_call tt_236 rfl rfl rfl rfl rfl tt_217 rfl (by decide) (w_carried z σ207  _  w) (fun u226 σ222 hq224 => ?_)
            obtain ⟨q221, rfl, r225, hF223, w⟩ := hq224
            have w := w r225 hF223
            refine wk_if tt_236 (tgt := 285) rfl rfl (sg_Rz r225) (fun (h227 : ¬ q221 = 0) => ?_) (fun (h227 : q221 = 0) => ?_)
            ·
              have w := w.1 h227
              refine wk_b tt_236 2 (pc' := 288) (ls' := [(9, .inl (0)), (8, .inl ((sg_g σ207 88 93))), (0, .inr (.inr (.ref 88))), (1, .inl (a1)), (2, .inl ((sg_g σ 126 (a1)))), (3, .inl ((sg_g σ 98 ((sg_g σ 126 (a1)))))), (4, .inl ((sg_g σ 128 (a1)))), (6, .inl ((sg_g σ 97 ((200 * (sg_g σ 126 (a1))))))), (7, .inl ((sg_g σ 97 ((((200 * (sg_g σ 126 (a1))) + (sg_g σ 96 ((sg_g σ 126 (a1))))) - 1)))))]) (st' := []) (σ' := σ222) rfl ?_
              obtain ⟨I231, X233, ⟨μ232, w238⟩, w239, w240⟩ := w
              have ex242 : ∀ (σ229 : sg_S), sg_F [134, 139, 140, 141, 88088] σ222 σ229 → X233 σ229 → wx z 4 236 325 [(0, .inr (.inr (.ref 88))), (1, .inl (a1)), (2, .inl ((sg_g σ 126 (a1)))), (3, .inl ((sg_g σ 98 ((sg_g σ 126 (a1)))))), (6, .inl ((sg_g σ 97 ((200 * (sg_g σ 126 (a1))))))), (7, .inl ((sg_g σ 97 ((((200 * (sg_g σ 126 (a1))) + (sg_g σ 96 ((sg_g σ 126 (a1))))) - 1))))), (8, .inl ((sg_g σ207 88 93)))] [] σ229 (fun v σ' => v = none ∧ sg_F [119, 120, 121, 126, 127, 128, 133, 134, 139, 140, 141, 142, 143, 144, 145, 146, 147, 148, 149, 47088, 50088, 63088, 71088, 74088, 85088, 86088, 87088, 88088, 92088, 94088, 100088] σ σ' ∧ Q σ') := by
                intro σ229 hF230 w
                have w := w240 σ229 hF230 w
                refine wk_b tt_236 5 (pc' := 332) (ls' := [(0, .inr (.inr (.ref 88))), (1, .inl (a1)), (2, .inl ((sg_g σ 126 (a1)))), (3, .inl ((sg_g σ 98 ((sg_g σ 126 (a1)))))), (6, .inl ((sg_g σ 97 ((200 * (sg_g σ 126 (a1))))))), (7, .inl ((sg_g σ 97 ((((200 * (sg_g σ 126 (a1))) + (sg_g σ 96 ((sg_g σ 126 (a1))))) - 1))))), (8, .inl ((sg_g σ207 88 93)))]) (st' := [.inl ((sg_g σ 126 (a1))), .inr (.inr (.ref 88)), .inl (a1), .inr (.inr (.ref 127))]) (σ' := σ229) rfl ?_
                obtain ⟨c243, w⟩ := w
                have c243 : p_hasTest σ229 ((sg_g σ 126 (a1))) := by
                  rw [pF_hasTest hF230 rfl rfl, pF_hasTest hF223 rfl rfl, pF_hasTest hF208 rfl rfl, pF_hasTest hF205 rfl rfl, pF_hasTest hF199 rfl rfl, pF_hasTest hF195 rfl rfl, pF_hasTest hF186 rfl rfl, pF_hasTest hF180 rfl rfl, pF_hasTest hF165 rfl rfl, pF_hasTest hF6 rfl rfl]; exact c243
                refine wk_callp tt_236 rfl rfl rfl rfl rfl tt_257 rfl (by decide) (w_hasTest z σ229 ((sg_g σ 126 (a1))) (sg_Rg _ _ _) c243) ?_
                rw [vF_hasTest hF230 rfl rfl, vF_hasTest hF223 rfl rfl, vF_hasTest hF208 rfl rfl, vF_hasTest hF205 rfl rfl, vF_hasTest hF199 rfl rfl, vF_hasTest hF195 rfl rfl, vF_hasTest hF186 rfl rfl, vF_hasTest hF180 rfl rfl, vF_hasTest hF165 rfl rfl, vF_hasTest hF6 rfl rfl]
                obtain ⟨wp, w⟩ := w
                have jn245 : ∀ v246 : Int, v246 = (if (v_hasTest σ ((sg_g σ 126 (a1)))) = 0 then ((sg_g σ 98 ((sg_g σ 126 (a1)))) + 2) else ((sg_g σ 98 ((sg_g σ 126 (a1)))) + 1)) → sg_R v246 → wx z 4 236 347 [(0, .inr (.inr (.ref 88))), (2, .inl ((sg_g σ 126 (a1)))), (6, .inl ((sg_g σ 97 ((200 * (sg_g σ 126 (a1))))))), (7, .inl ((sg_g σ 97 ((((200 * (sg_g σ 126 (a1))) + (sg_g σ 96 ((sg_g σ 126 (a1))))) - 1))))), (8, .inl ((sg_g σ207 88 93)))] [.inl (v246), .inl (a1), .inr (.inr (.ref 127))] σ229 (fun v σ' => v = none ∧ sg_F [119, 120, 121, 126, 127, 128, 133, 134, 139, 140, 141, 142, 143, 144, 145, 146, 147, 148, 149, 47088, 50088, 63088, 71088, 74088, 85088, 86088, 87088, 88088, 92088, 94088, 100088] σ σ' ∧ Q σ') := by
                  intro v246 e248 r247
                  have w := w v246 e248 r247
                  refine wk_is tt_236 rfl rfl c1.1 c1.2 ra1 ?_
                  generalize hs250 : (sg_w σ229 127 (a1) (v246)) = σ249
                  have w := w σ249 hs250.symm
                  have hF251 : sg_F [127] σ229 σ249 := by rw [← hs250]; exact sg_F_w (sg_F_r _ _) rfl _
                  refine wk_b tt_236 3 (pc' := 351) (ls' := [(0, .inr (.inr (.ref 88))), (2, .inl ((sg_g σ 126 (a1)))), (6, .inl ((sg_g σ 97 ((200 * (sg_g σ 126 (a1))))))), (7, .inl ((sg_g σ 97 ((((200 * (sg_g σ 126 (a1))) + (sg_g σ 96 ((sg_g σ 126 (a1))))) - 1))))), (8, .inl ((sg_g σ207 88 93)))]) (st' := [.inl ((sg_g σ 126 (a1))), .inr (.inr (.ref 88)), .inr (.inr (.ref 88))]) (σ' := σ249) rfl ?_
                  obtain ⟨c252, w⟩ := w
                  have c252 : p_hasTest σ249 ((sg_g σ 126 (a1))) := by
                    rw [pF_hasTest hF251 rfl rfl, pF_hasTest hF230 rfl rfl, pF_hasTest hF223 rfl rfl, pF_hasTest hF208 rfl rfl, pF_hasTest hF205 rfl rfl, pF_hasTest hF199 rfl rfl, pF_hasTest hF195 rfl rfl, pF_hasTest hF186 rfl rfl, pF_hasTest hF180 rfl rfl, pF_hasTest hF165 rfl rfl, pF_hasTest hF6 rfl rfl]; exact c252
                  refine wk_callp tt_236 rfl rfl rfl rfl rfl tt_257 rfl (by decide) (w_hasTest z σ249 ((sg_g σ 126 (a1))) (sg_Rg _ _ _) c252) ?_
                  rw [vF_hasTest hF251 rfl rfl, vF_hasTest hF230 rfl rfl, vF_hasTest hF223 rfl rfl, vF_hasTest hF208 rfl rfl, vF_hasTest hF205 rfl rfl, vF_hasTest hF199 rfl rfl, vF_hasTest hF195 rfl rfl, vF_hasTest hF186 rfl rfl, vF_hasTest hF180 rfl rfl, vF_hasTest hF165 rfl rfl, vF_hasTest hF6 rfl rfl]
                  have jn254 : ∀ v255 : Int, v255 = (if (v_hasTest σ ((sg_g σ 126 (a1)))) = 0 then (sg_g σ 97 ((200 * (sg_g σ 126 (a1))))) else (sg_g σ 97 ((((200 * (sg_g σ 126 (a1))) + (sg_g σ 96 ((sg_g σ 126 (a1))))) - 1)))) → sg_R v255 → wx z 4 236 364 [(8, .inl ((sg_g σ207 88 93)))] [.inl (v255), .inr (.inr (.ref 88))] σ249 (fun v σ' => v = none ∧ sg_F [119, 120, 121, 126, 127, 128, 133, 134, 139, 140, 141, 142, 143, 144, 145, 146, 147, 148, 149, 47088, 50088, 63088, 71088, 74088, 85088, 86088, 87088, 88088, 92088, 94088, 100088] σ σ' ∧ Q σ') := by
                    intro v255 e257 r256
                    have w := w v255 e257 r256
                    refine wk_b tt_236 1 (pc' := 366) (ls' := [(8, .inl ((sg_g σ207 88 93)))]) (st' := [.inl ((sg_g σ207 88 93)), .inl (v255), .inr (.inr (.ref 88))]) (σ' := σ249) rfl ?_
                    refine wk_call tt_236 rfl rfl rfl rfl rfl tt_232 rfl (by decide) (w_flatBegin z σ249 (v255) ((sg_g σ207 88 93)) _ r256 (sg_Rg _ _ _) w) (fun u263 σ259 hq261 => ?_)
                    obtain ⟨rfl, hF260, w⟩ := hq261
                    have w := w hF260
                    exact wk_rV tt_236 rfl rfl ⟨rfl, (sg_F_t (sg_F_t (sg_F_t (sg_F_t (sg_F_t (sg_F_t (sg_F_t (sg_F_t (sg_F_t (sg_F_t (sg_F_t (sg_F_t (sg_F_r [119, 120, 121, 126, 127, 128, 133, 134, 139, 140, 141, 142, 143, 144, 145, 146, 147, 148, 149, 47088, 50088, 63088, 71088, 74088, 85088, 86088, 87088, 88088, 92088, 94088, 100088] σ) (sg_F_m (L := [119, 120, 121, 126, 127, 128, 133, 134, 139, 140, 141, 142, 143, 144, 145, 146, 147, 148, 149, 47088, 50088, 63088, 71088, 74088, 85088, 86088, 87088, 88088, 92088, 94088, 100088]) hF6 rfl)) (sg_F_m (L := [119, 120, 121, 126, 127, 128, 133, 134, 139, 140, 141, 142, 143, 144, 145, 146, 147, 148, 149, 47088, 50088, 63088, 71088, 74088, 85088, 86088, 87088, 88088, 92088, 94088, 100088]) hF165 rfl)) (sg_F_m (L := [119, 120, 121, 126, 127, 128, 133, 134, 139, 140, 141, 142, 143, 144, 145, 146, 147, 148, 149, 47088, 50088, 63088, 71088, 74088, 85088, 86088, 87088, 88088, 92088, 94088, 100088]) hF180 rfl)) (sg_F_m (L := [119, 120, 121, 126, 127, 128, 133, 134, 139, 140, 141, 142, 143, 144, 145, 146, 147, 148, 149, 47088, 50088, 63088, 71088, 74088, 85088, 86088, 87088, 88088, 92088, 94088, 100088]) hF186 rfl)) (sg_F_m (L := [119, 120, 121, 126, 127, 128, 133, 134, 139, 140, 141, 142, 143, 144, 145, 146, 147, 148, 149, 47088, 50088, 63088, 71088, 74088, 85088, 86088, 87088, 88088, 92088, 94088, 100088]) hF195 rfl)) (sg_F_m (L := [119, 120, 121, 126, 127, 128, 133, 134, 139, 140, 141, 142, 143, 144, 145, 146, 147, 148, 149, 47088, 50088, 63088, 71088, 74088, 85088, 86088, 87088, 88088, 92088, 94088, 100088]) hF199 rfl)) (sg_F_m (L := [119, 120, 121, 126, 127, 128, 133, 134, 139, 140, 141, 142, 143, 144, 145, 146, 147, 148, 149, 47088, 50088, 63088, 71088, 74088, 85088, 86088, 87088, 88088, 92088, 94088, 100088]) hF205 rfl)) (sg_F_m (L := [119, 120, 121, 126, 127, 128, 133, 134, 139, 140, 141, 142, 143, 144, 145, 146, 147, 148, 149, 47088, 50088, 63088, 71088, 74088, 85088, 86088, 87088, 88088, 92088, 94088, 100088]) hF208 rfl)) (sg_F_m (L := [119, 120, 121, 126, 127, 128, 133, 134, 139, 140, 141, 142, 143, 144, 145, 146, 147, 148, 149, 47088, 50088, 63088, 71088, 74088, 85088, 86088, 87088, 88088, 92088, 94088, 100088]) hF223 rfl)) (sg_F_m (L := [119, 120, 121, 126, 127, 128, 133, 134, 139, 140, 141, 142, 143, 144, 145, 146, 147, 148, 149, 47088, 50088, 63088, 71088, 74088, 85088, 86088, 87088, 88088, 92088, 94088, 100088]) hF230 rfl)) (sg_F_m (L := [119, 120, 121, 126, 127, 128, 133, 134, 139, 140, 141, 142, 143, 144, 145, 146, 147, 148, 149, 47088, 50088, 63088, 71088, 74088, 85088, 86088, 87088, 88088, 92088, 94088, 100088]) hF251 rfl)) (sg_F_m (L := [119, 120, 121, 126, 127, 128, 133, 134, 139, 140, 141, 142, 143, 144, 145, 146, 147, 148, 149, 47088, 50088, 63088, 71088, 74088, 85088, 86088, 87088, 88088, 92088, 94088, 100088]) hF260 rfl)), w⟩
                  refine wk_if tt_236 (tgt := 362) rfl rfl (sg_Rz (vz_hasTest ..)) (fun (h253 : (v_hasTest σ ((sg_g σ 126 (a1)))) = 0) => ?_) (fun (h253 : ¬ (v_hasTest σ ((sg_g σ 126 (a1)))) = 0) => ?_)
                  ·
                    clear w
                    refine wk_b tt_236 1 (pc' := 364) (ls' := [(0, .inr (.inr (.ref 88))), (2, .inl ((sg_g σ 126 (a1)))), (6, .inl ((sg_g σ 97 ((200 * (sg_g σ 126 (a1))))))), (7, .inl ((sg_g σ 97 ((((200 * (sg_g σ 126 (a1))) + (sg_g σ 96 ((sg_g σ 126 (a1))))) - 1))))), (8, .inl ((sg_g σ207 88 93)))]) (st' := [.inl ((sg_g σ 97 ((200 * (sg_g σ 126 (a1)))))), .inr (.inr (.ref 88))]) (σ' := σ249) rfl ?_
                    exact wk_ls [(8, .inl ((sg_g σ207 88 93)))] rfl ⟨rfl, trivial⟩ (jn254 ((sg_g σ 97 ((200 * (sg_g σ 126 (a1)))))) (by simp only [if_pos h253]) (sg_Rg _ _ _))
                  ·
                    clear w
                    refine wk_b tt_236 2 (pc' := 364) (ls' := [(0, .inr (.inr (.ref 88))), (2, .inl ((sg_g σ 126 (a1)))), (6, .inl ((sg_g σ 97 ((200 * (sg_g σ 126 (a1))))))), (7, .inl ((sg_g σ 97 ((((200 * (sg_g σ 126 (a1))) + (sg_g σ 96 ((sg_g σ 126 (a1))))) - 1))))), (8, .inl ((sg_g σ207 88 93)))]) (st' := [.inl ((sg_g σ 97 ((((200 * (sg_g σ 126 (a1))) + (sg_g σ 96 ((sg_g σ 126 (a1))))) - 1)))), .inr (.inr (.ref 88))]) (σ' := σ249) rfl ?_
                    exact wk_ls [(8, .inl ((sg_g σ207 88 93)))] rfl ⟨rfl, trivial⟩ (jn254 ((sg_g σ 97 ((((200 * (sg_g σ 126 (a1))) + (sg_g σ 96 ((sg_g σ 126 (a1))))) - 1)))) (by simp only [if_neg (show ¬ ((v_hasTest σ ((sg_g σ 126 (a1)))) = 0) by omega)]) (sg_Rg _ _ _))
                have w := wp
                refine wk_if tt_236 (tgt := 344) rfl rfl (sg_Rz (vz_hasTest ..)) (fun (h244 : (v_hasTest σ ((sg_g σ 126 (a1)))) = 0) => ?_) (fun (h244 : ¬ (v_hasTest σ ((sg_g σ 126 (a1)))) = 0) => ?_)
                ·
                  have w := w.1 h244
                  obtain ⟨c264, w⟩ := w
                  refine wk_b tt_236 3 (pc' := 347) (ls' := [(0, .inr (.inr (.ref 88))), (1, .inl (a1)), (2, .inl ((sg_g σ 126 (a1)))), (3, .inl ((sg_g σ 98 ((sg_g σ 126 (a1)))))), (6, .inl ((sg_g σ 97 ((200 * (sg_g σ 126 (a1))))))), (7, .inl ((sg_g σ 97 ((((200 * (sg_g σ 126 (a1))) + (sg_g σ 96 ((sg_g σ 126 (a1))))) - 1))))), (8, .inl ((sg_g σ207 88 93)))]) (st' := [.inl (((sg_g σ 98 ((sg_g σ 126 (a1)))) + 2)), .inl (a1), .inr (.inr (.ref 127))]) (σ' := σ229) rfl ?_
                  exact wk_ls [(0, .inr (.inr (.ref 88))), (2, .inl ((sg_g σ 126 (a1)))), (6, .inl ((sg_g σ 97 ((200 * (sg_g σ 126 (a1))))))), (7, .inl ((sg_g σ 97 ((((200 * (sg_g σ 126 (a1))) + (sg_g σ 96 ((sg_g σ 126 (a1))))) - 1))))), (8, .inl ((sg_g σ207 88 93)))] rfl ⟨rfl, rfl, rfl, rfl, rfl, trivial⟩ (jn245 (((sg_g σ 98 ((sg_g σ 126 (a1)))) + 2)) (by simp only [if_pos h244]) c264)
                ·
                  have w := w.2 h244
                  obtain ⟨c265, w⟩ := w
                  refine wk_b tt_236 4 (pc' := 347) (ls' := [(0, .inr (.inr (.ref 88))), (1, .inl (a1)), (2, .inl ((sg_g σ 126 (a1)))), (3, .inl ((sg_g σ 98 ((sg_g σ 126 (a1)))))), (6, .inl ((sg_g σ 97 ((200 * (sg_g σ 126 (a1))))))), (7, .inl ((sg_g σ 97 ((((200 * (sg_g σ 126 (a1))) + (sg_g σ 96 ((sg_g σ 126 (a1))))) - 1))))), (8, .inl ((sg_g σ207 88 93)))]) (st' := [.inl (((sg_g σ 98 ((sg_g σ 126 (a1)))) + 1)), .inl (a1), .inr (.inr (.ref 127))]) (σ' := σ229) rfl ?_
                  exact wk_ls [(0, .inr (.inr (.ref 88))), (2, .inl ((sg_g σ 126 (a1)))), (6, .inl ((sg_g σ 97 ((200 * (sg_g σ 126 (a1))))))), (7, .inl ((sg_g σ 97 ((((200 * (sg_g σ 126 (a1))) + (sg_g σ 96 ((sg_g σ 126 (a1))))) - 1))))), (8, .inl ((sg_g σ207 88 93)))] rfl ⟨rfl, rfl, rfl, rfl, rfl, trivial⟩ (jn245 (((sg_g σ 98 ((sg_g σ 126 (a1)))) + 1)) (by simp only [if_neg (show ¬ ((v_hasTest σ ((sg_g σ 126 (a1)))) = 0) by omega)]) c265)
              have lp237 : ∀ (n241 : Nat) (v228 : Int) (σ229 : sg_S), sg_R v228 → sg_F [134, 139, 140, 141, 88088] σ222 σ229 → I231 n241 v228 σ229 → wx z 4 236 288 [(0, .inr (.inr (.ref 88))), (1, .inl (a1)), (2, .inl ((sg_g σ 126 (a1)))), (3, .inl ((sg_g σ 98 ((sg_g σ 126 (a1)))))), (4, .inl ((sg_g σ 128 (a1)))), (6, .inl ((sg_g σ 97 ((200 * (sg_g σ 126 (a1))))))), (7, .inl ((sg_g σ 97 ((((200 * (sg_g σ 126 (a1))) + (sg_g σ 96 ((sg_g σ 126 (a1))))) - 1))))), (8, .inl ((sg_g σ207 88 93))), (9, .inl (v228))] [] σ229 (fun v σ' => v = none ∧ sg_F [119, 120, 121, 126, 127, 128, 133, 134, 139, 140, 141, 142, 143, 144, 145, 146, 147, 148, 149, 47088, 50088, 63088, 71088, 74088, 85088, 86088, 87088, 88088, 92088, 94088, 100088] σ σ' ∧ Q σ') := by
                intro n241
                induction n241 using Nat.strongRecOn with
                | _ n241 ih235 =>
                  intro v228 σ229 r234 hF230 w
                  have w := w239 n241 v228 σ229 r234 hF230 w
                  refine wk_b tt_236 2 (pc' := 291) (ls' := [(0, .inr (.inr (.ref 88))), (1, .inl (a1)), (2, .inl ((sg_g σ 126 (a1)))), (3, .inl ((sg_g σ 98 ((sg_g σ 126 (a1)))))), (4, .inl ((sg_g σ 128 (a1)))), (6, .inl ((sg_g σ 97 ((200 * (sg_g σ 126 (a1))))))), (7, .inl ((sg_g σ 97 ((((200 * (sg_g σ 126 (a1))) + (sg_g σ 96 ((sg_g σ 126 (a1))))) - 1))))), (8, .inl ((sg_g σ207 88 93))), (9, .inl (v228))]) (st' := [.inl ((sg_g σ 98 ((sg_g σ 126 (a1))))), .inl (v228)]) (σ' := σ229) rfl ?_
                  refine wk_if2 tt_236 (tgt := 325) rfl rfl r234 (sg_Rg _ _ _) (fun (h266 : (sg_g σ 98 ((sg_g σ 126 (a1)))) ≤ v228) => ?_) (fun (h266 : v228 < (sg_g σ 98 ((sg_g σ 126 (a1))))) => ?_)
                  ·
                    have w := w.1 h266
                    exact wk_ls [(0, .inr (.inr (.ref 88))), (1, .inl (a1)), (2, .inl ((sg_g σ 126 (a1)))), (3, .inl ((sg_g σ 98 ((sg_g σ 126 (a1)))))), (6, .inl ((sg_g σ 97 ((200 * (sg_g σ 126 (a1))))))), (7, .inl ((sg_g σ 97 ((((200 * (sg_g σ 126 (a1))) + (sg_g σ 96 ((sg_g σ 126 (a1))))) - 1))))), (8, .inl ((sg_g σ207 88 93)))] rfl ⟨rfl, rfl, rfl, rfl, rfl, rfl, rfl, trivial⟩ (ex242  σ229  (sg_F_t (sg_F_r [134, 139, 140, 141, 88088] σ222) (sg_F_m (L := [134, 139, 140, 141, 88088]) hF230 rfl)) w)
                  ·
                    have w := w.2 h266
                    refine wk_b tt_236 4 (pc' := 301) (ls' := [(0, .inr (.inr (.ref 88))), (1, .inl (a1)), (2, .inl ((sg_g σ 126 (a1)))), (3, .inl ((sg_g σ 98 ((sg_g σ 126 (a1)))))), (4, .inl ((sg_g σ 128 (a1)))), (6, .inl ((sg_g σ 97 ((200 * (sg_g σ 126 (a1))))))), (7, .inl ((sg_g σ 97 ((((200 * (sg_g σ 126 (a1))) + (sg_g σ 96 ((sg_g σ 126 (a1))))) - 1))))), (8, .inl ((sg_g σ207 88 93))), (9, .inl (v228))]) (st' := [.inl (v228), .inl ((sg_g σ 126 (a1))), .inr (.inr (.ref 134))]) (σ' := σ229) rfl ?_
                    obtain ⟨c267, w⟩ := w
                    refine wk_callp tt_236 rfl rfl rfl rfl rfl tt_297 rfl (by decide) (w_ofGen z σ229 ((sg_g σ 126 (a1))) (v228) (sg_Rg _ _ _) r234 c267) ?_
                    have r268 := vr_ofGen  ((sg_g σ 126 (a1))) (v228) (sg_Rg _ _ _) r234 c267
                    obtain ⟨c269, w⟩ := w
                    refine wk_b tt_236 6 (pc' := 314) (ls' := [(0, .inr (.inr (.ref 88))), (1, .inl (a1)), (2, .inl ((sg_g σ 126 (a1)))), (3, .inl ((sg_g σ 98 ((sg_g σ 126 (a1)))))), (4, .inl ((sg_g σ 128 (a1)))), (6, .inl ((sg_g σ 97 ((200 * (sg_g σ 126 (a1))))))), (7, .inl ((sg_g σ 97 ((((200 * (sg_g σ 126 (a1))) + (sg_g σ 96 ((sg_g σ 126 (a1))))) - 1))))), (8, .inl ((sg_g σ207 88 93))), (9, .inl (v228))]) (st' := [.inl (((sg_g σ 128 (a1)) + v228)), .inr (.inr (.ref 133)), .inr (.inr (.ref 88)), .inl ((v_ofGen ((sg_g σ 126 (a1))) (v228))), .inr (.inr (.ref 134))]) (σ' := σ229) rfl ?_
                    obtain ⟨c270, w⟩ := w
                    refine wk_ia tt_236 rfl rfl c270.1 c270.2 c269 ?_
                    rw [show (sg_g σ229 133 (((sg_g σ 128 (a1)) + v228))) = (sg_g σ 133 (((sg_g σ 128 (a1)) + v228))) from by rw [sg_F_ga hF230 rfl, sg_F_ga hF223 rfl, sg_F_ga hF208 rfl, sg_F_ga hF205 rfl, sg_F_ga hF199 rfl, sg_F_ga hF195 rfl, sg_F_ga hF186 rfl, sg_F_ga hF180 rfl, sg_F_ga hF165 rfl, sg_F_ga hF6 rfl]]
                    refine wk_call tt_236 rfl rfl rfl rfl rfl tt_259 rfl (by decide) (w_inner z σ229 ((sg_g σ 133 (((sg_g σ 128 (a1)) + v228)))) _ (sg_Rg _ _ _) w) (fun u276 σ272 hq274 => ?_)
                    obtain ⟨q271, rfl, r275, hF273, w⟩ := hq274
                    have w := w r275 hF273
                    obtain ⟨c277, w⟩ := w
                    refine wk_is tt_236 rfl rfl c277.1 c277.2 r268 ?_
                    generalize hs279 : (sg_w σ272 134 ((v_ofGen ((sg_g σ 126 (a1))) (v228))) (q271)) = σ278
                    have w := w σ278 hs279.symm
                    have hF280 : sg_F [134] σ272 σ278 := by rw [← hs279]; exact sg_F_w (sg_F_r _ _) rfl _
                    obtain ⟨c281, w⟩ := w
                    refine wk_b tt_236 2 (pc' := 288) (ls' := [(9, .inl ((v228 + 1))), (0, .inr (.inr (.ref 88))), (1, .inl (a1)), (2, .inl ((sg_g σ 126 (a1)))), (3, .inl ((sg_g σ 98 ((sg_g σ 126 (a1)))))), (4, .inl ((sg_g σ 128 (a1)))), (6, .inl ((sg_g σ 97 ((200 * (sg_g σ 126 (a1))))))), (7, .inl ((sg_g σ 97 ((((200 * (sg_g σ 126 (a1))) + (sg_g σ 96 ((sg_g σ 126 (a1))))) - 1))))), (8, .inl ((sg_g σ207 88 93)))]) (st' := []) (σ' := σ278) rfl ?_
                    obtain ⟨m282, hm282, w⟩ := w
                    exact wk_ls [(0, .inr (.inr (.ref 88))), (1, .inl (a1)), (2, .inl ((sg_g σ 126 (a1)))), (3, .inl ((sg_g σ 98 ((sg_g σ 126 (a1)))))), (4, .inl ((sg_g σ 128 (a1)))), (6, .inl ((sg_g σ 97 ((200 * (sg_g σ 126 (a1))))))), (7, .inl ((sg_g σ 97 ((((200 * (sg_g σ 126 (a1))) + (sg_g σ 96 ((sg_g σ 126 (a1))))) - 1))))), (8, .inl ((sg_g σ207 88 93))), (9, .inl ((v228 + 1)))] rfl ⟨rfl, rfl, rfl, rfl, rfl, rfl, rfl, rfl, rfl, trivial⟩ (ih235 m282 hm282 ((v228 + 1)) σ278 c281 (sg_F_t (sg_F_t (sg_F_t (sg_F_r [134, 139, 140, 141, 88088] σ222) (sg_F_m (L := [134, 139, 140, 141, 88088]) hF230 rfl)) (sg_F_m (L := [134, 139, 140, 141, 88088]) hF273 rfl)) (sg_F_m (L := [134, 139, 140, 141, 88088]) hF280 rfl)) w)
              exact wk_ls [(0, .inr (.inr (.ref 88))), (1, .inl (a1)), (2, .inl ((sg_g σ 126 (a1)))), (3, .inl ((sg_g σ 98 ((sg_g σ 126 (a1)))))), (4, .inl ((sg_g σ 128 (a1)))), (6, .inl ((sg_g σ 97 ((200 * (sg_g σ 126 (a1))))))), (7, .inl ((sg_g σ 97 ((((200 * (sg_g σ 126 (a1))) + (sg_g σ 96 ((sg_g σ 126 (a1))))) - 1))))), (8, .inl ((sg_g σ207 88 93))), (9, .inl (0))] rfl ⟨rfl, rfl, rfl, rfl, rfl, rfl, rfl, rfl, rfl, trivial⟩ (lp237 μ232 (0) σ222 (by decide) (sg_F_r _ _) w238)
            ·
              have w := w.2 h227
              exact wk_rV tt_236 rfl rfl ⟨rfl, (sg_F_t (sg_F_t (sg_F_t (sg_F_t (sg_F_t (sg_F_t (sg_F_t (sg_F_t (sg_F_t (sg_F_r [119, 120, 121, 126, 127, 128, 133, 134, 139, 140, 141, 142, 143, 144, 145, 146, 147, 148, 149, 47088, 50088, 63088, 71088, 74088, 85088, 86088, 87088, 88088, 92088, 94088, 100088] σ) (sg_F_m (L := [119, 120, 121, 126, 127, 128, 133, 134, 139, 140, 141, 142, 143, 144, 145, 146, 147, 148, 149, 47088, 50088, 63088, 71088, 74088, 85088, 86088, 87088, 88088, 92088, 94088, 100088]) hF6 rfl)) (sg_F_m (L := [119, 120, 121, 126, 127, 128, 133, 134, 139, 140, 141, 142, 143, 144, 145, 146, 147, 148, 149, 47088, 50088, 63088, 71088, 74088, 85088, 86088, 87088, 88088, 92088, 94088, 100088]) hF165 rfl)) (sg_F_m (L := [119, 120, 121, 126, 127, 128, 133, 134, 139, 140, 141, 142, 143, 144, 145, 146, 147, 148, 149, 47088, 50088, 63088, 71088, 74088, 85088, 86088, 87088, 88088, 92088, 94088, 100088]) hF180 rfl)) (sg_F_m (L := [119, 120, 121, 126, 127, 128, 133, 134, 139, 140, 141, 142, 143, 144, 145, 146, 147, 148, 149, 47088, 50088, 63088, 71088, 74088, 85088, 86088, 87088, 88088, 92088, 94088, 100088]) hF186 rfl)) (sg_F_m (L := [119, 120, 121, 126, 127, 128, 133, 134, 139, 140, 141, 142, 143, 144, 145, 146, 147, 148, 149, 47088, 50088, 63088, 71088, 74088, 85088, 86088, 87088, 88088, 92088, 94088, 100088]) hF195 rfl)) (sg_F_m (L := [119, 120, 121, 126, 127, 128, 133, 134, 139, 140, 141, 142, 143, 144, 145, 146, 147, 148, 149, 47088, 50088, 63088, 71088, 74088, 85088, 86088, 87088, 88088, 92088, 94088, 100088]) hF199 rfl)) (sg_F_m (L := [119, 120, 121, 126, 127, 128, 133, 134, 139, 140, 141, 142, 143, 144, 145, 146, 147, 148, 149, 47088, 50088, 63088, 71088, 74088, 85088, 86088, 87088, 88088, 92088, 94088, 100088]) hF205 rfl)) (sg_F_m (L := [119, 120, 121, 126, 127, 128, 133, 134, 139, 140, 141, 142, 143, 144, 145, 146, 147, 148, 149, 47088, 50088, 63088, 71088, 74088, 85088, 86088, 87088, 88088, 92088, 94088, 100088]) hF208 rfl)) (sg_F_m (L := [119, 120, 121, 126, 127, 128, 133, 134, 139, 140, 141, 142, 143, 144, 145, 146, 147, 148, 149, 47088, 50088, 63088, 71088, 74088, 85088, 86088, 87088, 88088, 92088, 94088, 100088]) hF223 rfl)), w⟩
          have lp215 : ∀ (n219 : Nat) (v206 : Int) (σ207 : sg_S), sg_R v206 → sg_F [143, 94088] σ203 σ207 → I209 n219 v206 σ207 → wx z 4 236 221 [(0, .inr (.inr (.ref 88))), (1, .inl (a1)), (2, .inl ((sg_g σ 126 (a1)))), (3, .inl ((sg_g σ 98 ((sg_g σ 126 (a1)))))), (4, .inl ((sg_g σ 128 (a1)))), (6, .inl ((sg_g σ 97 ((200 * (sg_g σ 126 (a1))))))), (7, .inl ((sg_g σ 97 ((((200 * (sg_g σ 126 (a1))) + (sg_g σ 96 ((sg_g σ 126 (a1))))) - 1))))), (8, .inl (v206))] [] σ207 (fun v σ' => v = none ∧ sg_F [119, 120, 121, 126, 127, 128, 133, 134, 139, 140, 141, 142, 143, 144, 145, 146, 147, 148, 149, 47088, 50088, 63088, 71088, 74088, 85088, 86088, 87088, 88088, 92088, 94088, 100088] σ σ' ∧ Q σ') := by
            intro n219
            induction n219 using Nat.strongRecOn with
            | _ n219 ih213 =>
              intro v206 σ207 r212 hF208 w
              have w := w217 n219 v206 σ207 r212 hF208 w
              refine wk_b tt_236 4 (pc' := 228) (ls' := [(0, .inr (.inr (.ref 88))), (1, .inl (a1)), (2, .inl ((sg_g σ 126 (a1)))), (3, .inl ((sg_g σ 98 ((sg_g σ 126 (a1)))))), (4, .inl ((sg_g σ 128 (a1)))), (6, .inl ((sg_g σ 97 ((200 * (sg_g σ 126 (a1))))))), (7, .inl ((sg_g σ 97 ((((200 * (sg_g σ 126 (a1))) + (sg_g σ 96 ((sg_g σ 126 (a1))))) - 1))))), (8, .inl (v206))]) (st' := [.inl (a1), .inr (.inr (.ref 145)), .inl (v206)]) (σ' := σ207) rfl ?_
              refine wk_ia tt_236 rfl rfl c1.1 c1.2 ra1 ?_
              rw [show (sg_g σ207 145 (a1)) = (sg_g σ 145 (a1)) from by rw [sg_F_ga hF208 rfl, sg_F_ga hF205 rfl, sg_F_ga hF199 rfl, sg_F_ga hF195 rfl, sg_F_ga hF186 rfl, sg_F_ga hF180 rfl, sg_F_ga hF165 rfl, sg_F_ga hF6 rfl]]
              refine wk_if2 tt_236 (tgt := 271) rfl rfl r212 (sg_Rg _ _ _) (fun (h283 : (sg_g σ 145 (a1)) ≤ v206) => ?_) (fun (h283 : v206 < (sg_g σ 145 (a1))) => ?_)
              ·
                have w := w.1 h283
                exact wk_ls [(0, .inr (.inr (.ref 88))), (1, .inl (a1)), (2, .inl ((sg_g σ 126 (a1)))), (3, .inl ((sg_g σ 98 ((sg_g σ 126 (a1)))))), (4, .inl ((sg_g σ 128 (a1)))), (6, .inl ((sg_g σ 97 ((200 * (sg_g σ 126 (a1))))))), (7, .inl ((sg_g σ 97 ((((200 * (sg_g σ 126 (a1))) + (sg_g σ 96 ((sg_g σ 126 (a1))))) - 1)))))] rfl ⟨rfl, rfl, rfl, rfl, rfl, rfl, rfl, trivial⟩ (ex220  σ207  (sg_F_t (sg_F_r [143, 94088] σ203) (sg_F_m (L := [143, 94088]) hF208 rfl)) w)
              ·
                have w := w.2 h283
                refine wk_b tt_236 2 (pc' := 235) (ls' := [(9, .inl (0)), (0, .inr (.inr (.ref 88))), (1, .inl (a1)), (2, .inl ((sg_g σ 126 (a1)))), (3, .inl ((sg_g σ 98 ((sg_g σ 126 (a1)))))), (4, .inl ((sg_g σ 128 (a1)))), (6, .inl ((sg_g σ 97 ((200 * (sg_g σ 126 (a1))))))), (7, .inl ((sg_g σ 97 ((((200 * (sg_g σ 126 (a1))) + (sg_g σ 96 ((sg_g σ 126 (a1))))) - 1))))), (8, .inl (v206))]) (st' := []) (σ' := σ207) rfl ?_
                obtain ⟨I287, X289, ⟨μ288, w294⟩, w295, w296⟩ := w
                have ex298 : ∀ (σ285 : sg_S), sg_F [143, 94088] σ207 σ285 → X289 σ285 → wx z 4 236 265 [(0, .inr (.inr (.ref 88))), (1, .inl (a1)), (2, .inl ((sg_g σ 126 (a1)))), (3, .inl ((sg_g σ 98 ((sg_g σ 126 (a1)))))), (4, .inl ((sg_g σ 128 (a1)))), (6, .inl ((sg_g σ 97 ((200 * (sg_g σ 126 (a1))))))), (7, .inl ((sg_g σ 97 ((((200 * (sg_g σ 126 (a1))) + (sg_g σ 96 ((sg_g σ 126 (a1))))) - 1))))), (8, .inl (v206))] [] σ285 (fun v σ' => v = none ∧ sg_F [119, 120, 121, 126, 127, 128, 133, 134, 139, 140, 141, 142, 143, 144, 145, 146, 147, 148, 149, 47088, 50088, 63088, 71088, 74088, 85088, 86088, 87088, 88088, 92088, 94088, 100088] σ σ' ∧ Q σ') := by
                  intro σ285 hF286 w
                  have w := w296 σ285 hF286 w
                  obtain ⟨c299, w⟩ := w
                  refine wk_b tt_236 2 (pc' := 221) (ls' := [(8, .inl ((v206 + 1))), (0, .inr (.inr (.ref 88))), (1, .inl (a1)), (2, .inl ((sg_g σ 126 (a1)))), (3, .inl ((sg_g σ 98 ((sg_g σ 126 (a1)))))), (4, .inl ((sg_g σ 128 (a1)))), (6, .inl ((sg_g σ 97 ((200 * (sg_g σ 126 (a1))))))), (7, .inl ((sg_g σ 97 ((((200 * (sg_g σ 126 (a1))) + (sg_g σ 96 ((sg_g σ 126 (a1))))) - 1)))))]) (st' := []) (σ' := σ285) rfl ?_
                  obtain ⟨m300, hm300, w⟩ := w
                  exact wk_ls [(0, .inr (.inr (.ref 88))), (1, .inl (a1)), (2, .inl ((sg_g σ 126 (a1)))), (3, .inl ((sg_g σ 98 ((sg_g σ 126 (a1)))))), (4, .inl ((sg_g σ 128 (a1)))), (6, .inl ((sg_g σ 97 ((200 * (sg_g σ 126 (a1))))))), (7, .inl ((sg_g σ 97 ((((200 * (sg_g σ 126 (a1))) + (sg_g σ 96 ((sg_g σ 126 (a1))))) - 1))))), (8, .inl ((v206 + 1)))] rfl ⟨rfl, rfl, rfl, rfl, rfl, rfl, rfl, rfl, trivial⟩ (ih213 m300 hm300 ((v206 + 1)) σ285 c299 (sg_F_t (sg_F_t (sg_F_r [143, 94088] σ203) (sg_F_m (L := [143, 94088]) hF208 rfl)) (sg_F_m (L := [143, 94088]) hF286 rfl)) w)
                have lp293 : ∀ (n297 : Nat) (v284 : Int) (σ285 : sg_S), sg_R v284 → sg_F [143, 94088] σ207 σ285 → I287 n297 v284 σ285 → wx z 4 236 235 [(0, .inr (.inr (.ref 88))), (1, .inl (a1)), (2, .inl ((sg_g σ 126 (a1)))), (3, .inl ((sg_g σ 98 ((sg_g σ 126 (a1)))))), (4, .inl ((sg_g σ 128 (a1)))), (6, .inl ((sg_g σ 97 ((200 * (sg_g σ 126 (a1))))))), (7, .inl ((sg_g σ 97 ((((200 * (sg_g σ 126 (a1))) + (sg_g σ 96 ((sg_g σ 126 (a1))))) - 1))))), (8, .inl (v206)), (9, .inl (v284))] [] σ285 (fun v σ' => v = none ∧ sg_F [119, 120, 121, 126, 127, 128, 133, 134, 139, 140, 141, 142, 143, 144, 145, 146, 147, 148, 149, 47088, 50088, 63088, 71088, 74088, 85088, 86088, 87088, 88088, 92088, 94088, 100088] σ σ' ∧ Q σ') := by
                  intro n297
                  induction n297 using Nat.strongRecOn with
                  | _ n297 ih291 =>
                    intro v284 σ285 r290 hF286 w
                    have w := w295 n297 v284 σ285 r290 hF286 w
                    refine wk_b tt_236 5 (pc' := 244) (ls' := [(0, .inr (.inr (.ref 88))), (1, .inl (a1)), (2, .inl ((sg_g σ 126 (a1)))), (3, .inl ((sg_g σ 98 ((sg_g σ 126 (a1)))))), (4, .inl ((sg_g σ 128 (a1)))), (6, .inl ((sg_g σ 97 ((200 * (sg_g σ 126 (a1))))))), (7, .inl ((sg_g σ 97 ((((200 * (sg_g σ 126 (a1))) + (sg_g σ 96 ((sg_g σ 126 (a1))))) - 1))))), (8, .inl (v206)), (9, .inl (v284))]) (st' := [.inl ((sg_g σ 128 (a1))), .inr (.inr (.ref 133)), .inr (.inr (.ref 88)), .inl (v284)]) (σ' := σ285) rfl ?_
                    obtain ⟨c301, w⟩ := w
                    refine wk_ia tt_236 rfl rfl c301.1 c301.2 (sg_Rg _ _ _) ?_
                    rw [show (sg_g σ285 133 ((sg_g σ 128 (a1)))) = (sg_g σ 133 ((sg_g σ 128 (a1)))) from by rw [sg_F_ga hF286 rfl, sg_F_ga hF208 rfl, sg_F_ga hF205 rfl, sg_F_ga hF199 rfl, sg_F_ga hF195 rfl, sg_F_ga hF186 rfl, sg_F_ga hF180 rfl, sg_F_ga hF165 rfl, sg_F_ga hF6 rfl]]
                    refine wk_b tt_236 1 (pc' := 247) (ls' := [(0, .inr (.inr (.ref 88))), (1, .inl (a1)), (2, .inl ((sg_g σ 126 (a1)))), (3, .inl ((sg_g σ 98 ((sg_g σ 126 (a1)))))), (4, .inl ((sg_g σ 128 (a1)))), (6, .inl ((sg_g σ 97 ((200 * (sg_g σ 126 (a1))))))), (7, .inl ((sg_g σ 97 ((((200 * (sg_g σ 126 (a1))) + (sg_g σ 96 ((sg_g σ 126 (a1))))) - 1))))), (8, .inl (v206)), (9, .inl (v284))]) (st' := [.inl (v206), .inl ((sg_g σ 133 ((sg_g σ 128 (a1))))), .inr (.inr (.ref 88)), .inl (v284)]) (σ' := σ285) rfl ?_
                    obtain ⟨c302, w⟩ := w
                    have c302 : p_rowAt σ285 ((sg_g σ 133 ((sg_g σ 128 (a1))))) (v206) := by
                      rw [pF_rowAt hF286 rfl rfl, pF_rowAt hF208 rfl rfl, pF_rowAt hF205 rfl rfl, pF_rowAt hF199 rfl rfl, pF_rowAt hF195 rfl rfl, pF_rowAt hF186 rfl rfl, pF_rowAt hF180 rfl rfl, pF_rowAt hF165 rfl rfl, pF_rowAt hF6 rfl rfl]; exact c302
                    refine wk_callp tt_236 rfl rfl rfl rfl rfl tt_322 rfl (by decide) (w_rowAt z σ285 ((sg_g σ 133 ((sg_g σ 128 (a1))))) (v206) (sg_Rg _ _ _) r212 c302) ?_
                    rw [vF_rowAt hF286 rfl rfl, vF_rowAt hF208 rfl rfl, vF_rowAt hF205 rfl rfl, vF_rowAt hF199 rfl rfl, vF_rowAt hF195 rfl rfl, vF_rowAt hF186 rfl rfl, vF_rowAt hF180 rfl rfl, vF_rowAt hF165 rfl rfl, vF_rowAt hF6 rfl rfl]
                    have r303 := vr_rowAt σ  ((sg_g σ 133 ((sg_g σ 128 (a1))))) (v206) (sg_Rg _ _ _) r212 (by have q := c302; rw [pF_rowAt hF286 rfl rfl, pF_rowAt hF208 rfl rfl, pF_rowAt hF205 rfl rfl, pF_rowAt hF199 rfl rfl, pF_rowAt hF195 rfl rfl, pF_rowAt hF186 rfl rfl, pF_rowAt hF180 rfl rfl, pF_rowAt hF165 rfl rfl, pF_rowAt hF6 rfl rfl] at q; exact q)
                    refine wk_if2 tt_236 (tgt := 265) rfl rfl r290 r303 (fun (h304 : (v_rowAt σ ((sg_g σ 133 ((sg_g σ 128 (a1))))) (v206)) ≤ v284) => ?_) (fun (h304 : v284 < (v_rowAt σ ((sg_g σ 133 ((sg_g σ 128 (a1))))) (v206))) => ?_)
                    ·
                      have w := w.1 h304
                      exact wk_ls [(0, .inr (.inr (.ref 88))), (1, .inl (a1)), (2, .inl ((sg_g σ 126 (a1)))), (3, .inl ((sg_g σ 98 ((sg_g σ 126 (a1)))))), (4, .inl ((sg_g σ 128 (a1)))), (6, .inl ((sg_g σ 97 ((200 * (sg_g σ 126 (a1))))))), (7, .inl ((sg_g σ 97 ((((200 * (sg_g σ 126 (a1))) + (sg_g σ 96 ((sg_g σ 126 (a1))))) - 1))))), (8, .inl (v206))] rfl ⟨rfl, rfl, rfl, rfl, rfl, rfl, rfl, rfl, trivial⟩ (ex298  σ285  (sg_F_t (sg_F_r [143, 94088] σ207) (sg_F_m (L := [143, 94088]) hF286 rfl)) w)
                    ·
                      have w := w.2 h304
                      refine wk_b tt_236 2 (pc' := 256) (ls' := [(0, .inr (.inr (.ref 88))), (1, .inl (a1)), (2, .inl ((sg_g σ 126 (a1)))), (3, .inl ((sg_g σ 98 ((sg_g σ 126 (a1)))))), (4, .inl ((sg_g σ 128 (a1)))), (6, .inl ((sg_g σ 97 ((200 * (sg_g σ 126 (a1))))))), (7, .inl ((sg_g σ 97 ((((200 * (sg_g σ 126 (a1))) + (sg_g σ 96 ((sg_g σ 126 (a1))))) - 1))))), (8, .inl (v206)), (9, .inl (v284))]) (st' := [.inl (v206), .inr (.inr (.ref 88))]) (σ' := σ285) rfl ?_
                      refine wk_call tt_236 rfl rfl rfl rfl rfl tt_280 rfl (by decide) (w_list z σ285 (v206) _ r212 w) (fun u310 σ306 hq308 => ?_)
                      obtain ⟨rfl, hF307, w⟩ := hq308
                      have w := w hF307
                      obtain ⟨c311, w⟩ := w
                      refine wk_b tt_236 2 (pc' := 235) (ls' := [(9, .inl ((v284 + 1))), (0, .inr (.inr (.ref 88))), (1, .inl (a1)), (2, .inl ((sg_g σ 126 (a1)))), (3, .inl ((sg_g σ 98 ((sg_g σ 126 (a1)))))), (4, .inl ((sg_g σ 128 (a1)))), (6, .inl ((sg_g σ 97 ((200 * (sg_g σ 126 (a1))))))), (7, .inl ((sg_g σ 97 ((((200 * (sg_g σ 126 (a1))) + (sg_g σ 96 ((sg_g σ 126 (a1))))) - 1))))), (8, .inl (v206))]) (st' := []) (σ' := σ306) rfl ?_
                      obtain ⟨m312, hm312, w⟩ := w
                      exact wk_ls [(0, .inr (.inr (.ref 88))), (1, .inl (a1)), (2, .inl ((sg_g σ 126 (a1)))), (3, .inl ((sg_g σ 98 ((sg_g σ 126 (a1)))))), (4, .inl ((sg_g σ 128 (a1)))), (6, .inl ((sg_g σ 97 ((200 * (sg_g σ 126 (a1))))))), (7, .inl ((sg_g σ 97 ((((200 * (sg_g σ 126 (a1))) + (sg_g σ 96 ((sg_g σ 126 (a1))))) - 1))))), (8, .inl (v206)), (9, .inl ((v284 + 1)))] rfl ⟨rfl, rfl, rfl, rfl, rfl, rfl, rfl, rfl, rfl, trivial⟩ (ih291 m312 hm312 ((v284 + 1)) σ306 c311 (sg_F_t (sg_F_t (sg_F_r [143, 94088] σ207) (sg_F_m (L := [143, 94088]) hF286 rfl)) (sg_F_m (L := [143, 94088]) hF307 rfl)) w)
                exact wk_ls [(0, .inr (.inr (.ref 88))), (1, .inl (a1)), (2, .inl ((sg_g σ 126 (a1)))), (3, .inl ((sg_g σ 98 ((sg_g σ 126 (a1)))))), (4, .inl ((sg_g σ 128 (a1)))), (6, .inl ((sg_g σ 97 ((200 * (sg_g σ 126 (a1))))))), (7, .inl ((sg_g σ 97 ((((200 * (sg_g σ 126 (a1))) + (sg_g σ 96 ((sg_g σ 126 (a1))))) - 1))))), (8, .inl (v206)), (9, .inl (0))] rfl ⟨rfl, rfl, rfl, rfl, rfl, rfl, rfl, rfl, rfl, trivial⟩ (lp293 μ288 (0) σ207 (by decide) (sg_F_r _ _) w294)
          exact wk_ls [(0, .inr (.inr (.ref 88))), (1, .inl (a1)), (2, .inl ((sg_g σ 126 (a1)))), (3, .inl ((sg_g σ 98 ((sg_g σ 126 (a1)))))), (4, .inl ((sg_g σ 128 (a1)))), (6, .inl ((sg_g σ 97 ((200 * (sg_g σ 126 (a1))))))), (7, .inl ((sg_g σ 97 ((((200 * (sg_g σ 126 (a1))) + (sg_g σ 96 ((sg_g σ 126 (a1))))) - 1))))), (8, .inl (0))] rfl ⟨rfl, rfl, rfl, rfl, rfl, rfl, rfl, rfl, trivial⟩ (lp215 μ210 (0) σ203 (by decide) (sg_F_r _ _) w216)
        refine wk_if tt_236 (tgt := 208) rfl rfl (sg_Rz (vz_hasTest ..)) (fun (h191 : (v_hasTest σ ((sg_g σ 126 (a1)))) = 0) => ?_) (fun (h191 : ¬ (v_hasTest σ ((sg_g σ 126 (a1)))) = 0) => ?_)
        ·
          have w := w.1 h191
          exact wk_ls [(0, .inr (.inr (.ref 88))), (1, .inl (a1)), (2, .inl ((sg_g σ 126 (a1)))), (3, .inl ((sg_g σ 98 ((sg_g σ 126 (a1)))))), (4, .inl ((sg_g σ 128 (a1)))), (6, .inl ((sg_g σ 97 ((200 * (sg_g σ 126 (a1))))))), (7, .inl ((sg_g σ 97 ((((200 * (sg_g σ 126 (a1))) + (sg_g σ 96 ((sg_g σ 126 (a1))))) - 1)))))] rfl ⟨rfl, rfl, rfl, rfl, rfl, rfl, rfl, trivial⟩ (jn192 σ185 (sg_F_r [120, 121, 50088] σ185) w)
        ·
          have w := w.2 h191
          refine wk_b tt_236 2 (pc' := 205) (ls' := [(0, .inr (.inr (.ref 88))), (1, .inl (a1)), (2, .inl ((sg_g σ 126 (a1)))), (3, .inl ((sg_g σ 98 ((sg_g σ 126 (a1)))))), (4, .inl ((sg_g σ 128 (a1)))), (6, .inl ((sg_g σ 97 ((200 * (sg_g σ 126 (a1))))))), (7, .inl ((sg_g σ 97 ((((200 * (sg_g σ 126 (a1))) + (sg_g σ 96 ((sg_g σ 126 (a1))))) - 1)))))]) (st' := [.inl ((sg_g σ 97 ((((200 * (sg_g σ 126 (a1))) + (sg_g σ 96 ((sg_g σ 126 (a1))))) - 1)))), .inr (.inr (.ref 88))]) (σ' := σ185) rfl ?_
          refine wk_call tt_236 rfl rfl rfl rfl rfl tt_290 rfl (by decide) (w_markInside z σ185 ((sg_g σ 97 ((((200 * (sg_g σ 126 (a1))) + (sg_g σ 96 ((sg_g σ 126 (a1))))) - 1)))) _ (sg_Rg _ _ _) w) (fun u318 σ314 hq316 => ?_)
          obtain ⟨rfl, hF315, w⟩ := hq316
          have w := w hF315
          exact wk_ls [(0, .inr (.inr (.ref 88))), (1, .inl (a1)), (2, .inl ((sg_g σ 126 (a1)))), (3, .inl ((sg_g σ 98 ((sg_g σ 126 (a1)))))), (4, .inl ((sg_g σ 128 (a1)))), (6, .inl ((sg_g σ 97 ((200 * (sg_g σ 126 (a1))))))), (7, .inl ((sg_g σ 97 ((((200 * (sg_g σ 126 (a1))) + (sg_g σ 96 ((sg_g σ 126 (a1))))) - 1)))))] rfl ⟨rfl, rfl, rfl, rfl, rfl, rfl, rfl, trivial⟩ (jn192 σ314 (sg_F_t (sg_F_r [120, 121, 50088] σ185) (sg_F_m (L := [120, 121, 50088]) hF315 rfl)) w)
      have lp172 : ∀ (n176 : Nat) (v163 : Int) (σ164 : sg_S), sg_R v163 → sg_F [74088] σ4 σ164 → I166 n176 v163 σ164 → wx z 4 236 114 [(0, .inr (.inr (.ref 88))), (1, .inl (a1)), (2, .inl ((sg_g σ 126 (a1)))), (3, .inl ((sg_g σ 98 ((sg_g σ 126 (a1)))))), (4, .inl ((sg_g σ 128 (a1)))), (6, .inl ((sg_g σ 97 ((200 * (sg_g σ 126 (a1))))))), (7, .inl ((sg_g σ 97 ((((200 * (sg_g σ 126 (a1))) + (sg_g σ 96 ((sg_g σ 126 (a1))))) - 1))))), (8, .inl (v163))] [] σ164 (fun v σ' => v = none ∧ sg_F [119, 120, 121, 126, 127, 128, 133, 134, 139, 140, 141, 142, 143, 144, 145, 146, 147, 148, 149, 47088, 50088, 63088, 71088, 74088, 85088, 86088, 87088, 88088, 92088, 94088, 100088] σ σ' ∧ Q σ') := by
        intro n176
        induction n176 using Nat.strongRecOn with
        | _ n176 ih170 =>
          intro v163 σ164 r169 hF165 w
          have w := w174 n176 v163 σ164 r169 hF165 w
          refine wk_b tt_236 4 (pc' := 121) (ls' := [(0, .inr (.inr (.ref 88))), (1, .inl (a1)), (2, .inl ((sg_g σ 126 (a1)))), (3, .inl ((sg_g σ 98 ((sg_g σ 126 (a1)))))), (4, .inl ((sg_g σ 128 (a1)))), (6, .inl ((sg_g σ 97 ((200 * (sg_g σ 126 (a1))))))), (7, .inl ((sg_g σ 97 ((((200 * (sg_g σ 126 (a1))) + (sg_g σ 96 ((sg_g σ 126 (a1))))) - 1))))), (8, .inl (v163))]) (st' := [.inl (a1), .inr (.inr (.ref 145)), .inl (v163)]) (σ' := σ164) rfl ?_
          refine wk_ia tt_236 rfl rfl c1.1 c1.2 ra1 ?_
          rw [show (sg_g σ164 145 (a1)) = (sg_g σ 145 (a1)) from by rw [sg_F_ga hF165 rfl, sg_F_ga hF6 rfl]]
          refine wk_if2 tt_236 (tgt := 184) rfl rfl r169 (sg_Rg _ _ _) (fun (h319 : (sg_g σ 145 (a1)) ≤ v163) => ?_) (fun (h319 : v163 < (sg_g σ 145 (a1))) => ?_)
          ·
            have w := w.1 h319
            exact wk_ls [(0, .inr (.inr (.ref 88))), (1, .inl (a1)), (2, .inl ((sg_g σ 126 (a1)))), (3, .inl ((sg_g σ 98 ((sg_g σ 126 (a1)))))), (4, .inl ((sg_g σ 128 (a1)))), (6, .inl ((sg_g σ 97 ((200 * (sg_g σ 126 (a1))))))), (7, .inl ((sg_g σ 97 ((((200 * (sg_g σ 126 (a1))) + (sg_g σ 96 ((sg_g σ 126 (a1))))) - 1)))))] rfl ⟨rfl, rfl, rfl, rfl, rfl, rfl, rfl, trivial⟩ (ex177  σ164  (sg_F_t (sg_F_r [74088] σ4) (sg_F_m (L := [74088]) hF165 rfl)) w)
          ·
            have w := w.2 h319
            refine wk_b tt_236 2 (pc' := 128) (ls' := [(9, .inl (1)), (0, .inr (.inr (.ref 88))), (1, .inl (a1)), (2, .inl ((sg_g σ 126 (a1)))), (3, .inl ((sg_g σ 98 ((sg_g σ 126 (a1)))))), (4, .inl ((sg_g σ 128 (a1)))), (6, .inl ((sg_g σ 97 ((200 * (sg_g σ 126 (a1))))))), (7, .inl ((sg_g σ 97 ((((200 * (sg_g σ 126 (a1))) + (sg_g σ 96 ((sg_g σ 126 (a1))))) - 1))))), (8, .inl (v163))]) (st' := []) (σ' := σ164) rfl ?_
            obtain ⟨I323, X325, ⟨μ324, w330⟩, w331, w332⟩ := w
            have ex334 : ∀ (σ321 : sg_S), sg_F [74088] σ164 σ321 → X325 σ321 → wx z 4 236 178 [(0, .inr (.inr (.ref 88))), (1, .inl (a1)), (2, .inl ((sg_g σ 126 (a1)))), (3, .inl ((sg_g σ 98 ((sg_g σ 126 (a1)))))), (4, .inl ((sg_g σ 128 (a1)))), (6, .inl ((sg_g σ 97 ((200 * (sg_g σ 126 (a1))))))), (7, .inl ((sg_g σ 97 ((((200 * (sg_g σ 126 (a1))) + (sg_g σ 96 ((sg_g σ 126 (a1))))) - 1))))), (8, .inl (v163))] [] σ321 (fun v σ' => v = none ∧ sg_F [119, 120, 121, 126, 127, 128, 133, 134, 139, 140, 141, 142, 143, 144, 145, 146, 147, 148, 149, 47088, 50088, 63088, 71088, 74088, 85088, 86088, 87088, 88088, 92088, 94088, 100088] σ σ' ∧ Q σ') := by
              intro σ321 hF322 w
              have w := w332 σ321 hF322 w
              obtain ⟨c335, w⟩ := w
              refine wk_b tt_236 2 (pc' := 114) (ls' := [(8, .inl ((v163 + 1))), (0, .inr (.inr (.ref 88))), (1, .inl (a1)), (2, .inl ((sg_g σ 126 (a1)))), (3, .inl ((sg_g σ 98 ((sg_g σ 126 (a1)))))), (4, .inl ((sg_g σ 128 (a1)))), (6, .inl ((sg_g σ 97 ((200 * (sg_g σ 126 (a1))))))), (7, .inl ((sg_g σ 97 ((((200 * (sg_g σ 126 (a1))) + (sg_g σ 96 ((sg_g σ 126 (a1))))) - 1)))))]) (st' := []) (σ' := σ321) rfl ?_
              obtain ⟨m336, hm336, w⟩ := w
              exact wk_ls [(0, .inr (.inr (.ref 88))), (1, .inl (a1)), (2, .inl ((sg_g σ 126 (a1)))), (3, .inl ((sg_g σ 98 ((sg_g σ 126 (a1)))))), (4, .inl ((sg_g σ 128 (a1)))), (6, .inl ((sg_g σ 97 ((200 * (sg_g σ 126 (a1))))))), (7, .inl ((sg_g σ 97 ((((200 * (sg_g σ 126 (a1))) + (sg_g σ 96 ((sg_g σ 126 (a1))))) - 1))))), (8, .inl ((v163 + 1)))] rfl ⟨rfl, rfl, rfl, rfl, rfl, rfl, rfl, rfl, trivial⟩ (ih170 m336 hm336 ((v163 + 1)) σ321 c335 (sg_F_t (sg_F_t (sg_F_r [74088] σ4) (sg_F_m (L := [74088]) hF165 rfl)) (sg_F_m (L := [74088]) hF322 rfl)) w)
            have lp329 : ∀ (n333 : Nat) (v320 : Int) (σ321 : sg_S), sg_R v320 → sg_F [74088] σ164 σ321 → I323 n333 v320 σ321 → wx z 4 236 128 [(0, .inr (.inr (.ref 88))), (1, .inl (a1)), (2, .inl ((sg_g σ 126 (a1)))), (3, .inl ((sg_g σ 98 ((sg_g σ 126 (a1)))))), (4, .inl ((sg_g σ 128 (a1)))), (6, .inl ((sg_g σ 97 ((200 * (sg_g σ 126 (a1))))))), (7, .inl ((sg_g σ 97 ((((200 * (sg_g σ 126 (a1))) + (sg_g σ 96 ((sg_g σ 126 (a1))))) - 1))))), (8, .inl (v163)), (9, .inl (v320))] [] σ321 (fun v σ' => v = none ∧ sg_F [119, 120, 121, 126, 127, 128, 133, 134, 139, 140, 141, 142, 143, 144, 145, 146, 147, 148, 149, 47088, 50088, 63088, 71088, 74088, 85088, 86088, 87088, 88088, 92088, 94088, 100088] σ σ' ∧ Q σ') := by
              intro n333
              induction n333 using Nat.strongRecOn with
              | _ n333 ih327 =>
                intro v320 σ321 r326 hF322 w
                have w := w331 n333 v320 σ321 r326 hF322 w
                refine wk_b tt_236 2 (pc' := 131) (ls' := [(0, .inr (.inr (.ref 88))), (1, .inl (a1)), (2, .inl ((sg_g σ 126 (a1)))), (3, .inl ((sg_g σ 98 ((sg_g σ 126 (a1)))))), (4, .inl ((sg_g σ 128 (a1)))), (6, .inl ((sg_g σ 97 ((200 * (sg_g σ 126 (a1))))))), (7, .inl ((sg_g σ 97 ((((200 * (sg_g σ 126 (a1))) + (sg_g σ 96 ((sg_g σ 126 (a1))))) - 1))))), (8, .inl (v163)), (9, .inl (v320))]) (st' := [.inl ((sg_g σ 98 ((sg_g σ 126 (a1))))), .inl (v320)]) (σ' := σ321) rfl ?_
                refine wk_if2 tt_236 (tgt := 178) rfl rfl r326 (sg_Rg _ _ _) (fun (h337 : (sg_g σ 98 ((sg_g σ 126 (a1)))) ≤ v320) => ?_) (fun (h337 : v320 < (sg_g σ 98 ((sg_g σ 126 (a1))))) => ?_)
                ·
                  have w := w.1 h337
                  exact wk_ls [(0, .inr (.inr (.ref 88))), (1, .inl (a1)), (2, .inl ((sg_g σ 126 (a1)))), (3, .inl ((sg_g σ 98 ((sg_g σ 126 (a1)))))), (4, .inl ((sg_g σ 128 (a1)))), (6, .inl ((sg_g σ 97 ((200 * (sg_g σ 126 (a1))))))), (7, .inl ((sg_g σ 97 ((((200 * (sg_g σ 126 (a1))) + (sg_g σ 96 ((sg_g σ 126 (a1))))) - 1))))), (8, .inl (v163))] rfl ⟨rfl, rfl, rfl, rfl, rfl, rfl, rfl, rfl, trivial⟩ (ex334  σ321  (sg_F_t (sg_F_r [74088] σ164) (sg_F_m (L := [74088]) hF322 rfl)) w)
                ·
                  have w := w.2 h337
                  refine wk_b tt_236 4 (pc' := 141) (ls' := [(0, .inr (.inr (.ref 88))), (1, .inl (a1)), (2, .inl ((sg_g σ 126 (a1)))), (3, .inl ((sg_g σ 98 ((sg_g σ 126 (a1)))))), (4, .inl ((sg_g σ 128 (a1)))), (6, .inl ((sg_g σ 97 ((200 * (sg_g σ 126 (a1))))))), (7, .inl ((sg_g σ 97 ((((200 * (sg_g σ 126 (a1))) + (sg_g σ 96 ((sg_g σ 126 (a1))))) - 1))))), (8, .inl (v163)), (9, .inl (v320))]) (st' := [.inl ((sg_g σ 128 (a1))), .inr (.inr (.ref 133)), .inr (.inr (.ref 88))]) (σ' := σ321) rfl ?_
                  obtain ⟨c338, w⟩ := w
                  refine wk_ia tt_236 rfl rfl c338.1 c338.2 (sg_Rg _ _ _) ?_
                  rw [show (sg_g σ321 133 ((sg_g σ 128 (a1)))) = (sg_g σ 133 ((sg_g σ 128 (a1)))) from by rw [sg_F_ga hF322 rfl, sg_F_ga hF165 rfl, sg_F_ga hF6 rfl]]
                  refine wk_b tt_236 1 (pc' := 144) (ls' := [(0, .inr (.inr (.ref 88))), (1, .inl (a1)), (2, .inl ((sg_g σ 126 (a1)))), (3, .inl ((sg_g σ 98 ((sg_g σ 126 (a1)))))), (4, .inl ((sg_g σ 128 (a1)))), (6, .inl ((sg_g σ 97 ((200 * (sg_g σ 126 (a1))))))), (7, .inl ((sg_g σ 97 ((((200 * (sg_g σ 126 (a1))) + (sg_g σ 96 ((sg_g σ 126 (a1))))) - 1))))), (8, .inl (v163)), (9, .inl (v320))]) (st' := [.inl (v163), .inl ((sg_g σ 133 ((sg_g σ 128 (a1))))), .inr (.inr (.ref 88))]) (σ' := σ321) rfl ?_
                  obtain ⟨c339, w⟩ := w
                  have c339 : p_rowAt σ321 ((sg_g σ 133 ((sg_g σ 128 (a1))))) (v163) := by
                    rw [pF_rowAt hF322 rfl rfl, pF_rowAt hF165 rfl rfl, pF_rowAt hF6 rfl rfl]; exact c339
                  refine wk_callp tt_236 rfl rfl rfl rfl rfl tt_322 rfl (by decide) (w_rowAt z σ321 ((sg_g σ 133 ((sg_g σ 128 (a1))))) (v163) (sg_Rg _ _ _) r169 c339) ?_
                  rw [vF_rowAt hF322 rfl rfl, vF_rowAt hF165 rfl rfl, vF_rowAt hF6 rfl rfl]
                  have r340 := vr_rowAt σ  ((sg_g σ 133 ((sg_g σ 128 (a1))))) (v163) (sg_Rg _ _ _) r169 (by have q := c339; rw [pF_rowAt hF322 rfl rfl, pF_rowAt hF165 rfl rfl, pF_rowAt hF6 rfl rfl] at q; exact q)
                  obtain ⟨c341, w⟩ := w
                  refine wk_b tt_236 6 (pc' := 157) (ls' := [(0, .inr (.inr (.ref 88))), (1, .inl (a1)), (2, .inl ((sg_g σ 126 (a1)))), (3, .inl ((sg_g σ 98 ((sg_g σ 126 (a1)))))), (4, .inl ((sg_g σ 128 (a1)))), (6, .inl ((sg_g σ 97 ((200 * (sg_g σ 126 (a1))))))), (7, .inl ((sg_g σ 97 ((((200 * (sg_g σ 126 (a1))) + (sg_g σ 96 ((sg_g σ 126 (a1))))) - 1))))), (8, .inl (v163)), (9, .inl (v320))]) (st' := [.inl (((sg_g σ 128 (a1)) + v320)), .inr (.inr (.ref 133)), .inr (.inr (.ref 88)), .inl ((v_rowAt σ ((sg_g σ 133 ((sg_g σ 128 (a1))))) (v163)))]) (σ' := σ321) rfl ?_
                  obtain ⟨c342, w⟩ := w
                  refine wk_ia tt_236 rfl rfl c342.1 c342.2 c341 ?_
                  rw [show (sg_g σ321 133 (((sg_g σ 128 (a1)) + v320))) = (sg_g σ 133 (((sg_g σ 128 (a1)) + v320))) from by rw [sg_F_ga hF322 rfl, sg_F_ga hF165 rfl, sg_F_ga hF6 rfl]]
                  refine wk_b tt_236 1 (pc' := 160) (ls' := [(0, .inr (.inr (.ref 88))), (1, .inl (a1)), (2, .inl ((sg_g σ 126 (a1)))), (3, .inl ((sg_g σ 98 ((sg_g σ 126 (a1)))))), (4, .inl ((sg_g σ 128 (a1)))), (6, .inl ((sg_g σ 97 ((200 * (sg_g σ 126 (a1))))))), (7, .inl ((sg_g σ 97 ((((200 * (sg_g σ 126 (a1))) + (sg_g σ 96 ((sg_g σ 126 (a1))))) - 1))))), (8, .inl (v163)), (9, .inl (v320))]) (st' := [.inl (v163), .inl ((sg_g σ 133 (((sg_g σ 128 (a1)) + v320)))), .inr (.inr (.ref 88)), .inl ((v_rowAt σ ((sg_g σ 133 ((sg_g σ 128 (a1))))) (v163)))]) (σ' := σ321) rfl ?_
                  obtain ⟨c343, w⟩ := w
                  have c343 : p_rowAt σ321 ((sg_g σ 133 (((sg_g σ 128 (a1)) + v320)))) (v163) := by
                    rw [pF_rowAt hF322 rfl rfl, pF_rowAt hF165 rfl rfl, pF_rowAt hF6 rfl rfl]; exact c343
                  refine wk_callp tt_236 rfl rfl rfl rfl rfl tt_322 rfl (by decide) (w_rowAt z σ321 ((sg_g σ 133 (((sg_g σ 128 (a1)) + v320)))) (v163) (sg_Rg _ _ _) r169 c343) ?_
                  rw [vF_rowAt hF322 rfl rfl, vF_rowAt hF165 rfl rfl, vF_rowAt hF6 rfl rfl]
                  have r344 := vr_rowAt σ  ((sg_g σ 133 (((sg_g σ 128 (a1)) + v320)))) (v163) (sg_Rg _ _ _) r169 (by have q := c343; rw [pF_rowAt hF322 rfl rfl, pF_rowAt hF165 rfl rfl, pF_rowAt hF6 rfl rfl] at q; exact q)
                  refine wk_if2 tt_236 (tgt := 172) rfl rfl r340 r344 (fun (h345 : (v_rowAt σ ((sg_g σ 133 ((sg_g σ 128 (a1))))) (v163)) = (v_rowAt σ ((sg_g σ 133 (((sg_g σ 128 (a1)) + v320)))) (v163))) => ?_) (fun (h345 : ¬ (v_rowAt σ ((sg_g σ 133 ((sg_g σ 128 (a1))))) (v163)) = (v_rowAt σ ((sg_g σ 133 (((sg_g σ 128 (a1)) + v320)))) (v163))) => ?_)
                  ·
                    have w := w.1 h345
                    obtain ⟨c346, w⟩ := w
                    refine wk_b tt_236 2 (pc' := 128) (ls' := [(9, .inl ((v320 + 1))), (0, .inr (.inr (.ref 88))), (1, .inl (a1)), (2, .inl ((sg_g σ 126 (a1)))), (3, .inl ((sg_g σ 98 ((sg_g σ 126 (a1)))))), (4, .inl ((sg_g σ 128 (a1)))), (6, .inl ((sg_g σ 97 ((200 * (sg_g σ 126 (a1))))))), (7, .inl ((sg_g σ 97 ((((200 * (sg_g σ 126 (a1))) + (sg_g σ 96 ((sg_g σ 126 (a1))))) - 1))))), (8, .inl (v163))]) (st' := []) (σ' := σ321) rfl ?_
                    obtain ⟨m347, hm347, w⟩ := w
                    exact wk_ls [(0, .inr (.inr (.ref 88))), (1, .inl (a1)), (2, .inl ((sg_g σ 126 (a1)))), (3, .inl ((sg_g σ 98 ((sg_g σ 126 (a1)))))), (4, .inl ((sg_g σ 128 (a1)))), (6, .inl ((sg_g σ 97 ((200 * (sg_g σ 126 (a1))))))), (7, .inl ((sg_g σ 97 ((((200 * (sg_g σ 126 (a1))) + (sg_g σ 96 ((sg_g σ 126 (a1))))) - 1))))), (8, .inl (v163)), (9, .inl ((v320 + 1)))] rfl ⟨rfl, rfl, rfl, rfl, rfl, rfl, rfl, rfl, rfl, trivial⟩ (ih327 m347 hm347 ((v320 + 1)) σ321 c346 (sg_F_t (sg_F_r [74088] σ164) (sg_F_m (L := [74088]) hF322 rfl)) w)
                  ·
                    have w := w.2 h345
                    refine wk_b tt_236 2 (pc' := 168) (ls' := [(0, .inr (.inr (.ref 88))), (1, .inl (a1)), (2, .inl ((sg_g σ 126 (a1)))), (3, .inl ((sg_g σ 98 ((sg_g σ 126 (a1)))))), (4, .inl ((sg_g σ 128 (a1)))), (6, .inl ((sg_g σ 97 ((200 * (sg_g σ 126 (a1))))))), (7, .inl ((sg_g σ 97 ((((200 * (sg_g σ 126 (a1))) + (sg_g σ 96 ((sg_g σ 126 (a1))))) - 1))))), (8, .inl (v163)), (9, .inl (v320))]) (st' := [.inl (3), .inr (.inr (.ref 88))]) (σ' := σ321) rfl ?_
                    refine wk_call tt_236 rfl rfl rfl rfl rfl tt_224 rfl (by decide) (w_ends z σ321 (3) _ (by decide) w) (fun u353 σ349 hq351 => ?_)
                    obtain ⟨rfl, hF350, w⟩ := hq351
                    have w := w hF350
                    exact wk_rV tt_236 rfl rfl ⟨rfl, (sg_F_t (sg_F_t (sg_F_t (sg_F_t (sg_F_r [119, 120, 121, 126, 127, 128, 133, 134, 139, 140, 141, 142, 143, 144, 145, 146, 147, 148, 149, 47088, 50088, 63088, 71088, 74088, 85088, 86088, 87088, 88088, 92088, 94088, 100088] σ) (sg_F_m (L := [119, 120, 121, 126, 127, 128, 133, 134, 139, 140, 141, 142, 143, 144, 145, 146, 147, 148, 149, 47088, 50088, 63088, 71088, 74088, 85088, 86088, 87088, 88088, 92088, 94088, 100088]) hF6 rfl)) (sg_F_m (L := [119, 120, 121, 126, 127, 128, 133, 134, 139, 140, 141, 142, 143, 144, 145, 146, 147, 148, 149, 47088, 50088, 63088, 71088, 74088, 85088, 86088, 87088, 88088, 92088, 94088, 100088]) hF165 rfl)) (sg_F_m (L := [119, 120, 121, 126, 127, 128, 133, 134, 139, 140, 141, 142, 143, 144, 145, 146, 147, 148, 149, 47088, 50088, 63088, 71088, 74088, 85088, 86088, 87088, 88088, 92088, 94088, 100088]) hF322 rfl)) (sg_F_m (L := [119, 120, 121, 126, 127, 128, 133, 134, 139, 140, 141, 142, 143, 144, 145, 146, 147, 148, 149, 47088, 50088, 63088, 71088, 74088, 85088, 86088, 87088, 88088, 92088, 94088, 100088]) hF350 rfl)), w⟩
            exact wk_ls [(0, .inr (.inr (.ref 88))), (1, .inl (a1)), (2, .inl ((sg_g σ 126 (a1)))), (3, .inl ((sg_g σ 98 ((sg_g σ 126 (a1)))))), (4, .inl ((sg_g σ 128 (a1)))), (6, .inl ((sg_g σ 97 ((200 * (sg_g σ 126 (a1))))))), (7, .inl ((sg_g σ 97 ((((200 * (sg_g σ 126 (a1))) + (sg_g σ 96 ((sg_g σ 126 (a1))))) - 1))))), (8, .inl (v163)), (9, .inl (1))] rfl ⟨rfl, rfl, rfl, rfl, rfl, rfl, rfl, rfl, rfl, trivial⟩ (lp329 μ324 (1) σ164 (by decide) (sg_F_r _ _) w330)
      exact wk_ls [(0, .inr (.inr (.ref 88))), (1, .inl (a1)), (2, .inl ((sg_g σ 126 (a1)))), (3, .inl ((sg_g σ 98 ((sg_g σ 126 (a1)))))), (4, .inl ((sg_g σ 128 (a1)))), (6, .inl ((sg_g σ 97 ((200 * (sg_g σ 126 (a1))))))), (7, .inl ((sg_g σ 97 ((((200 * (sg_g σ 126 (a1))) + (sg_g σ 96 ((sg_g σ 126 (a1))))) - 1))))), (8, .inl (0))] rfl ⟨rfl, rfl, rfl, rfl, rfl, rfl, rfl, rfl, trivial⟩ (lp172 μ167 (0) σ4 (by decide) (sg_F_r _ _) w173)
  ·
    have w := w.2 h7
    obtain ⟨c354, w⟩ := w
    obtain ⟨c355, w⟩ := w
    obtain ⟨c356, w⟩ := w
    refine wk_b tt_236 10 (pc' := 61) (ls' := [(5, .inl ((sg_g σ 127 (a1)))), (4, .inl ((sg_g σ 128 (a1)))), (3, .inl ((sg_g σ 98 ((sg_g σ 126 (a1)))))), (2, .inl ((sg_g σ 126 (a1)))), (0, .inr (.inr (.ref 88))), (1, .inl (a1))]) (st' := [.inl ((((200 * (sg_g σ 126 (a1))) + 1) + (sg_g σ 127 (a1)))), .inr (.inr (.ref 97)), .inr (.inr (.ref 88))]) (σ' := σ4) rfl ?_
    obtain ⟨c357, w⟩ := w
    refine wk_ia tt_236 rfl rfl c357.1 c357.2 c356 ?_
    rw [show (sg_g σ4 97 ((((200 * (sg_g σ 126 (a1))) + 1) + (sg_g σ 127 (a1))))) = (sg_g σ 97 ((((200 * (sg_g σ 126 (a1))) + 1) + (sg_g σ 127 (a1))))) from by rw [sg_F_ga hF6 rfl]]
    refine wk_b tt_236 3 (pc' := 67) (ls' := [(5, .inl ((sg_g σ 127 (a1)))), (4, .inl ((sg_g σ 128 (a1)))), (3, .inl ((sg_g σ 98 ((sg_g σ 126 (a1)))))), (2, .inl ((sg_g σ 126 (a1)))), (0, .inr (.inr (.ref 88))), (1, .inl (a1))]) (st' := [.inl (a1), .inr (.inr (.ref 145)), .inl ((sg_g σ 97 ((((200 * (sg_g σ 126 (a1))) + 1) + (sg_g σ 127 (a1)))))), .inr (.inr (.ref 88))]) (σ' := σ4) rfl ?_
    refine wk_ia tt_236 rfl rfl c1.1 c1.2 ra1 ?_
    rw [show (sg_g σ4 145 (a1)) = (sg_g σ 145 (a1)) from by rw [sg_F_ga hF6 rfl]]
    refine wk_call tt_236 rfl rfl rfl rfl rfl tt_232 rfl (by decide) (w_flatBegin z σ4 ((sg_g σ 97 ((((200 * (sg_g σ 126 (a1))) + 1) + (sg_g σ 127 (a1)))))) ((sg_g σ 145 (a1))) _ (sg_Rg _ _ _) (sg_Rg _ _ _) w) (fun u363 σ359 hq361 => ?_)
    obtain ⟨rfl, hF360, w⟩ := hq361
    have w := w hF360
    exact wk_rV tt_236 rfl rfl ⟨rfl, (sg_F_t (sg_F_t (sg_F_r [119, 120, 121, 126, 127, 128, 133, 134, 139, 140, 141, 142, 143, 144, 145, 146, 147, 148, 149, 47088, 50088, 63088, 71088, 74088, 85088, 86088, 87088, 88088, 92088, 94088, 100088] σ) (sg_F_m (L := [119, 120, 121, 126, 127, 128, 133, 134, 139, 140, 141, 142, 143, 144, 145, 146, 147, 148, 149, 47088, 50088, 63088, 71088, 74088, 85088, 86088, 87088, 88088, 92088, 94088, 100088]) hF6 rfl)) (sg_F_m (L := [119, 120, 121, 126, 127, 128, 133, 134, 139, 140, 141, 142, 143, 144, 145, 146, 147, 148, 149, 47088, 50088, 63088, 71088, 74088, 85088, 86088, 87088, 88088, 92088, 94088, 100088]) hF360 rfl)), w⟩
