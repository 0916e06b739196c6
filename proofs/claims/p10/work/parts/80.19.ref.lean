/-! Conditions of the reference's methods, by program (19). -/
-- NestedVectorsModel.flatWorked
def V_flatWorked_25 (σ : sg_S) (b1 : Int) (b3 : Int) (b4 : Int) (b5 : Int) (Q : Int → sg_S → Prop) : Prop := V_flatChosen σ (b1) (b4) (b5) (b3) (fun q1 σ2 => sg_R q1 → sg_F [135, 139, 140, 141, 142, 143, 144, 150, 74088, 85088, 86088, 88088, 92088, 94088, 103088, 104088] σ σ2 → Q (q1) σ2)
set_option maxHeartbeats 4000000 in
set_option maxRecDepth 8000 in
theorem w_flatWorked_25 (z : Value) (σ : sg_S) (b1 : Int) (b3 : Int) (b4 : Int) (b5 : Int) (Q : Int → sg_S → Prop) (rb1 : sg_R b1) (rb3 : sg_R b3) (rb4 : sg_R b4) (rb5 : sg_R b5) (w : V_flatWorked_25 σ b1 b3 b4 b5 Q) : wx z 4 246 324 [(0, .inr (.inr (.ref 88))), (1, .inl (b1)), (3, .inl (b3)), (4, .inl (b4)), (5, .inl (b5))] [] σ (fun v σ' => ∃ q, v = some (.inl q) ∧ sg_R q ∧ sg_F [135, 139, 140, 141, 142, 143, 144, 150, 74088, 85088, 86088, 88088, 92088, 94088, 103088, 104088] σ σ' ∧ Q q σ') := by
  unfold V_flatWorked_25 at w
  refine wk_b tt_246 5 (pc' := 331) (ls' := [(0, .inr (.inr (.ref 88))), (1, .inl (b1)), (3, .inl (b3)), (4, .inl (b4)), (5, .inl (b5))]) (st' := [.inl (b3), .inl (b5), .inl (b4), .inl (b1), .inr (.inr (.ref 88))]) (σ' := σ) rfl ?_
  refine wk_call tt_246 rfl rfl rfl rfl rfl tt_234 rfl (by decide) (w_flatChosen z σ (b1) (b4) (b5) (b3) _ rb1 rb4 rb5 rb3 w) (fun u6 σ2 hq4 => ?_)
  obtain ⟨q1, rfl, r5, hF3, w⟩ := hq4
  have w := w r5 hF3
  exact wk_rI tt_246 rfl rfl ⟨_, rfl, r5, (sg_F_t (sg_F_r [135, 139, 140, 141, 142, 143, 144, 150, 74088, 85088, 86088, 88088, 92088, 94088, 103088, 104088] σ) (sg_F_m (L := [135, 139, 140, 141, 142, 143, 144, 150, 74088, 85088, 86088, 88088, 92088, 94088, 103088, 104088]) hF3 rfl)), w⟩
-- NestedVectorsModel.flatPart
def V_flatPart (σ : sg_S) (a1 : Int) (a2 : Int) (a3 : Int) (Q : Int → sg_S → Prop) : Prop := sg_R (4 * a2) ∧ sg_R ((4 * a2) + 1) ∧ (0 ≤ ((4 * a2) + 1) ∧ ((4 * a2) + 1) < 120000) ∧ (∃ (I9 : Nat → Int → Int → Int → sg_S → Prop) (X11 : Int → sg_S → Prop), (∃ n, I9 n ((sg_g σ 140 (((4 * a2) + 1)))) (a3) (0) σ) ∧ (∀ (n21 : Nat) (v4 : Int) (v5 : Int) (v6 : Int) (σ7 : sg_S), sg_R v4 → sg_RL v5 → sg_R v6 → sg_F [150, 103088, 104088] σ σ7 → I9 n21 v4 v5 v6 σ7 → ((a3 ≤ v6 → X11 (v5) σ7) ∧ (v6 < a3 → (∃ (I149 : Nat → Int → Int → Int → Prop) (X151 : Int → Int → Prop), (∃ n, I149 n (0) (0) (0)) ∧ (∀ (n161 : Nat) (v144 : Int) (v145 : Int) (v146 : Int), sg_RL v144 → sg_R v145 → sg_R v146 → I149 n161 v144 v145 v146 → p_rowAt σ (a2) (v6) ∧ (((v_rowAt σ (a2) (v6)) ≤ v146 → X151 (v144) (v145)) ∧ (v146 < (v_rowAt σ (a2) (v6)) → sg_R (v4 + v146) ∧ (0 ≤ (v4 + v146) ∧ (v4 + v146) < 60000) ∧ sg_RL (v144 + (sg_g σ 142 ((v4 + v146)))) ∧ ((¬ v145 = 0 → True) ∧ (v145 = 0 → ((0 ≤ (sg_g σ 142 ((v4 + v146))) → True) ∧ ((sg_g σ 142 ((v4 + v146))) < 0 → True)))) ∧ ∀ v220 : Int, v220 = (if ¬ v145 = 0 then (1 : Int) else (if 0 ≤ (sg_g σ 142 ((v4 + v146))) then (0 : Int) else (1 : Int))) → sg_R v220 → sg_R (v146 + 1) ∧ (∃ m, m < n161 ∧ I149 m ((v144 + (sg_g σ 142 ((v4 + v146))))) (v220) ((v146 + 1)))))) ∧ (∀ (v144 : Int) (v145 : Int), sg_RL v144 → sg_R v145 → X151 v144 v145 → ((¬ v145 = 0 → True) ∧ (v145 = 0 → p_rowAt σ (a1) (v6) ∧ ((¬ v144 = (v_rowAt σ (a1) (v6)) → True) ∧ (v144 = (v_rowAt σ (a1) (v6)) → True)))) ∧ ∀ v165 : Int, v165 = (if ¬ v145 = 0 then (0 : Int) else (if ¬ v144 = (v_rowAt σ (a1) (v6)) then (0 : Int) else (1 : Int))) → sg_R v165 → (∃ P170 : sg_S → Prop, ((¬ v165 = 0 → P170 σ7) ∧ (v165 = 0 → ∀ v200 : Int, v200 = (if v145 = 0 then (3 : Int) else (5 : Int)) → sg_R v200 → V_lacks σ7 (v6) (v200) (fun σ204 => sg_F [103088, 104088] σ7 σ204 → P170 σ204))) ∧ (∀ (σ171 : sg_S), sg_F [103088, 104088] σ7 σ171 → P170 σ171 → ((v165 = 0 → True) ∧ (¬ v165 = 0 → p_rowAt σ (a2) (v6) ∧ True)) ∧ ∀ v176 : Int, v176 = (if v165 = 0 then ((-1) : Int) else (v_rowAt σ (a2) (v6))) → sg_R v176 → (0 ≤ v6 ∧ v6 < 13000) ∧ ∀ σ180, σ180 = (sg_w σ171 150 (v6) (v176)) → ((v165 = 0 → True) ∧ (¬ v165 = 0 → p_rowAt σ (a2) (v6) ∧ True)) ∧ ∀ v185 : Int, v185 = (if v165 = 0 then (0 : Int) else (v_rowAt σ (a2) (v6))) → sg_RL v185 → sg_RL (v5 + v185) ∧ p_rowAt σ (a2) (v6) ∧ sg_R (v4 + (v_rowAt σ (a2) (v6))) ∧ sg_R (v6 + 1) ∧ (∃ m, m < n21 ∧ I9 m ((v4 + (v_rowAt σ (a2) (v6)))) ((v5 + v185)) ((v6 + 1)) σ180)))))))) ∧ (∀ (v5 : Int) (σ7 : sg_S), sg_RL v5 → sg_F [150, 103088, 104088] σ σ7 → X11 v5 σ7 → V_inner σ7 (a1) (fun q23 σ24 => sg_R q23 → sg_F [139, 140, 141, 88088] σ7 σ24 → ∀ σ29, σ29 = (sg_w σ24 88 93 (0)) → V_listItems σ29 (a1) (a3) (fun σ33 => sg_F [143, 94088] σ29 σ33 → V_extentOfLanes σ33 (q23) (fun q38 σ39 => sg_RL q38 → sg_F [144] σ33 σ39 → sg_RL (v5 + q38) ∧ V_stepped σ39 ((v5 + q38)) (fun q45 σ46 => (q45 = 0 ∨ q45 = 1) → sg_F [74088, 85088, 86088] σ39 σ46 → ((¬ q45 = 0 → V_gathered σ46 (q23) (fun q52 σ53 => sg_R q52 → sg_F [139, 140, 141, 142, 144, 88088, 92088] σ46 σ53 → (∃ (I62 : Nat → Int → Int → sg_S → Prop) (X64 : sg_S → Prop), (∃ n, I62 n ((sg_g σ53 140 (((4 * a2) + 1)))) (0) σ53) ∧ (∀ (n73 : Nat) (v58 : Int) (v59 : Int) (σ60 : sg_S), sg_R v58 → sg_R v59 → sg_F [142, 150, 92088] σ53 σ60 → I62 n73 v58 v59 σ60 → ((a3 ≤ v59 → X64 σ60) ∧ (v59 < a3 → (∃ (I99 : Nat → Int → Int → sg_S → Prop) (X101 : Int → sg_S → Prop), (∃ n, I99 n (v58) (0) σ60) ∧ (∀ (n110 : Nat) (v95 : Int) (v96 : Int) (σ97 : sg_S), sg_R v95 → sg_R v96 → sg_F [142, 92088] σ60 σ97 → I99 n110 v95 v96 σ97 → p_rowAt σ97 (a2) (v59) ∧ (((v_rowAt σ97 (a2) (v59)) ≤ v96 → X101 (v95) σ97) ∧ (v96 < (v_rowAt σ97 (a2) (v59)) → (0 ≤ v59 ∧ v59 < 13000) ∧ (∃ P129 : sg_S → Prop, (((sg_g σ60 150 (v59)) < 0 → P129 σ97) ∧ (0 ≤ (sg_g σ60 150 (v59)) → (0 ≤ v95 ∧ v95 < 60000) ∧ V_put σ97 ((sg_g σ97 142 (v95))) (fun σ138 => sg_F [142, 92088] σ97 σ138 → P129 σ138))) ∧ (∀ (σ130 : sg_S), sg_F [142, 92088] σ97 σ130 → P129 σ130 → sg_R (v95 + 1) ∧ sg_R (v96 + 1) ∧ (∃ m, m < n110 ∧ I99 m ((v95 + 1)) ((v96 + 1)) σ130)))))) ∧ (∀ (v95 : Int) (σ97 : sg_S), sg_R v95 → sg_F [142, 92088] σ60 σ97 → X101 v95 σ97 → (0 ≤ v59 ∧ v59 < 13000) ∧ ∀ v115 : Int, v115 = (if 0 ≤ (sg_g σ60 150 (v59)) then (sg_g σ60 150 (v59)) else (0 : Int)) → sg_R v115 → ∀ σ118, σ118 = (sg_w σ97 150 (v59) (v115)) → sg_R (v59 + 1) ∧ (∃ m, m < n73 ∧ I62 m (v95) ((v59 + 1)) σ118)))))) ∧ (∀ (σ60 : sg_S), sg_F [142, 150, 92088] σ53 σ60 → X64 σ60 → sg_R ((sg_g σ60 88 91) - (sg_g σ53 88 91)) ∧ V_outer σ60 ((sg_g σ53 88 91)) (((sg_g σ60 88 91) - (sg_g σ53 88 91))) (q52) (fun q76 σ77 => sg_R q76 → sg_F [139, 140, 141, 88088] σ60 σ77 → V_putLens σ77 (a3) (fun q82 σ83 => sg_R q82 → sg_F [142, 92088] σ77 σ83 → V_outer σ83 (q82) (a3) (q76) (fun q88 σ89 => sg_R q88 → sg_F [139, 140, 141, 88088] σ83 σ89 → Q (q88) σ89))))))) ∧ (q45 = 0 → Q (0) σ46))))))))
set_option maxHeartbeats 4000000 in
set_option maxRecDepth 8000 in
theorem w_flatPart (z : Value) (σ : sg_S) (a1 : Int) (a2 : Int) (a3 : Int) (Q : Int → sg_S → Prop) (ra1 : sg_R a1) (ra2 : sg_R a2) (ra3 : sg_R a3) (w : V_flatPart σ a1 a2 a3 Q) : wx z 3 243 0 [(0, .inr (.inr (.ref 88))), (1, .inl (a1)), (2, .inl (a2)), (3, .inl (a3))] [] σ (fun v σ' => ∃ q, v = some (.inl q) ∧ sg_R q ∧ sg_F [139, 140, 141, 142, 143, 144, 150, 74088, 85088, 86088, 88088, 92088, 94088, 103088, 104088] σ σ' ∧ Q q σ') := by
  unfold V_flatPart at w
  obtain ⟨c1, w⟩ := w
  obtain ⟨c2, w⟩ := w
  refine wk_b tt_243 7 (pc' := 9) (ls' := [(0, .inr (.inr (.ref 88))), (1, .inl (a1)), (2, .inl (a2)), (3, .inl (a3))]) (st' := [.inl (((4 * a2) + 1)), .inr (.inr (.ref 140))]) (σ' := σ) rfl ?_
  obtain ⟨c3, w⟩ := w
  refine wk_ia tt_243 rfl rfl c3.1 c3.2 c2 ?_
  refine wk_b tt_243 6 (pc' := 19) (ls' := [(7, .inl (0)), (5, .inr (.inl ((sg_n (a3))))), (4, .inl ((sg_g σ 140 (((4 * a2) + 1))))), (0, .inr (.inr (.ref 88))), (1, .inl (a1)), (2, .inl (a2)), (3, .inl (a3))]) (st' := []) (σ' := σ) rfl ?_
  rw [show (sg_n (a3)) = a3 from by rw [sg_id ra3]]
  obtain ⟨I9, X11, ⟨μ10, w18⟩, w19, w20⟩ := w
  have ex22 : ∀ (v5 : Int) (σ7 : sg_S), sg_RL v5 → sg_F [150, 103088, 104088] σ σ7 → X11 v5 σ7 → wx z 3 243 203 [(0, .inr (.inr (.ref 88))), (1, .inl (a1)), (2, .inl (a2)), (3, .inl (a3)), (5, .inr (.inl (v5)))] [] σ7 (fun v σ' => ∃ q, v = some (.inl q) ∧ sg_R q ∧ sg_F [139, 140, 141, 142, 143, 144, 150, 74088, 85088, 86088, 88088, 92088, 94088, 103088, 104088] σ σ' ∧ Q q σ') := by
    intro v5 σ7 r13 hF8 w
    have w := w20 v5 σ7 r13 hF8 w
    refine wk_b tt_243 2 (pc' := 205) (ls' := [(0, .inr (.inr (.ref 88))), (1, .inl (a1)), (2, .inl (a2)), (3, .inl (a3)), (5, .inr (.inl (v5)))]) (st' := [.inl (a1), .inr (.inr (.ref 88))]) (σ' := σ7) rfl ?_
    refine wk_call tt_243 rfl rfl rfl rfl rfl tt_259 rfl (by decide) (w_inner z σ7 (a1) _ ra1 w) (fun u28 σ24 hq26 => ?_)
    obtain ⟨q23, rfl, r27, hF25, w⟩ := hq26
    have w := w r27 hF25
    refine wk_b tt_243 4 (pc' := 215) (ls' := [(7, .inl (q23)), (0, .inr (.inr (.ref 88))), (1, .inl (a1)), (2, .inl (a2)), (3, .inl (a3)), (5, .inr (.inl (v5)))]) (st' := []) (σ' := (sg_w σ24 88 93 (0))) rfl ?_
    generalize hs30 : (sg_w σ24 88 93 (0)) = σ29
    have w := w σ29 hs30.symm
    have hF31 : sg_F [94088] σ24 σ29 := by rw [← hs30]; exact sg_F_w (sg_F_r _ _) rfl _
    refine wk_b tt_243 3 (pc' := 218) (ls' := [(7, .inl (q23)), (0, .inr (.inr (.ref 88))), (1, .inl (a1)), (2, .inl (a2)), (3, .inl (a3)), (5, .inr (.inl (v5)))]) (st' := [.inl (a3), .inl (a1), .inr (.inr (.ref 88))]) (σ' := σ29) rfl ?_
    refine wk_call tt_243 rfl rfl rfl rfl rfl tt_281 rfl (by decide) (w_listItems z σ29 (a1) (a3) _ ra1 ra3 w) (fun u37 σ33 hq35 => ?_)
    obtain ⟨rfl, hF34, w⟩ := hq35
    have w := w hF34
    refine wk_b tt_243 4 (pc' := 227) (ls' := [(7, .inl (q23)), (0, .inr (.inr (.ref 88))), (1, .inl (a1)), (2, .inl (a2)), (3, .inl (a3)), (5, .inr (.inl (v5)))]) (st' := [.inl (q23), .inr (.inr (.ref 88)), .inr (.inl (v5)), .inr (.inr (.ref 88))]) (σ' := σ33) rfl ?_
    refine wk_call tt_243 rfl rfl rfl rfl rfl tt_227 rfl (by decide) (w_extentOfLanes z σ33 (q23) _ r27 w) (fun u43 σ39 hq41 => ?_)
    obtain ⟨q38, rfl, r42, hF40, w⟩ := hq41
    have w := w r42 hF40
    obtain ⟨c44, w⟩ := w
    refine wk_b tt_243 1 (pc' := 231) (ls' := [(7, .inl (q23)), (0, .inr (.inr (.ref 88))), (1, .inl (a1)), (2, .inl (a2)), (3, .inl (a3)), (5, .inr (.inl (v5)))]) (st' := [.inr (.inl ((v5 + q38))), .inr (.inr (.ref 88))]) (σ' := σ39) rfl ?_
    refine wk_call tt_243 rfl rfl rfl rfl rfl tt_329 rfl (by decide) (w_stepped z σ39 ((v5 + q38)) _ c44 w) (fun u50 σ46 hq48 => ?_)
    obtain ⟨q45, rfl, r49, hF47, w⟩ := hq48
    have w := w r49 hF47
    refine wk_if tt_243 (tgt := 239) rfl rfl (sg_Rz r49) (fun (h51 : ¬ q45 = 0) => ?_) (fun (h51 : q45 = 0) => ?_)
    ·
      have w := w.1 h51
      refine wk_b tt_243 2 (pc' := 242) (ls' := [(7, .inl (q23)), (0, .inr (.inr (.ref 88))), (1, .inl (a1)), (2, .inl (a2)), (3, .inl (a3)), (5, .inr (.inl (v5)))]) (st' := [.inl (q23), .inr (.inr (.ref 88))]) (σ' := σ46) rfl ?_
      refine wk_call tt_243 rfl rfl rfl rfl rfl tt_249 rfl (by decide) (w_gathered z σ46 (q23) _ r27 w) (fun u57 σ53 hq55 => ?_)
      obtain ⟨q52, rfl, r56, hF54, w⟩ := hq55
      have w := w r56 hF54
      refine wk_b tt_243 11 (pc' := 262) (ls' := [(9, .inl ((sg_g σ53 88 91))), (8, .inl (q52)), (7, .inl (q23)), (0, .inr (.inr (.ref 88))), (1, .inl (a1)), (2, .inl (a2)), (3, .inl (a3)), (5, .inr (.inl (v5)))]) (st' := [.inl (((4 * a2) + 1)), .inr (.inr (.ref 140))]) (σ' := σ53) rfl ?_
      refine wk_ia tt_243 rfl rfl c3.1 c3.2 c2 ?_
      refine wk_b tt_243 3 (pc' := 268) (ls' := [(10, .inl (0)), (4, .inl ((sg_g σ53 140 (((4 * a2) + 1))))), (9, .inl ((sg_g σ53 88 91))), (8, .inl (q52)), (7, .inl (q23)), (0, .inr (.inr (.ref 88))), (1, .inl (a1)), (2, .inl (a2)), (3, .inl (a3)), (5, .inr (.inl (v5)))]) (st' := []) (σ' := σ53) rfl ?_
      obtain ⟨I62, X64, ⟨μ63, w70⟩, w71, w72⟩ := w
      have ex74 : ∀ (σ60 : sg_S), sg_F [142, 150, 92088] σ53 σ60 → X64 σ60 → wx z 3 243 353 [(0, .inr (.inr (.ref 88))), (3, .inl (a3)), (8, .inl (q52)), (9, .inl ((sg_g σ53 88 91)))] [] σ60 (fun v σ' => ∃ q, v = some (.inl q) ∧ sg_R q ∧ sg_F [139, 140, 141, 142, 143, 144, 150, 74088, 85088, 86088, 88088, 92088, 94088, 103088, 104088] σ σ' ∧ Q q σ') := by
        intro σ60 hF61 w
        have w := w72 σ60 hF61 w
        obtain ⟨c75, w⟩ := w
        refine wk_b tt_243 7 (pc' := 365) (ls' := [(0, .inr (.inr (.ref 88))), (3, .inl (a3)), (8, .inl (q52)), (9, .inl ((sg_g σ53 88 91)))]) (st' := [.inl (q52), .inl (((sg_g σ60 88 91) - (sg_g σ53 88 91))), .inl ((sg_g σ53 88 91)), .inr (.inr (.ref 88))]) (σ' := σ60) rfl ?_
        refine wk_call tt_243 rfl rfl rfl rfl rfl tt_300 rfl (by decide) (w_outer z σ60 ((sg_g σ53 88 91)) (((sg_g σ60 88 91) - (sg_g σ53 88 91))) (q52) _ (sg_Rg _ _ _) c75 r56 w) (fun u81 σ77 hq79 => ?_)
        obtain ⟨q76, rfl, r80, hF78, w⟩ := hq79
        have w := w r80 hF78
        refine wk_b tt_243 3 (pc' := 372) (ls' := [(10, .inl (q76)), (0, .inr (.inr (.ref 88))), (3, .inl (a3)), (8, .inl (q52)), (9, .inl ((sg_g σ53 88 91)))]) (st' := [.inl (a3), .inr (.inr (.ref 88))]) (σ' := σ77) rfl ?_
        refine wk_call tt_243 rfl rfl rfl rfl rfl tt_309 rfl (by decide) (w_putLens z σ77 (a3) _ ra3 w) (fun u87 σ83 hq85 => ?_)
        obtain ⟨q82, rfl, r86, hF84, w⟩ := hq85
        have w := w r86 hF84
        refine wk_b tt_243 5 (pc' := 383) (ls' := [(11, .inl (q82)), (10, .inl (q76)), (0, .inr (.inr (.ref 88))), (3, .inl (a3)), (8, .inl (q52)), (9, .inl ((sg_g σ53 88 91)))]) (st' := [.inl (q76), .inl (a3), .inl (q82), .inr (.inr (.ref 88))]) (σ' := σ83) rfl ?_
        refine wk_call tt_243 rfl rfl rfl rfl rfl tt_300 rfl (by decide) (w_outer z σ83 (q82) (a3) (q76) _ r86 ra3 r80 w) (fun u93 σ89 hq91 => ?_)
        obtain ⟨q88, rfl, r92, hF90, w⟩ := hq91
        have w := w r92 hF90
        exact wk_rI tt_243 rfl rfl ⟨_, rfl, r92, (sg_F_t (sg_F_t (sg_F_t (sg_F_t (sg_F_t (sg_F_t (sg_F_t (sg_F_t (sg_F_t (sg_F_t (sg_F_t (sg_F_r [139, 140, 141, 142, 143, 144, 150, 74088, 85088, 86088, 88088, 92088, 94088, 103088, 104088] σ) (sg_F_m (L := [139, 140, 141, 142, 143, 144, 150, 74088, 85088, 86088, 88088, 92088, 94088, 103088, 104088]) hF8 rfl)) (sg_F_m (L := [139, 140, 141, 142, 143, 144, 150, 74088, 85088, 86088, 88088, 92088, 94088, 103088, 104088]) hF25 rfl)) (sg_F_m (L := [139, 140, 141, 142, 143, 144, 150, 74088, 85088, 86088, 88088, 92088, 94088, 103088, 104088]) hF31 rfl)) (sg_F_m (L := [139, 140, 141, 142, 143, 144, 150, 74088, 85088, 86088, 88088, 92088, 94088, 103088, 104088]) hF34 rfl)) (sg_F_m (L := [139, 140, 141, 142, 143, 144, 150, 74088, 85088, 86088, 88088, 92088, 94088, 103088, 104088]) hF40 rfl)) (sg_F_m (L := [139, 140, 141, 142, 143, 144, 150, 74088, 85088, 86088, 88088, 92088, 94088, 103088, 104088]) hF47 rfl)) (sg_F_m (L := [139, 140, 141, 142, 143, 144, 150, 74088, 85088, 86088, 88088, 92088, 94088, 103088, 104088]) hF54 rfl)) (sg_F_m (L := [139, 140, 141, 142, 143, 144, 150, 74088, 85088, 86088, 88088, 92088, 94088, 103088, 104088]) hF61 rfl)) (sg_F_m (L := [139, 140, 141, 142, 143, 144, 150, 74088, 85088, 86088, 88088, 92088, 94088, 103088, 104088]) hF78 rfl)) (sg_F_m (L := [139, 140, 141, 142, 143, 144, 150, 74088, 85088, 86088, 88088, 92088, 94088, 103088, 104088]) hF84 rfl)) (sg_F_m (L := [139, 140, 141, 142, 143, 144, 150, 74088, 85088, 86088, 88088, 92088, 94088, 103088, 104088]) hF90 rfl)), w⟩
      have lp69 : ∀ (n73 : Nat) (v58 : Int) (v59 : Int) (σ60 : sg_S), sg_R v58 → sg_R v59 → sg_F [142, 150, 92088] σ53 σ60 → I62 n73 v58 v59 σ60 → wx z 3 243 268 [(0, .inr (.inr (.ref 88))), (2, .inl (a2)), (3, .inl (a3)), (4, .inl (v58)), (8, .inl (q52)), (9, .inl ((sg_g σ53 88 91))), (10, .inl (v59))] [] σ60 (fun v σ' => ∃ q, v = some (.inl q) ∧ sg_R q ∧ sg_F [139, 140, 141, 142, 143, 144, 150, 74088, 85088, 86088, 88088, 92088, 94088, 103088, 104088] σ σ' ∧ Q q σ') := by
        intro n73
        induction n73 using Nat.strongRecOn with
        | _ n73 ih67 =>
          intro v58 v59 σ60 r65 r66 hF61 w
          have w := w71 n73 v58 v59 σ60 r65 r66 hF61 w
          refine wk_b tt_243 2 (pc' := 271) (ls' := [(0, .inr (.inr (.ref 88))), (2, .inl (a2)), (3, .inl (a3)), (4, .inl (v58)), (8, .inl (q52)), (9, .inl ((sg_g σ53 88 91))), (10, .inl (v59))]) (st' := [.inl (a3), .inl (v59)]) (σ' := σ60) rfl ?_
          refine wk_if2 tt_243 (tgt := 353) rfl rfl r66 ra3 (fun (h94 : a3 ≤ v59) => ?_) (fun (h94 : v59 < a3) => ?_)
          ·
            have w := w.1 h94
            exact wk_ls [(0, .inr (.inr (.ref 88))), (3, .inl (a3)), (8, .inl (q52)), (9, .inl ((sg_g σ53 88 91)))] rfl ⟨rfl, rfl, rfl, rfl, trivial⟩ (ex74  σ60  (sg_F_t (sg_F_r [142, 150, 92088] σ53) (sg_F_m (L := [142, 150, 92088]) hF61 rfl)) w)
          ·
            have w := w.2 h94
            refine wk_b tt_243 2 (pc' := 277) (ls' := [(11, .inl (0)), (0, .inr (.inr (.ref 88))), (2, .inl (a2)), (3, .inl (a3)), (4, .inl (v58)), (8, .inl (q52)), (9, .inl ((sg_g σ53 88 91))), (10, .inl (v59))]) (st' := []) (σ' := σ60) rfl ?_
            obtain ⟨I99, X101, ⟨μ100, w107⟩, w108, w109⟩ := w
            have ex111 : ∀ (v95 : Int) (σ97 : sg_S), sg_R v95 → sg_F [142, 92088] σ60 σ97 → X101 v95 σ97 → wx z 3 243 319 [(0, .inr (.inr (.ref 88))), (2, .inl (a2)), (3, .inl (a3)), (4, .inl (v95)), (8, .inl (q52)), (9, .inl ((sg_g σ53 88 91))), (10, .inl (v59))] [] σ97 (fun v σ' => ∃ q, v = some (.inl q) ∧ sg_R q ∧ sg_F [139, 140, 141, 142, 143, 144, 150, 74088, 85088, 86088, 88088, 92088, 94088, 103088, 104088] σ σ' ∧ Q q σ') := by
              intro v95 σ97 r102 hF98 w
              have w := w109 v95 σ97 r102 hF98 w
              refine wk_b tt_243 6 (pc' := 331) (ls' := [(0, .inr (.inr (.ref 88))), (2, .inl (a2)), (3, .inl (a3)), (4, .inl (v95)), (8, .inl (q52)), (9, .inl ((sg_g σ53 88 91))), (10, .inl (v59))]) (st' := [.inl (v59), .inr (.inr (.ref 150)), .inl (v59), .inr (.inr (.ref 150))]) (σ' := σ97) rfl ?_
              obtain ⟨c112, w⟩ := w
              refine wk_ia tt_243 rfl rfl c112.1 c112.2 r66 ?_
              rw [show (sg_g σ97 150 (v59)) = (sg_g σ60 150 (v59)) from by rw [sg_F_ga hF98 rfl]]
              have jn114 : ∀ v115 : Int, v115 = (if 0 ≤ (sg_g σ60 150 (v59)) then (sg_g σ60 150 (v59)) else (0 : Int)) → sg_R v115 → wx z 3 243 346 [(0, .inr (.inr (.ref 88))), (2, .inl (a2)), (3, .inl (a3)), (4, .inl (v95)), (8, .inl (q52)), (9, .inl ((sg_g σ53 88 91))), (10, .inl (v59))] [.inl (v115), .inl (v59), .inr (.inr (.ref 150))] σ97 (fun v σ' => ∃ q, v = some (.inl q) ∧ sg_R q ∧ sg_F [139, 140, 141, 142, 143, 144, 150, 74088, 85088, 86088, 88088, 92088, 94088, 103088, 104088] σ σ' ∧ Q q σ') := by
                intro v115 e117 r116
                have w := w v115 e117 r116
                refine wk_is tt_243 rfl rfl c112.1 c112.2 r66 ?_
                generalize hs119 : (sg_w σ97 150 (v59) (v115)) = σ118
                have w := w σ118 hs119.symm
                have hF120 : sg_F [150] σ97 σ118 := by rw [← hs119]; exact sg_F_w (sg_F_r _ _) rfl _
                obtain ⟨c121, w⟩ := w
                refine wk_b tt_243 2 (pc' := 268) (ls' := [(10, .inl ((v59 + 1))), (0, .inr (.inr (.ref 88))), (2, .inl (a2)), (3, .inl (a3)), (4, .inl (v95)), (8, .inl (q52)), (9, .inl ((sg_g σ53 88 91)))]) (st' := []) (σ' := σ118) rfl ?_
                obtain ⟨m122, hm122, w⟩ := w
                exact wk_ls [(0, .inr (.inr (.ref 88))), (2, .inl (a2)), (3, .inl (a3)), (4, .inl (v95)), (8, .inl (q52)), (9, .inl ((sg_g σ53 88 91))), (10, .inl ((v59 + 1)))] rfl ⟨rfl, rfl, rfl, rfl, rfl, rfl, rfl, trivial⟩ (ih67 m122 hm122 (v95) ((v59 + 1)) σ118 r102 c121 (sg_F_t (sg_F_t (sg_F_t (sg_F_r [142, 150, 92088] σ53) (sg_F_m (L := [142, 150, 92088]) hF61 rfl)) (sg_F_m (L := [142, 150, 92088]) hF98 rfl)) (sg_F_m (L := [142, 150, 92088]) hF120 rfl)) w)
              refine wk_if tt_243 (tgt := 339) rfl rfl (sg_Rg _ _ _) (fun (h113 : 0 ≤ (sg_g σ60 150 (v59))) => ?_) (fun (h113 : (sg_g σ60 150 (v59)) < 0) => ?_)
              ·
                clear w
                refine wk_b tt_243 3 (pc' := 345) (ls' := [(0, .inr (.inr (.ref 88))), (2, .inl (a2)), (3, .inl (a3)), (4, .inl (v95)), (8, .inl (q52)), (9, .inl ((sg_g σ53 88 91))), (10, .inl (v59))]) (st' := [.inl (v59), .inr (.inr (.ref 150)), .inl (v59), .inr (.inr (.ref 150))]) (σ' := σ97) rfl ?_
                refine wk_ia tt_243 rfl rfl c112.1 c112.2 r66 ?_
                rw [show (sg_g σ97 150 (v59)) = (sg_g σ60 150 (v59)) from by rw [sg_F_ga hF98 rfl]]
                exact wk_ls [(0, .inr (.inr (.ref 88))), (2, .inl (a2)), (3, .inl (a3)), (4, .inl (v95)), (8, .inl (q52)), (9, .inl ((sg_g σ53 88 91))), (10, .inl (v59))] rfl ⟨rfl, rfl, rfl, rfl, rfl, rfl, rfl, trivial⟩ (jn114 ((sg_g σ60 150 (v59))) (by simp only [if_pos h113]) (sg_Rg _ _ _))
              ·
                clear w
                refine wk_b tt_243 2 (pc' := 346) (ls' := [(0, .inr (.inr (.ref 88))), (2, .inl (a2)), (3, .inl (a3)), (4, .inl (v95)), (8, .inl (q52)), (9, .inl ((sg_g σ53 88 91))), (10, .inl (v59))]) (st' := [.inl (0), .inl (v59), .inr (.inr (.ref 150))]) (σ' := σ97) rfl ?_
                exact wk_ls [(0, .inr (.inr (.ref 88))), (2, .inl (a2)), (3, .inl (a3)), (4, .inl (v95)), (8, .inl (q52)), (9, .inl ((sg_g σ53 88 91))), (10, .inl (v59))] rfl ⟨rfl, rfl, rfl, rfl, rfl, rfl, rfl, trivial⟩ (jn114 (0) (by simp only [if_neg (show ¬ (0 ≤ (sg_g σ60 150 (v59))) by omega)]) (by decide))
            have lp106 : ∀ (n110 : Nat) (v95 : Int) (v96 : Int) (σ97 : sg_S), sg_R v95 → sg_R v96 → sg_F [142, 92088] σ60 σ97 → I99 n110 v95 v96 σ97 → wx z 3 243 277 [(0, .inr (.inr (.ref 88))), (2, .inl (a2)), (3, .inl (a3)), (4, .inl (v95)), (8, .inl (q52)), (9, .inl ((sg_g σ53 88 91))), (10, .inl (v59)), (11, .inl (v96))] [] σ97 (fun v σ' => ∃ q, v = some (.inl q) ∧ sg_R q ∧ sg_F [139, 140, 141, 142, 143, 144, 150, 74088, 85088, 86088, 88088, 92088, 94088, 103088, 104088] σ σ' ∧ Q q σ') := by
              intro n110
              induction n110 using Nat.strongRecOn with
              | _ n110 ih104 =>
                intro v95 v96 σ97 r102 r103 hF98 w
                have w := w108 n110 v95 v96 σ97 r102 r103 hF98 w
                refine wk_b tt_243 4 (pc' := 283) (ls' := [(0, .inr (.inr (.ref 88))), (2, .inl (a2)), (3, .inl (a3)), (4, .inl (v95)), (8, .inl (q52)), (9, .inl ((sg_g σ53 88 91))), (10, .inl (v59)), (11, .inl (v96))]) (st' := [.inl (v59), .inl (a2), .inr (.inr (.ref 88)), .inl (v96)]) (σ' := σ97) rfl ?_
                obtain ⟨c123, w⟩ := w
                refine wk_callp tt_243 rfl rfl rfl rfl rfl tt_322 rfl (by decide) (w_rowAt z σ97 (a2) (v59) ra2 r66 c123) ?_
                have r124 := vr_rowAt σ97  (a2) (v59) ra2 r66 c123
                refine wk_if2 tt_243 (tgt := 319) rfl rfl r103 r124 (fun (h125 : (v_rowAt σ97 (a2) (v59)) ≤ v96) => ?_) (fun (h125 : v96 < (v_rowAt σ97 (a2) (v59))) => ?_)
                ·
                  have w := w.1 h125
                  exact wk_ls [(0, .inr (.inr (.ref 88))), (2, .inl (a2)), (3, .inl (a3)), (4, .inl (v95)), (8, .inl (q52)), (9, .inl ((sg_g σ53 88 91))), (10, .inl (v59))] rfl ⟨rfl, rfl, rfl, rfl, rfl, rfl, rfl, trivial⟩ (ex111 (v95) σ97 r102 (sg_F_t (sg_F_r [142, 92088] σ60) (sg_F_m (L := [142, 92088]) hF98 rfl)) w)
                ·
                  have w := w.2 h125
                  refine wk_b tt_243 3 (pc' := 295) (ls' := [(0, .inr (.inr (.ref 88))), (2, .inl (a2)), (3, .inl (a3)), (4, .inl (v95)), (8, .inl (q52)), (9, .inl ((sg_g σ53 88 91))), (10, .inl (v59)), (11, .inl (v96))]) (st' := [.inl (v59), .inr (.inr (.ref 150))]) (σ' := σ97) rfl ?_
                  obtain ⟨c126, w⟩ := w
                  refine wk_ia tt_243 rfl rfl c126.1 c126.2 r66 ?_
                  rw [show (sg_g σ97 150 (v59)) = (sg_g σ60 150 (v59)) from by rw [sg_F_ga hF98 rfl]]
                  obtain ⟨P129, w, w132⟩ := w
                  have jn128 : ∀ (σ130 : sg_S), sg_F [142, 92088] σ97 σ130 → P129 σ130 → wx z 3 243 310 [(0, .inr (.inr (.ref 88))), (2, .inl (a2)), (3, .inl (a3)), (4, .inl (v95)), (8, .inl (q52)), (9, .inl ((sg_g σ53 88 91))), (10, .inl (v59)), (11, .inl (v96))] [] σ130 (fun v σ' => ∃ q, v = some (.inl q) ∧ sg_R q ∧ sg_F [139, 140, 141, 142, 143, 144, 150, 74088, 85088, 86088, 88088, 92088, 94088, 103088, 104088] σ σ' ∧ Q q σ') := by
                    intro σ130 hF131 w
                    have w := w132 σ130 hF131 w
                    obtain ⟨c133, w⟩ := w
                    obtain ⟨c134, w⟩ := w
                    refine wk_b tt_243 3 (pc' := 277) (ls' := [(11, .inl ((v96 + 1))), (4, .inl ((v95 + 1))), (0, .inr (.inr (.ref 88))), (2, .inl (a2)), (3, .inl (a3)), (8, .inl (q52)), (9, .inl ((sg_g σ53 88 91))), (10, .inl (v59))]) (st' := []) (σ' := σ130) rfl ?_
                    obtain ⟨m135, hm135, w⟩ := w
                    exact wk_ls [(0, .inr (.inr (.ref 88))), (2, .inl (a2)), (3, .inl (a3)), (4, .inl ((v95 + 1))), (8, .inl (q52)), (9, .inl ((sg_g σ53 88 91))), (10, .inl (v59)), (11, .inl ((v96 + 1)))] rfl ⟨rfl, rfl, rfl, rfl, rfl, rfl, rfl, rfl, trivial⟩ (ih104 m135 hm135 ((v95 + 1)) ((v96 + 1)) σ130 c133 c134 (sg_F_t (sg_F_t (sg_F_r [142, 92088] σ60) (sg_F_m (L := [142, 92088]) hF98 rfl)) (sg_F_m (L := [142, 92088]) hF131 rfl)) w)
                  refine wk_if tt_243 (tgt := 310) rfl rfl (sg_Rg _ _ _) (fun (h127 : (sg_g σ60 150 (v59)) < 0) => ?_) (fun (h127 : 0 ≤ (sg_g σ60 150 (v59))) => ?_)
                  ·
                    have w := w.1 h127
                    exact wk_ls [(0, .inr (.inr (.ref 88))), (2, .inl (a2)), (3, .inl (a3)), (4, .inl (v95)), (8, .inl (q52)), (9, .inl ((sg_g σ53 88 91))), (10, .inl (v59)), (11, .inl (v96))] rfl ⟨rfl, rfl, rfl, rfl, rfl, rfl, rfl, rfl, trivial⟩ (jn128 σ97 (sg_F_r [142, 92088] σ97) w)
                  ·
                    have w := w.2 h127
                    refine wk_b tt_243 4 (pc' := 306) (ls' := [(0, .inr (.inr (.ref 88))), (2, .inl (a2)), (3, .inl (a3)), (4, .inl (v95)), (8, .inl (q52)), (9, .inl ((sg_g σ53 88 91))), (10, .inl (v59)), (11, .inl (v96))]) (st' := [.inl (v95), .inr (.inr (.ref 142)), .inr (.inr (.ref 88))]) (σ' := σ97) rfl ?_
                    obtain ⟨c136, w⟩ := w
                    refine wk_ia tt_243 rfl rfl c136.1 c136.2 r102 ?_
                    refine wk_call tt_243 rfl rfl rfl rfl rfl tt_308 rfl (by decide) (w_put z σ97 ((sg_g σ97 142 (v95))) _ (sg_Rg _ _ _) w) (fun u142 σ138 hq140 => ?_)
                    obtain ⟨rfl, hF139, w⟩ := hq140
                    have w := w hF139
                    exact wk_ls [(0, .inr (.inr (.ref 88))), (2, .inl (a2)), (3, .inl (a3)), (4, .inl (v95)), (8, .inl (q52)), (9, .inl ((sg_g σ53 88 91))), (10, .inl (v59)), (11, .inl (v96))] rfl ⟨rfl, rfl, rfl, rfl, rfl, rfl, rfl, rfl, trivial⟩ (jn128 σ138 (sg_F_t (sg_F_r [142, 92088] σ97) (sg_F_m (L := [142, 92088]) hF139 rfl)) w)
            exact wk_ls [(0, .inr (.inr (.ref 88))), (2, .inl (a2)), (3, .inl (a3)), (4, .inl (v58)), (8, .inl (q52)), (9, .inl ((sg_g σ53 88 91))), (10, .inl (v59)), (11, .inl (0))] rfl ⟨rfl, rfl, rfl, rfl, rfl, rfl, rfl, rfl, trivial⟩ (lp106 μ100 (v58) (0) σ60 r65 (by decide) (sg_F_r _ _) w107)
      exact wk_ls [(0, .inr (.inr (.ref 88))), (2, .inl (a2)), (3, .inl (a3)), (4, .inl ((sg_g σ53 140 (((4 * a2) + 1))))), (8, .inl (q52)), (9, .inl ((sg_g σ53 88 91))), (10, .inl (0))] rfl ⟨rfl, rfl, rfl, rfl, rfl, rfl, rfl, trivial⟩ (lp69 μ63 ((sg_g σ53 140 (((4 * a2) + 1)))) (0) σ53 (sg_Rg _ _ _) (by decide) (sg_F_r _ _) w70)
    ·
      have w := w.2 h51
      refine wk_b tt_243 1 (pc' := 238) (ls' := [(7, .inl (q23)), (0, .inr (.inr (.ref 88))), (1, .inl (a1)), (2, .inl (a2)), (3, .inl (a3)), (5, .inr (.inl (v5)))]) (st' := [.inl (0)]) (σ' := σ46) rfl ?_
      exact wk_rI tt_243 rfl rfl ⟨_, rfl, (by decide), (sg_F_t (sg_F_t (sg_F_t (sg_F_t (sg_F_t (sg_F_t (sg_F_r [139, 140, 141, 142, 143, 144, 150, 74088, 85088, 86088, 88088, 92088, 94088, 103088, 104088] σ) (sg_F_m (L := [139, 140, 141, 142, 143, 144, 150, 74088, 85088, 86088, 88088, 92088, 94088, 103088, 104088]) hF8 rfl)) (sg_F_m (L := [139, 140, 141, 142, 143, 144, 150, 74088, 85088, 86088, 88088, 92088, 94088, 103088, 104088]) hF25 rfl)) (sg_F_m (L := [139, 140, 141, 142, 143, 144, 150, 74088, 85088, 86088, 88088, 92088, 94088, 103088, 104088]) hF31 rfl)) (sg_F_m (L := [139, 140, 141, 142, 143, 144, 150, 74088, 85088, 86088, 88088, 92088, 94088, 103088, 104088]) hF34 rfl)) (sg_F_m (L := [139, 140, 141, 142, 143, 144, 150, 74088, 85088, 86088, 88088, 92088, 94088, 103088, 104088]) hF40 rfl)) (sg_F_m (L := [139, 140, 141, 142, 143, 144, 150, 74088, 85088, 86088, 88088, 92088, 94088, 103088, 104088]) hF47 rfl)), w⟩
  have lp17 : ∀ (n21 : Nat) (v4 : Int) (v5 : Int) (v6 : Int) (σ7 : sg_S), sg_R v4 → sg_RL v5 → sg_R v6 → sg_F [150, 103088, 104088] σ σ7 → I9 n21 v4 v5 v6 σ7 → wx z 3 243 19 [(0, .inr (.inr (.ref 88))), (1, .inl (a1)), (2, .inl (a2)), (3, .inl (a3)), (4, .inl (v4)), (5, .inr (.inl (v5))), (7, .inl (v6))] [] σ7 (fun v σ' => ∃ q, v = some (.inl q) ∧ sg_R q ∧ sg_F [139, 140, 141, 142, 143, 144, 150, 74088, 85088, 86088, 88088, 92088, 94088, 103088, 104088] σ σ' ∧ Q q σ') := by
    intro n21
    induction n21 using Nat.strongRecOn with
    | _ n21 ih15 =>
      intro v4 v5 v6 σ7 r12 r13 r14 hF8 w
      have w := w19 n21 v4 v5 v6 σ7 r12 r13 r14 hF8 w
      refine wk_b tt_243 2 (pc' := 22) (ls' := [(0, .inr (.inr (.ref 88))), (1, .inl (a1)), (2, .inl (a2)), (3, .inl (a3)), (4, .inl (v4)), (5, .inr (.inl (v5))), (7, .inl (v6))]) (st' := [.inl (a3), .inl (v6)]) (σ' := σ7) rfl ?_
      refine wk_if2 tt_243 (tgt := 203) rfl rfl r14 ra3 (fun (h143 : a3 ≤ v6) => ?_) (fun (h143 : v6 < a3) => ?_)
      ·
        have w := w.1 h143
        exact wk_ls [(0, .inr (.inr (.ref 88))), (1, .inl (a1)), (2, .inl (a2)), (3, .inl (a3)), (5, .inr (.inl (v5)))] rfl ⟨rfl, rfl, rfl, rfl, rfl, trivial⟩ (ex22 (v5) σ7 r13 (sg_F_t (sg_F_r [150, 103088, 104088] σ) (sg_F_m (L := [150, 103088, 104088]) hF8 rfl)) w)
      ·
        have w := w.2 h143
        refine wk_b tt_243 6 (pc' := 34) (ls' := [(11, .inl (0)), (10, .inl (0)), (8, .inr (.inl (0))), (0, .inr (.inr (.ref 88))), (1, .inl (a1)), (2, .inl (a2)), (3, .inl (a3)), (4, .inl (v4)), (5, .inr (.inl (v5))), (7, .inl (v6))]) (st' := []) (σ' := σ7) rfl ?_
        obtain ⟨I149, X151, ⟨μ150, w158⟩, w159, w160⟩ := w
        have ex162 : ∀ (v144 : Int) (v145 : Int), sg_RL v144 → sg_R v145 → X151 v144 v145 → wx z 3 243 93 [(0, .inr (.inr (.ref 88))), (1, .inl (a1)), (2, .inl (a2)), (3, .inl (a3)), (4, .inl (v4)), (5, .inr (.inl (v5))), (7, .inl (v6)), (8, .inr (.inl (v144))), (10, .inl (v145))] [] σ7 (fun v σ' => ∃ q, v = some (.inl q) ∧ sg_R q ∧ sg_F [139, 140, 141, 142, 143, 144, 150, 74088, 85088, 86088, 88088, 92088, 94088, 103088, 104088] σ σ' ∧ Q q σ') := by
          intro v144 v145 r152 r153 w
          have w := w160 v144 v145 r152 r153 w
          refine wk_b tt_243 1 (pc' := 95) (ls' := [(0, .inr (.inr (.ref 88))), (1, .inl (a1)), (2, .inl (a2)), (3, .inl (a3)), (4, .inl (v4)), (5, .inr (.inl (v5))), (7, .inl (v6)), (8, .inr (.inl (v144))), (10, .inl (v145))]) (st' := [.inl (v145)]) (σ' := σ7) rfl ?_
          obtain ⟨wp, w⟩ := w
          have jn164 : ∀ v165 : Int, v165 = (if ¬ v145 = 0 then (0 : Int) else (if ¬ v144 = (v_rowAt σ (a1) (v6)) then (0 : Int) else (1 : Int))) → sg_R v165 → wx z 3 243 117 [(0, .inr (.inr (.ref 88))), (1, .inl (a1)), (2, .inl (a2)), (3, .inl (a3)), (4, .inl (v4)), (5, .inr (.inl (v5))), (7, .inl (v6)), (10, .inl (v145))] [.inl (v165)] σ7 (fun v σ' => ∃ q, v = some (.inl q) ∧ sg_R q ∧ sg_F [139, 140, 141, 142, 143, 144, 150, 74088, 85088, 86088, 88088, 92088, 94088, 103088, 104088] σ σ' ∧ Q q σ') := by
            intro v165 e167 r166
            have w := w v165 e167 r166
            refine wk_b tt_243 2 (pc' := 121) (ls' := [(11, .inl (v165)), (0, .inr (.inr (.ref 88))), (1, .inl (a1)), (2, .inl (a2)), (3, .inl (a3)), (4, .inl (v4)), (5, .inr (.inl (v5))), (7, .inl (v6)), (10, .inl (v145))]) (st' := [.inl (v165)]) (σ' := σ7) rfl ?_
            obtain ⟨P170, w, w173⟩ := w
            have jn169 : ∀ (σ171 : sg_S), sg_F [103088, 104088] σ7 σ171 → P170 σ171 → wx z 3 243 140 [(0, .inr (.inr (.ref 88))), (1, .inl (a1)), (2, .inl (a2)), (3, .inl (a3)), (4, .inl (v4)), (5, .inr (.inl (v5))), (7, .inl (v6)), (11, .inl (v165))] [] σ171 (fun v σ' => ∃ q, v = some (.inl q) ∧ sg_R q ∧ sg_F [139, 140, 141, 142, 143, 144, 150, 74088, 85088, 86088, 88088, 92088, 94088, 103088, 104088] σ σ' ∧ Q q σ') := by
              intro σ171 hF172 w
              have w := w173 σ171 hF172 w
              refine wk_b tt_243 4 (pc' := 148) (ls' := [(0, .inr (.inr (.ref 88))), (1, .inl (a1)), (2, .inl (a2)), (3, .inl (a3)), (4, .inl (v4)), (5, .inr (.inl (v5))), (7, .inl (v6)), (11, .inl (v165))]) (st' := [.inl (v165), .inl (v6), .inr (.inr (.ref 150))]) (σ' := σ171) rfl ?_
              obtain ⟨wp, w⟩ := w
              have jn175 : ∀ v176 : Int, v176 = (if v165 = 0 then ((-1) : Int) else (v_rowAt σ (a2) (v6))) → sg_R v176 → wx z 3 243 162 [(0, .inr (.inr (.ref 88))), (1, .inl (a1)), (2, .inl (a2)), (3, .inl (a3)), (4, .inl (v4)), (5, .inr (.inl (v5))), (7, .inl (v6)), (11, .inl (v165))] [.inl (v176), .inl (v6), .inr (.inr (.ref 150))] σ171 (fun v σ' => ∃ q, v = some (.inl q) ∧ sg_R q ∧ sg_F [139, 140, 141, 142, 143, 144, 150, 74088, 85088, 86088, 88088, 92088, 94088, 103088, 104088] σ σ' ∧ Q q σ') := by
                intro v176 e178 r177
                have w := w v176 e178 r177
                obtain ⟨c179, w⟩ := w
                refine wk_is tt_243 rfl rfl c179.1 c179.2 r14 ?_
                generalize hs181 : (sg_w σ171 150 (v6) (v176)) = σ180
                have w := w σ180 hs181.symm
                have hF182 : sg_F [150] σ171 σ180 := by rw [← hs181]; exact sg_F_w (sg_F_r _ _) rfl _
                refine wk_b tt_243 2 (pc' := 167) (ls' := [(0, .inr (.inr (.ref 88))), (1, .inl (a1)), (2, .inl (a2)), (3, .inl (a3)), (4, .inl (v4)), (5, .inr (.inl (v5))), (7, .inl (v6)), (11, .inl (v165))]) (st' := [.inl (v165), .inr (.inl (v5))]) (σ' := σ180) rfl ?_
                obtain ⟨wp, w⟩ := w
                have jn184 : ∀ v185 : Int, v185 = (if v165 = 0 then (0 : Int) else (v_rowAt σ (a2) (v6))) → sg_RL v185 → wx z 3 243 182 [(0, .inr (.inr (.ref 88))), (1, .inl (a1)), (2, .inl (a2)), (3, .inl (a3)), (4, .inl (v4)), (7, .inl (v6))] [.inr (.inl (v185)), .inr (.inl (v5))] σ180 (fun v σ' => ∃ q, v = some (.inl q) ∧ sg_R q ∧ sg_F [139, 140, 141, 142, 143, 144, 150, 74088, 85088, 86088, 88088, 92088, 94088, 103088, 104088] σ σ' ∧ Q q σ') := by
                  intro v185 e187 r186
                  have w := w v185 e187 r186
                  obtain ⟨c188, w⟩ := w
                  refine wk_b tt_243 6 (pc' := 191) (ls' := [(5, .inr (.inl ((v5 + v185)))), (0, .inr (.inr (.ref 88))), (1, .inl (a1)), (2, .inl (a2)), (3, .inl (a3)), (4, .inl (v4)), (7, .inl (v6))]) (st' := [.inl (v6), .inl (a2), .inr (.inr (.ref 88)), .inl (v4)]) (σ' := σ180) rfl ?_
                  obtain ⟨c189, w⟩ := w
                  have c189 : p_rowAt σ180 (a2) (v6) := by
                    rw [pF_rowAt hF182 rfl rfl, pF_rowAt hF172 rfl rfl, pF_rowAt hF8 rfl rfl]; exact c189
                  refine wk_callp tt_243 rfl rfl rfl rfl rfl tt_322 rfl (by decide) (w_rowAt z σ180 (a2) (v6) ra2 r14 c189) ?_
                  rw [vF_rowAt hF182 rfl rfl, vF_rowAt hF172 rfl rfl, vF_rowAt hF8 rfl rfl]
                  have r190 := vr_rowAt σ  (a2) (v6) ra2 r14 (by have q := c189; rw [pF_rowAt hF182 rfl rfl, pF_rowAt hF172 rfl rfl, pF_rowAt hF8 rfl rfl] at q; exact q)
                  obtain ⟨c191, w⟩ := w
                  obtain ⟨c192, w⟩ := w
                  refine wk_b tt_243 4 (pc' := 19) (ls' := [(7, .inl ((v6 + 1))), (4, .inl ((v4 + (v_rowAt σ (a2) (v6))))), (5, .inr (.inl ((v5 + v185)))), (0, .inr (.inr (.ref 88))), (1, .inl (a1)), (2, .inl (a2)), (3, .inl (a3))]) (st' := []) (σ' := σ180) rfl ?_
                  obtain ⟨m193, hm193, w⟩ := w
                  exact wk_ls [(0, .inr (.inr (.ref 88))), (1, .inl (a1)), (2, .inl (a2)), (3, .inl (a3)), (4, .inl ((v4 + (v_rowAt σ (a2) (v6))))), (5, .inr (.inl ((v5 + v185)))), (7, .inl ((v6 + 1)))] rfl ⟨rfl, rfl, rfl, rfl, rfl, rfl, rfl, trivial⟩ (ih15 m193 hm193 ((v4 + (v_rowAt σ (a2) (v6)))) ((v5 + v185)) ((v6 + 1)) σ180 c191 c188 c192 (sg_F_t (sg_F_t (sg_F_t (sg_F_r [150, 103088, 104088] σ) (sg_F_m (L := [150, 103088, 104088]) hF8 rfl)) (sg_F_m (L := [150, 103088, 104088]) hF172 rfl)) (sg_F_m (L := [150, 103088, 104088]) hF182 rfl)) w)
                have w := wp
                refine wk_if tt_243 (tgt := 181) rfl rfl r166 (fun (h183 : v165 = 0) => ?_) (fun (h183 : ¬ v165 = 0) => ?_)
                ·
                  have w := w.1 h183
                  refine wk_b tt_243 1 (pc' := 182) (ls' := [(0, .inr (.inr (.ref 88))), (1, .inl (a1)), (2, .inl (a2)), (3, .inl (a3)), (4, .inl (v4)), (5, .inr (.inl (v5))), (7, .inl (v6)), (11, .inl (v165))]) (st' := [.inr (.inl (0)), .inr (.inl (v5))]) (σ' := σ180) rfl ?_
                  exact wk_ls [(0, .inr (.inr (.ref 88))), (1, .inl (a1)), (2, .inl (a2)), (3, .inl (a3)), (4, .inl (v4)), (7, .inl (v6))] rfl ⟨rfl, rfl, rfl, rfl, rfl, rfl, trivial⟩ (jn184 (0) (by simp only [if_pos h183]) (by decide))
                ·
                  have w := w.2 h183
                  refine wk_b tt_243 3 (pc' := 174) (ls' := [(0, .inr (.inr (.ref 88))), (1, .inl (a1)), (2, .inl (a2)), (3, .inl (a3)), (4, .inl (v4)), (5, .inr (.inl (v5))), (7, .inl (v6)), (11, .inl (v165))]) (st' := [.inl (v6), .inl (a2), .inr (.inr (.ref 88)), .inr (.inl (v5))]) (σ' := σ180) rfl ?_
                  obtain ⟨c194, w⟩ := w
                  have c194 : p_rowAt σ180 (a2) (v6) := by
                    rw [pF_rowAt hF182 rfl rfl, pF_rowAt hF172 rfl rfl, pF_rowAt hF8 rfl rfl]; exact c194
                  refine wk_callp tt_243 rfl rfl rfl rfl rfl tt_322 rfl (by decide) (w_rowAt z σ180 (a2) (v6) ra2 r14 c194) ?_
                  rw [vF_rowAt hF182 rfl rfl, vF_rowAt hF172 rfl rfl, vF_rowAt hF8 rfl rfl]
                  have r195 := vr_rowAt σ  (a2) (v6) ra2 r14 (by have q := c194; rw [pF_rowAt hF182 rfl rfl, pF_rowAt hF172 rfl rfl, pF_rowAt hF8 rfl rfl] at q; exact q)
                  refine wk_b tt_243 2 (pc' := 182) (ls' := [(0, .inr (.inr (.ref 88))), (1, .inl (a1)), (2, .inl (a2)), (3, .inl (a3)), (4, .inl (v4)), (5, .inr (.inl (v5))), (7, .inl (v6)), (11, .inl (v165))]) (st' := [.inr (.inl ((sg_n ((v_rowAt σ (a2) (v6)))))), .inr (.inl (v5))]) (σ' := σ180) rfl ?_
                  rw [show (sg_n ((v_rowAt σ (a2) (v6)))) = (v_rowAt σ (a2) (v6)) from by rw [sg_id r195]]
                  exact wk_ls [(0, .inr (.inr (.ref 88))), (1, .inl (a1)), (2, .inl (a2)), (3, .inl (a3)), (4, .inl (v4)), (7, .inl (v6))] rfl ⟨rfl, rfl, rfl, rfl, rfl, rfl, trivial⟩ (jn184 ((v_rowAt σ (a2) (v6))) (by simp only [if_neg (show ¬ (v165 = 0) by omega)]) (sg_Rgl2 r195))
              have w := wp
              refine wk_if tt_243 (tgt := 161) rfl rfl r166 (fun (h174 : v165 = 0) => ?_) (fun (h174 : ¬ v165 = 0) => ?_)
              ·
                have w := w.1 h174
                refine wk_b tt_243 1 (pc' := 162) (ls' := [(0, .inr (.inr (.ref 88))), (1, .inl (a1)), (2, .inl (a2)), (3, .inl (a3)), (4, .inl (v4)), (5, .inr (.inl (v5))), (7, .inl (v6)), (11, .inl (v165))]) (st' := [.inl ((-1)), .inl (v6), .inr (.inr (.ref 150))]) (σ' := σ171) rfl ?_
                exact wk_ls [(0, .inr (.inr (.ref 88))), (1, .inl (a1)), (2, .inl (a2)), (3, .inl (a3)), (4, .inl (v4)), (5, .inr (.inl (v5))), (7, .inl (v6)), (11, .inl (v165))] rfl ⟨rfl, rfl, rfl, rfl, rfl, rfl, rfl, rfl, trivial⟩ (jn175 ((-1)) (by simp only [if_pos h174]) (by decide))
              ·
                have w := w.2 h174
                refine wk_b tt_243 3 (pc' := 155) (ls' := [(0, .inr (.inr (.ref 88))), (1, .inl (a1)), (2, .inl (a2)), (3, .inl (a3)), (4, .inl (v4)), (5, .inr (.inl (v5))), (7, .inl (v6)), (11, .inl (v165))]) (st' := [.inl (v6), .inl (a2), .inr (.inr (.ref 88)), .inl (v6), .inr (.inr (.ref 150))]) (σ' := σ171) rfl ?_
                obtain ⟨c196, w⟩ := w
                have c196 : p_rowAt σ171 (a2) (v6) := by
                  rw [pF_rowAt hF172 rfl rfl, pF_rowAt hF8 rfl rfl]; exact c196
                refine wk_callp tt_243 rfl rfl rfl rfl rfl tt_322 rfl (by decide) (w_rowAt z σ171 (a2) (v6) ra2 r14 c196) ?_
                rw [vF_rowAt hF172 rfl rfl, vF_rowAt hF8 rfl rfl]
                have r197 := vr_rowAt σ  (a2) (v6) ra2 r14 (by have q := c196; rw [pF_rowAt hF172 rfl rfl, pF_rowAt hF8 rfl rfl] at q; exact q)
                refine wk_b tt_243 1 (pc' := 162) (ls' := [(0, .inr (.inr (.ref 88))), (1, .inl (a1)), (2, .inl (a2)), (3, .inl (a3)), (4, .inl (v4)), (5, .inr (.inl (v5))), (7, .inl (v6)), (11, .inl (v165))]) (st' := [.inl ((v_rowAt σ (a2) (v6))), .inl (v6), .inr (.inr (.ref 150))]) (σ' := σ171) rfl ?_
                exact wk_ls [(0, .inr (.inr (.ref 88))), (1, .inl (a1)), (2, .inl (a2)), (3, .inl (a3)), (4, .inl (v4)), (5, .inr (.inl (v5))), (7, .inl (v6)), (11, .inl (v165))] rfl ⟨rfl, rfl, rfl, rfl, rfl, rfl, rfl, rfl, trivial⟩ (jn175 ((v_rowAt σ (a2) (v6))) (by simp only [if_neg (show ¬ (v165 = 0) by omega)]) r197)
            refine wk_if tt_243 (tgt := 140) rfl rfl r166 (fun (h168 : ¬ v165 = 0) => ?_) (fun (h168 : v165 = 0) => ?_)
            ·
              have w := w.1 h168
              exact wk_ls [(0, .inr (.inr (.ref 88))), (1, .inl (a1)), (2, .inl (a2)), (3, .inl (a3)), (4, .inl (v4)), (5, .inr (.inl (v5))), (7, .inl (v6)), (11, .inl (v165))] rfl ⟨rfl, rfl, rfl, rfl, rfl, rfl, rfl, rfl, trivial⟩ (jn169 σ7 (sg_F_r [103088, 104088] σ7) w)
            ·
              have w := w.2 h168
              refine wk_b tt_243 3 (pc' := 129) (ls' := [(11, .inl (v165)), (0, .inr (.inr (.ref 88))), (1, .inl (a1)), (2, .inl (a2)), (3, .inl (a3)), (4, .inl (v4)), (5, .inr (.inl (v5))), (7, .inl (v6)), (10, .inl (v145))]) (st' := [.inl (v145), .inl (v6), .inr (.inr (.ref 88))]) (σ' := σ7) rfl ?_
              have jn199 : ∀ v200 : Int, v200 = (if v145 = 0 then (3 : Int) else (5 : Int)) → sg_R v200 → wx z 3 243 137 [(0, .inr (.inr (.ref 88))), (1, .inl (a1)), (2, .inl (a2)), (3, .inl (a3)), (4, .inl (v4)), (5, .inr (.inl (v5))), (7, .inl (v6)), (11, .inl (v165))] [.inl (v200), .inl (v6), .inr (.inr (.ref 88))] σ7 (fun v σ' => ∃ q, v = some (.inl q) ∧ sg_R q ∧ sg_F [139, 140, 141, 142, 143, 144, 150, 74088, 85088, 86088, 88088, 92088, 94088, 103088, 104088] σ σ' ∧ Q q σ') := by
                intro v200 e202 r201
                have w := w v200 e202 r201
                refine wk_call tt_243 rfl rfl rfl rfl rfl tt_276 rfl (by decide) (w_lacks z σ7 (v6) (v200) _ r14 r201 w) (fun u208 σ204 hq206 => ?_)
                obtain ⟨rfl, hF205, w⟩ := hq206
                have w := w hF205
                exact wk_ls [(0, .inr (.inr (.ref 88))), (1, .inl (a1)), (2, .inl (a2)), (3, .inl (a3)), (4, .inl (v4)), (5, .inr (.inl (v5))), (7, .inl (v6)), (11, .inl (v165))] rfl ⟨rfl, rfl, rfl, rfl, rfl, rfl, rfl, rfl, trivial⟩ (jn169 σ204 (sg_F_t (sg_F_r [103088, 104088] σ7) (sg_F_m (L := [103088, 104088]) hF205 rfl)) w)
              refine wk_if tt_243 (tgt := 136) rfl rfl r153 (fun (h198 : v145 = 0) => ?_) (fun (h198 : ¬ v145 = 0) => ?_)
              ·
                clear w
                refine wk_b tt_243 1 (pc' := 137) (ls' := [(11, .inl (v165)), (0, .inr (.inr (.ref 88))), (1, .inl (a1)), (2, .inl (a2)), (3, .inl (a3)), (4, .inl (v4)), (5, .inr (.inl (v5))), (7, .inl (v6)), (10, .inl (v145))]) (st' := [.inl (3), .inl (v6), .inr (.inr (.ref 88))]) (σ' := σ7) rfl ?_
                exact wk_ls [(0, .inr (.inr (.ref 88))), (1, .inl (a1)), (2, .inl (a2)), (3, .inl (a3)), (4, .inl (v4)), (5, .inr (.inl (v5))), (7, .inl (v6)), (11, .inl (v165))] rfl ⟨rfl, rfl, rfl, rfl, rfl, rfl, rfl, rfl, trivial⟩ (jn199 (3) (by simp only [if_pos h198]) (by decide))
              ·
                clear w
                refine wk_b tt_243 2 (pc' := 137) (ls' := [(11, .inl (v165)), (0, .inr (.inr (.ref 88))), (1, .inl (a1)), (2, .inl (a2)), (3, .inl (a3)), (4, .inl (v4)), (5, .inr (.inl (v5))), (7, .inl (v6)), (10, .inl (v145))]) (st' := [.inl (5), .inl (v6), .inr (.inr (.ref 88))]) (σ' := σ7) rfl ?_
                exact wk_ls [(0, .inr (.inr (.ref 88))), (1, .inl (a1)), (2, .inl (a2)), (3, .inl (a3)), (4, .inl (v4)), (5, .inr (.inl (v5))), (7, .inl (v6)), (11, .inl (v165))] rfl ⟨rfl, rfl, rfl, rfl, rfl, rfl, rfl, rfl, trivial⟩ (jn199 (5) (by simp only [if_neg (show ¬ (v145 = 0) by omega)]) (by decide))
          have w := wp
          refine wk_if tt_243 (tgt := 116) rfl rfl r153 (fun (h163 : ¬ v145 = 0) => ?_) (fun (h163 : v145 = 0) => ?_)
          ·
            have w := w.1 h163
            refine wk_b tt_243 1 (pc' := 117) (ls' := [(0, .inr (.inr (.ref 88))), (1, .inl (a1)), (2, .inl (a2)), (3, .inl (a3)), (4, .inl (v4)), (5, .inr (.inl (v5))), (7, .inl (v6)), (8, .inr (.inl (v144))), (10, .inl (v145))]) (st' := [.inl (0)]) (σ' := σ7) rfl ?_
            exact wk_ls [(0, .inr (.inr (.ref 88))), (1, .inl (a1)), (2, .inl (a2)), (3, .inl (a3)), (4, .inl (v4)), (5, .inr (.inl (v5))), (7, .inl (v6)), (10, .inl (v145))] rfl ⟨rfl, rfl, rfl, rfl, rfl, rfl, rfl, rfl, trivial⟩ (jn164 (0) (by simp only [if_pos h163]) (by decide))
          ·
            have w := w.2 h163
            refine wk_b tt_243 4 (pc' := 104) (ls' := [(0, .inr (.inr (.ref 88))), (1, .inl (a1)), (2, .inl (a2)), (3, .inl (a3)), (4, .inl (v4)), (5, .inr (.inl (v5))), (7, .inl (v6)), (8, .inr (.inl (v144))), (10, .inl (v145))]) (st' := [.inl (v6), .inl (a1), .inr (.inr (.ref 88)), .inr (.inl (v144))]) (σ' := σ7) rfl ?_
            obtain ⟨c209, w⟩ := w
            have c209 : p_rowAt σ7 (a1) (v6) := by
              rw [pF_rowAt hF8 rfl rfl]; exact c209
            refine wk_callp tt_243 rfl rfl rfl rfl rfl tt_322 rfl (by decide) (w_rowAt z σ7 (a1) (v6) ra1 r14 c209) ?_
            rw [vF_rowAt hF8 rfl rfl]
            have r210 := vr_rowAt σ  (a1) (v6) ra1 r14 (by have q := c209; rw [pF_rowAt hF8 rfl rfl] at q; exact q)
            refine wk_b tt_243 1 (pc' := 108) (ls' := [(0, .inr (.inr (.ref 88))), (1, .inl (a1)), (2, .inl (a2)), (3, .inl (a3)), (4, .inl (v4)), (5, .inr (.inl (v5))), (7, .inl (v6)), (8, .inr (.inl (v144))), (10, .inl (v145))]) (st' := [.inr (.inl ((sg_n ((v_rowAt σ (a1) (v6)))))), .inr (.inl (v144))]) (σ' := σ7) rfl ?_
            rw [show (sg_n ((v_rowAt σ (a1) (v6)))) = (v_rowAt σ (a1) (v6)) from by rw [sg_id r210]]
            refine wk_lcif tt_243 (tgt := 116) rfl rfl rfl r152 (sg_Rgl2 r210) (fun (h211 : ¬ v144 = (v_rowAt σ (a1) (v6))) => ?_) (fun (h211 : v144 = (v_rowAt σ (a1) (v6))) => ?_)
            ·
              have w := w.1 h211
              refine wk_b tt_243 1 (pc' := 117) (ls' := [(0, .inr (.inr (.ref 88))), (1, .inl (a1)), (2, .inl (a2)), (3, .inl (a3)), (4, .inl (v4)), (5, .inr (.inl (v5))), (7, .inl (v6)), (8, .inr (.inl (v144))), (10, .inl (v145))]) (st' := [.inl (0)]) (σ' := σ7) rfl ?_
              exact wk_ls [(0, .inr (.inr (.ref 88))), (1, .inl (a1)), (2, .inl (a2)), (3, .inl (a3)), (4, .inl (v4)), (5, .inr (.inl (v5))), (7, .inl (v6)), (10, .inl (v145))] rfl ⟨rfl, rfl, rfl, rfl, rfl, rfl, rfl, rfl, trivial⟩ (jn164 (0) (by simp only [if_neg (show ¬ (¬ v145 = 0) by omega), if_pos h211]) (by decide))
            ·
              have w := w.2 h211
              refine wk_b tt_243 2 (pc' := 117) (ls' := [(0, .inr (.inr (.ref 88))), (1, .inl (a1)), (2, .inl (a2)), (3, .inl (a3)), (4, .inl (v4)), (5, .inr (.inl (v5))), (7, .inl (v6)), (8, .inr (.inl (v144))), (10, .inl (v145))]) (st' := [.inl (1)]) (σ' := σ7) rfl ?_
              exact wk_ls [(0, .inr (.inr (.ref 88))), (1, .inl (a1)), (2, .inl (a2)), (3, .inl (a3)), (4, .inl (v4)), (5, .inr (.inl (v5))), (7, .inl (v6)), (10, .inl (v145))] rfl ⟨rfl, rfl, rfl, rfl, rfl, rfl, rfl, rfl, trivial⟩ (jn164 (1) (by simp only [if_neg (show ¬ (¬ v145 = 0) by omega), if_neg (show ¬ (¬ v144 = (v_rowAt σ (a1) (v6))) by omega)]) (by decide))
        have lp157 : ∀ (n161 : Nat) (v144 : Int) (v145 : Int) (v146 : Int), sg_RL v144 → sg_R v145 → sg_R v146 → I149 n161 v144 v145 v146 → wx z 3 243 34 [(0, .inr (.inr (.ref 88))), (1, .inl (a1)), (2, .inl (a2)), (3, .inl (a3)), (4, .inl (v4)), (5, .inr (.inl (v5))), (7, .inl (v6)), (8, .inr (.inl (v144))), (10, .inl (v145)), (11, .inl (v146))] [] σ7 (fun v σ' => ∃ q, v = some (.inl q) ∧ sg_R q ∧ sg_F [139, 140, 141, 142, 143, 144, 150, 74088, 85088, 86088, 88088, 92088, 94088, 103088, 104088] σ σ' ∧ Q q σ') := by
          intro n161
          induction n161 using Nat.strongRecOn with
          | _ n161 ih155 =>
            intro v144 v145 v146 r152 r153 r154 w
            have w := w159 n161 v144 v145 v146 r152 r153 r154 w
            refine wk_b tt_243 4 (pc' := 40) (ls' := [(0, .inr (.inr (.ref 88))), (1, .inl (a1)), (2, .inl (a2)), (3, .inl (a3)), (4, .inl (v4)), (5, .inr (.inl (v5))), (7, .inl (v6)), (8, .inr (.inl (v144))), (10, .inl (v145)), (11, .inl (v146))]) (st' := [.inl (v6), .inl (a2), .inr (.inr (.ref 88)), .inl (v146)]) (σ' := σ7) rfl ?_
            obtain ⟨c212, w⟩ := w
            have c212 : p_rowAt σ7 (a2) (v6) := by
              rw [pF_rowAt hF8 rfl rfl]; exact c212
            refine wk_callp tt_243 rfl rfl rfl rfl rfl tt_322 rfl (by decide) (w_rowAt z σ7 (a2) (v6) ra2 r14 c212) ?_
            rw [vF_rowAt hF8 rfl rfl]
            have r213 := vr_rowAt σ  (a2) (v6) ra2 r14 (by have q := c212; rw [pF_rowAt hF8 rfl rfl] at q; exact q)
            refine wk_if2 tt_243 (tgt := 93) rfl rfl r154 r213 (fun (h214 : (v_rowAt σ (a2) (v6)) ≤ v146) => ?_) (fun (h214 : v146 < (v_rowAt σ (a2) (v6))) => ?_)
            ·
              have w := w.1 h214
              exact wk_ls [(0, .inr (.inr (.ref 88))), (1, .inl (a1)), (2, .inl (a2)), (3, .inl (a3)), (4, .inl (v4)), (5, .inr (.inl (v5))), (7, .inl (v6)), (8, .inr (.inl (v144))), (10, .inl (v145))] rfl ⟨rfl, rfl, rfl, rfl, rfl, rfl, rfl, rfl, rfl, trivial⟩ (ex162 (v144) (v145)  r152 r153  w)
            ·
              have w := w.2 h214
              obtain ⟨c215, w⟩ := w
              refine wk_b tt_243 6 (pc' := 57) (ls' := [(0, .inr (.inr (.ref 88))), (1, .inl (a1)), (2, .inl (a2)), (3, .inl (a3)), (4, .inl (v4)), (5, .inr (.inl (v5))), (7, .inl (v6)), (8, .inr (.inl (v144))), (10, .inl (v145)), (11, .inl (v146))]) (st' := [.inl ((v4 + v146)), .inr (.inr (.ref 142)), .inr (.inl (v144))]) (σ' := σ7) rfl ?_
              obtain ⟨c216, w⟩ := w
              refine wk_ia tt_243 rfl rfl c216.1 c216.2 c215 ?_
              rw [show (sg_g σ7 142 ((v4 + v146))) = (sg_g σ 142 ((v4 + v146))) from by rw [sg_F_ga hF8 rfl]]
              obtain ⟨c217, w⟩ := w
              refine wk_b tt_243 4 (pc' := 64) (ls' := [(8, .inr (.inl ((v144 + (sg_n ((sg_g σ 142 ((v4 + v146))))))))), (0, .inr (.inr (.ref 88))), (1, .inl (a1)), (2, .inl (a2)), (3, .inl (a3)), (4, .inl (v4)), (5, .inr (.inl (v5))), (7, .inl (v6)), (10, .inl (v145)), (11, .inl (v146))]) (st' := [.inl (v145)]) (σ' := σ7) rfl ?_
              rw [show (sg_n ((sg_g σ 142 ((v4 + v146))))) = (sg_g σ 142 ((v4 + v146))) from by rw [sg_id (sg_Rg _ _ _)]]
              obtain ⟨wp, w⟩ := w
              have jn219 : ∀ v220 : Int, v220 = (if ¬ v145 = 0 then (1 : Int) else (if 0 ≤ (sg_g σ 142 ((v4 + v146))) then (0 : Int) else (1 : Int))) → sg_R v220 → wx z 3 243 85 [(0, .inr (.inr (.ref 88))), (1, .inl (a1)), (2, .inl (a2)), (3, .inl (a3)), (4, .inl (v4)), (5, .inr (.inl (v5))), (7, .inl (v6)), (8, .inr (.inl ((v144 + (sg_g σ 142 ((v4 + v146))))))), (11, .inl (v146))] [.inl (v220)] σ7 (fun v σ' => ∃ q, v = some (.inl q) ∧ sg_R q ∧ sg_F [139, 140, 141, 142, 143, 144, 150, 74088, 85088, 86088, 88088, 92088, 94088, 103088, 104088] σ σ' ∧ Q q σ') := by
                intro v220 e222 r221
                have w := w v220 e222 r221
                obtain ⟨c223, w⟩ := w
                refine wk_b tt_243 3 (pc' := 34) (ls' := [(11, .inl ((v146 + 1))), (10, .inl (v220)), (0, .inr (.inr (.ref 88))), (1, .inl (a1)), (2, .inl (a2)), (3, .inl (a3)), (4, .inl (v4)), (5, .inr (.inl (v5))), (7, .inl (v6)), (8, .inr (.inl ((v144 + (sg_g σ 142 ((v4 + v146)))))))]) (st' := []) (σ' := σ7) rfl ?_
                obtain ⟨m224, hm224, w⟩ := w
                exact wk_ls [(0, .inr (.inr (.ref 88))), (1, .inl (a1)), (2, .inl (a2)), (3, .inl (a3)), (4, .inl (v4)), (5, .inr (.inl (v5))), (7, .inl (v6)), (8, .inr (.inl ((v144 + (sg_g σ 142 ((v4 + v146))))))), (10, .inl (v220)), (11, .inl ((v146 + 1)))] rfl ⟨rfl, rfl, rfl, rfl, rfl, rfl, rfl, rfl, rfl, rfl, trivial⟩ (ih155 m224 hm224 ((v144 + (sg_g σ 142 ((v4 + v146))))) (v220) ((v146 + 1))  c217 r221 c223  w)
              have w := wp
              refine wk_if tt_243 (tgt := 80) rfl rfl r153 (fun (h218 : ¬ v145 = 0) => ?_) (fun (h218 : v145 = 0) => ?_)
              ·
                have w := w.1 h218
                refine wk_b tt_243 2 (pc' := 85) (ls' := [(8, .inr (.inl ((v144 + (sg_g σ 142 ((v4 + v146))))))), (0, .inr (.inr (.ref 88))), (1, .inl (a1)), (2, .inl (a2)), (3, .inl (a3)), (4, .inl (v4)), (5, .inr (.inl (v5))), (7, .inl (v6)), (10, .inl (v145)), (11, .inl (v146))]) (st' := [.inl (1)]) (σ' := σ7) rfl ?_
                exact wk_ls [(0, .inr (.inr (.ref 88))), (1, .inl (a1)), (2, .inl (a2)), (3, .inl (a3)), (4, .inl (v4)), (5, .inr (.inl (v5))), (7, .inl (v6)), (8, .inr (.inl ((v144 + (sg_g σ 142 ((v4 + v146))))))), (11, .inl (v146))] rfl ⟨rfl, rfl, rfl, rfl, rfl, rfl, rfl, rfl, rfl, trivial⟩ (jn219 (1) (by simp only [if_pos h218]) (by decide))
              ·
                have w := w.2 h218
                refine wk_b tt_243 5 (pc' := 76) (ls' := [(8, .inr (.inl ((v144 + (sg_g σ 142 ((v4 + v146))))))), (0, .inr (.inr (.ref 88))), (1, .inl (a1)), (2, .inl (a2)), (3, .inl (a3)), (4, .inl (v4)), (5, .inr (.inl (v5))), (7, .inl (v6)), (10, .inl (v145)), (11, .inl (v146))]) (st' := [.inl ((v4 + v146)), .inr (.inr (.ref 142))]) (σ' := σ7) rfl ?_
                refine wk_ia tt_243 rfl rfl c216.1 c216.2 c215 ?_
                rw [show (sg_g σ7 142 ((v4 + v146))) = (sg_g σ 142 ((v4 + v146))) from by rw [sg_F_ga hF8 rfl]]
                refine wk_if tt_243 (tgt := 84) rfl rfl (sg_Rg _ _ _) (fun (h225 : 0 ≤ (sg_g σ 142 ((v4 + v146)))) => ?_) (fun (h225 : (sg_g σ 142 ((v4 + v146))) < 0) => ?_)
                ·
                  have w := w.1 h225
                  refine wk_b tt_243 1 (pc' := 85) (ls' := [(8, .inr (.inl ((v144 + (sg_g σ 142 ((v4 + v146))))))), (0, .inr (.inr (.ref 88))), (1, .inl (a1)), (2, .inl (a2)), (3, .inl (a3)), (4, .inl (v4)), (5, .inr (.inl (v5))), (7, .inl (v6)), (10, .inl (v145)), (11, .inl (v146))]) (st' := [.inl (0)]) (σ' := σ7) rfl ?_
                  exact wk_ls [(0, .inr (.inr (.ref 88))), (1, .inl (a1)), (2, .inl (a2)), (3, .inl (a3)), (4, .inl (v4)), (5, .inr (.inl (v5))), (7, .inl (v6)), (8, .inr (.inl ((v144 + (sg_g σ 142 ((v4 + v146))))))), (11, .inl (v146))] rfl ⟨rfl, rfl, rfl, rfl, rfl, rfl, rfl, rfl, rfl, trivial⟩ (jn219 (0) (by simp only [if_neg (show ¬ (¬ v145 = 0) by omega), if_pos h225]) (by decide))
                ·
                  have w := w.2 h225
                  refine wk_b tt_243 2 (pc' := 85) (ls' := [(8, .inr (.inl ((v144 + (sg_g σ 142 ((v4 + v146))))))), (0, .inr (.inr (.ref 88))), (1, .inl (a1)), (2, .inl (a2)), (3, .inl (a3)), (4, .inl (v4)), (5, .inr (.inl (v5))), (7, .inl (v6)), (10, .inl (v145)), (11, .inl (v146))]) (st' := [.inl (1)]) (σ' := σ7) rfl ?_
                  exact wk_ls [(0, .inr (.inr (.ref 88))), (1, .inl (a1)), (2, .inl (a2)), (3, .inl (a3)), (4, .inl (v4)), (5, .inr (.inl (v5))), (7, .inl (v6)), (8, .inr (.inl ((v144 + (sg_g σ 142 ((v4 + v146))))))), (11, .inl (v146))] rfl ⟨rfl, rfl, rfl, rfl, rfl, rfl, rfl, rfl, rfl, trivial⟩ (jn219 (1) (by simp only [if_neg (show ¬ (¬ v145 = 0) by omega), if_neg (show ¬ (0 ≤ (sg_g σ 142 ((v4 + v146)))) by omega)]) (by decide))
        exact wk_ls [(0, .inr (.inr (.ref 88))), (1, .inl (a1)), (2, .inl (a2)), (3, .inl (a3)), (4, .inl (v4)), (5, .inr (.inl (v5))), (7, .inl (v6)), (8, .inr (.inl (0))), (10, .inl (0)), (11, .inl (0))] rfl ⟨rfl, rfl, rfl, rfl, rfl, rfl, rfl, rfl, rfl, rfl, trivial⟩ (lp157 μ150 (0) (0) (0)  (by decide) (by decide) (by decide)  w158)
  exact wk_ls [(0, .inr (.inr (.ref 88))), (1, .inl (a1)), (2, .inl (a2)), (3, .inl (a3)), (4, .inl ((sg_g σ 140 (((4 * a2) + 1))))), (5, .inr (.inl (a3))), (7, .inl (0))] rfl ⟨rfl, rfl, rfl, rfl, rfl, rfl, rfl, trivial⟩ (lp17 μ10 ((sg_g σ 140 (((4 * a2) + 1)))) (a3) (0) σ (sg_Rg _ _ _) (sg_Rgl2 ra3) (by decide) (sg_F_r _ _) w18)
