/-! Conditions of the reference's methods, by program (20). -/
-- NestedVectorsModel.flatWorked
def V_flatWorked_27 (σ : sg_S) (b3 : Int) (b4 : Int) (b5 : Int) (Q : Int → sg_S → Prop) : Prop := V_flatPart σ (b4) (b5) (b3) (fun q1 σ2 => sg_R q1 → sg_F [139, 140, 141, 142, 143, 144, 150, 74088, 85088, 86088, 88088, 92088, 94088, 103088, 104088] σ σ2 → Q (q1) σ2)
set_option maxHeartbeats 4000000 in
set_option maxRecDepth 8000 in
theorem w_flatWorked_27 (z : Value) (σ : sg_S) (b3 : Int) (b4 : Int) (b5 : Int) (Q : Int → sg_S → Prop) (rb3 : sg_R b3) (rb4 : sg_R b4) (rb5 : sg_R b5) (w : V_flatWorked_27 σ b3 b4 b5 Q) : wx z 4 246 335 [(0, .inr (.inr (.ref 88))), (3, .inl (b3)), (4, .inl (b4)), (5, .inl (b5))] [] σ (fun v σ' => ∃ q, v = some (.inl q) ∧ sg_R q ∧ sg_F [139, 140, 141, 142, 143, 144, 150, 74088, 85088, 86088, 88088, 92088, 94088, 103088, 104088] σ σ' ∧ Q q σ') := by
  unfold V_flatWorked_27 at w
  refine wk_b tt_246 4 (pc' := 341) (ls' := [(0, .inr (.inr (.ref 88))), (3, .inl (b3)), (4, .inl (b4)), (5, .inl (b5))]) (st' := [.inl (b3), .inl (b5), .inl (b4), .inr (.inr (.ref 88))]) (σ' := σ) rfl ?_
  refine wk_call tt_246 rfl rfl rfl rfl rfl tt_243 rfl (by decide) (w_flatPart z σ (b4) (b5) (b3) _ rb4 rb5 rb3 w) (fun u6 σ2 hq4 => ?_)
  obtain ⟨q1, rfl, r5, hF3, w⟩ := hq4
  have w := w r5 hF3
  exact wk_rI tt_246 rfl rfl ⟨_, rfl, r5, (sg_F_t (sg_F_r [139, 140, 141, 142, 143, 144, 150, 74088, 85088, 86088, 88088, 92088, 94088, 103088, 104088] σ) (sg_F_m (L := [139, 140, 141, 142, 143, 144, 150, 74088, 85088, 86088, 88088, 92088, 94088, 103088, 104088]) hF3 rfl)), w⟩
-- NestedVectorsModel.flatWorked
def V_flatWorked_d (σ : sg_S) (b1 : Int) (b3 : Int) (b4 : Int) (b5 : Int) (Q : Int → sg_S → Prop) : Prop := V_stepped σ (b3) (fun q1 σ2 => (q1 = 0 ∨ q1 = 1) → sg_F [74088, 85088, 86088] σ σ2 → ((¬ q1 = 0 → (∃ (I11 : Nat → Int → sg_S → Prop) (X13 : sg_S → Prop), (∃ n, I11 n (0) σ2) ∧ (∀ (n21 : Nat) (v8 : Int) (σ9 : sg_S), sg_R v8 → sg_F [142, 92088, 103088, 104088] σ2 σ9 → I11 n21 v8 σ9 → ((b3 ≤ v8 → X13 σ9) ∧ (v8 < b3 → (0 ≤ b1 ∧ b1 < 210) ∧ (∃ P33 : sg_S → Prop, (((sg_g σ 93 (b1)) = 9 → p_rowAt σ9 (b5) (v8) ∧ ((¬ (v_rowAt σ9 (b5) (v8)) = 0 → P33 σ9) ∧ ((v_rowAt σ9 (b5) (v8)) = 0 → V_lacks σ9 (v8) (1) (fun σ55 => sg_F [103088, 104088] σ9 σ55 → P33 σ55)))) ∧ (¬ (sg_g σ 93 (b1)) = 9 → ((¬ (sg_g σ 93 (b1)) = 10 → P33 σ9) ∧ ((sg_g σ 93 (b1)) = 10 → p_rowAt σ9 (b5) (v8) ∧ ((¬ (v_rowAt σ9 (b5) (v8)) = 0 → P33 σ9) ∧ ((v_rowAt σ9 (b5) (v8)) = 0 → V_lacks σ9 (v8) (1) (fun σ65 => sg_F [103088, 104088] σ9 σ65 → P33 σ65))))))) ∧ (∀ (σ34 : sg_S), sg_F [103088, 104088] σ9 σ34 → P33 σ34 → p_rowAt σ9 (b4) (v8) ∧ p_rowAt σ9 (b5) (v8) ∧ p_operated ((sg_g σ 93 (b1))) ((v_rowAt σ9 (b4) (v8))) ((v_rowAt σ9 (b5) (v8))) ∧ V_put σ34 ((v_operated ((sg_g σ 93 (b1))) ((v_rowAt σ9 (b4) (v8))) ((v_rowAt σ9 (b5) (v8))))) (fun σ44 => sg_F [142, 92088] σ34 σ44 → sg_R (v8 + 1) ∧ (∃ m, m < n21 ∧ I11 m ((v8 + 1)) σ44))))))) ∧ (∀ (σ9 : sg_S), sg_F [142, 92088, 103088, 104088] σ2 σ9 → X13 σ9 → V_numbers σ9 ((sg_g σ 88 91)) (fun q23 σ24 => sg_R q23 → sg_F [139, 140, 141, 88088] σ9 σ24 → Q (q23) σ24)))) ∧ (q1 = 0 → Q (0) σ2)))
set_option maxHeartbeats 4000000 in
set_option maxRecDepth 8000 in
theorem w_flatWorked_d (z : Value) (σ : sg_S) (b1 : Int) (b3 : Int) (b4 : Int) (b5 : Int) (Q : Int → sg_S → Prop) (rb1 : sg_R b1) (rb3 : sg_R b3) (rb4 : sg_R b4) (rb5 : sg_R b5) (w : V_flatWorked_d σ b1 b3 b4 b5 Q) : wx z 2 246 345 [(0, .inr (.inr (.ref 88))), (1, .inl (b1)), (3, .inl (b3)), (4, .inl (b4)), (5, .inl (b5))] [] σ (fun v σ' => ∃ q, v = some (.inl q) ∧ sg_R q ∧ sg_F [139, 140, 141, 142, 74088, 85088, 86088, 88088, 92088, 103088, 104088] σ σ' ∧ Q q σ') := by
  unfold V_flatWorked_d at w
  refine wk_b tt_246 3 (pc' := 348) (ls' := [(0, .inr (.inr (.ref 88))), (1, .inl (b1)), (3, .inl (b3)), (4, .inl (b4)), (5, .inl (b5))]) (st' := [.inr (.inl ((sg_n (b3)))), .inr (.inr (.ref 88))]) (σ' := σ) rfl ?_
  rw [show (sg_n (b3)) = b3 from by rw [sg_id rb3]]
  refine wk_call tt_246 rfl rfl rfl rfl rfl tt_329 rfl (by decide) (w_stepped z σ (b3) _ (sg_Rgl2 rb3) w) (fun u6 σ2 hq4 => ?_)
  obtain ⟨q1, rfl, r5, hF3, w⟩ := hq4
  have w := w r5 hF3
  refine wk_if tt_246 (tgt := 356) rfl rfl (sg_Rz r5) (fun (h7 : ¬ q1 = 0) => ?_) (fun (h7 : q1 = 0) => ?_)
  ·
    have w := w.1 h7
    refine wk_b tt_246 5 (pc' := 365) (ls' := [(7, .inl (0)), (6, .inl ((sg_g σ2 88 91))), (0, .inr (.inr (.ref 88))), (1, .inl (b1)), (3, .inl (b3)), (4, .inl (b4)), (5, .inl (b5))]) (st' := []) (σ' := σ2) rfl ?_
    rw [show (sg_g σ2 88 91) = (sg_g σ 88 91) from by rw [sg_F_g hF3 rfl]]
    obtain ⟨I11, X13, ⟨μ12, w18⟩, w19, w20⟩ := w
    have ex22 : ∀ (σ9 : sg_S), sg_F [142, 92088, 103088, 104088] σ2 σ9 → X13 σ9 → wx z 2 246 447 [(0, .inr (.inr (.ref 88))), (6, .inl ((sg_g σ 88 91)))] [] σ9 (fun v σ' => ∃ q, v = some (.inl q) ∧ sg_R q ∧ sg_F [139, 140, 141, 142, 74088, 85088, 86088, 88088, 92088, 103088, 104088] σ σ' ∧ Q q σ') := by
      intro σ9 hF10 w
      have w := w20 σ9 hF10 w
      refine wk_b tt_246 2 (pc' := 450) (ls' := [(0, .inr (.inr (.ref 88))), (6, .inl ((sg_g σ 88 91)))]) (st' := [.inl ((sg_g σ 88 91)), .inr (.inr (.ref 88))]) (σ' := σ9) rfl ?_
      refine wk_call tt_246 rfl rfl rfl rfl rfl tt_296 rfl (by decide) (w_numbers z σ9 ((sg_g σ 88 91)) _ (sg_Rg _ _ _) w) (fun u28 σ24 hq26 => ?_)
      obtain ⟨q23, rfl, r27, hF25, w⟩ := hq26
      have w := w r27 hF25
      exact wk_rI tt_246 rfl rfl ⟨_, rfl, r27, (sg_F_t (sg_F_t (sg_F_t (sg_F_r [139, 140, 141, 142, 74088, 85088, 86088, 88088, 92088, 103088, 104088] σ) (sg_F_m (L := [139, 140, 141, 142, 74088, 85088, 86088, 88088, 92088, 103088, 104088]) hF3 rfl)) (sg_F_m (L := [139, 140, 141, 142, 74088, 85088, 86088, 88088, 92088, 103088, 104088]) hF10 rfl)) (sg_F_m (L := [139, 140, 141, 142, 74088, 85088, 86088, 88088, 92088, 103088, 104088]) hF25 rfl)), w⟩
    have lp17 : ∀ (n21 : Nat) (v8 : Int) (σ9 : sg_S), sg_R v8 → sg_F [142, 92088, 103088, 104088] σ2 σ9 → I11 n21 v8 σ9 → wx z 2 246 365 [(0, .inr (.inr (.ref 88))), (1, .inl (b1)), (3, .inl (b3)), (4, .inl (b4)), (5, .inl (b5)), (6, .inl ((sg_g σ 88 91))), (7, .inl (v8))] [] σ9 (fun v σ' => ∃ q, v = some (.inl q) ∧ sg_R q ∧ sg_F [139, 140, 141, 142, 74088, 85088, 86088, 88088, 92088, 103088, 104088] σ σ' ∧ Q q σ') := by
      intro n21
      induction n21 using Nat.strongRecOn with
      | _ n21 ih15 =>
        intro v8 σ9 r14 hF10 w
        have w := w19 n21 v8 σ9 r14 hF10 w
        refine wk_b tt_246 2 (pc' := 368) (ls' := [(0, .inr (.inr (.ref 88))), (1, .inl (b1)), (3, .inl (b3)), (4, .inl (b4)), (5, .inl (b5)), (6, .inl ((sg_g σ 88 91))), (7, .inl (v8))]) (st' := [.inl (b3), .inl (v8)]) (σ' := σ9) rfl ?_
        refine wk_if2 tt_246 (tgt := 447) rfl rfl r14 rb3 (fun (h29 : b3 ≤ v8) => ?_) (fun (h29 : v8 < b3) => ?_)
        ·
          have w := w.1 h29
          exact wk_ls [(0, .inr (.inr (.ref 88))), (6, .inl ((sg_g σ 88 91)))] rfl ⟨rfl, rfl, trivial⟩ (ex22  σ9  (sg_F_t (sg_F_r [142, 92088, 103088, 104088] σ2) (sg_F_m (L := [142, 92088, 103088, 104088]) hF10 rfl)) w)
        ·
          have w := w.2 h29
          refine wk_b tt_246 3 (pc' := 376) (ls' := [(0, .inr (.inr (.ref 88))), (1, .inl (b1)), (3, .inl (b3)), (4, .inl (b4)), (5, .inl (b5)), (6, .inl ((sg_g σ 88 91))), (7, .inl (v8))]) (st' := [.inl (b1), .inr (.inr (.ref 93))]) (σ' := σ9) rfl ?_
          obtain ⟨c30, w⟩ := w
          refine wk_ia tt_246 rfl rfl c30.1 c30.2 rb1 ?_
          rw [show (sg_g σ9 93 (b1)) = (sg_g σ 93 (b1)) from by rw [sg_F_ga hF10 rfl, sg_F_ga hF3 rfl]]
          refine wk_b tt_246 1 (pc' := 379) (ls' := [(0, .inr (.inr (.ref 88))), (1, .inl (b1)), (3, .inl (b3)), (4, .inl (b4)), (5, .inl (b5)), (6, .inl ((sg_g σ 88 91))), (7, .inl (v8))]) (st' := [.inl (9), .inl ((sg_g σ 93 (b1)))]) (σ' := σ9) rfl ?_
          obtain ⟨P33, w, w36⟩ := w
          have jn32 : ∀ (σ34 : sg_S), sg_F [103088, 104088] σ9 σ34 → P33 σ34 → wx z 2 246 411 [(0, .inr (.inr (.ref 88))), (1, .inl (b1)), (3, .inl (b3)), (4, .inl (b4)), (5, .inl (b5)), (6, .inl ((sg_g σ 88 91))), (7, .inl (v8))] [] σ34 (fun v σ' => ∃ q, v = some (.inl q) ∧ sg_R q ∧ sg_F [139, 140, 141, 142, 74088, 85088, 86088, 88088, 92088, 103088, 104088] σ σ' ∧ Q q σ') := by
            intro σ34 hF35 w
            have w := w36 σ34 hF35 w
            refine wk_b tt_246 5 (pc' := 418) (ls' := [(0, .inr (.inr (.ref 88))), (1, .inl (b1)), (3, .inl (b3)), (4, .inl (b4)), (5, .inl (b5)), (6, .inl ((sg_g σ 88 91))), (7, .inl (v8))]) (st' := [.inl (b1), .inr (.inr (.ref 93)), .inr (.inr (.ref 88)), .inr (.inr (.ref 88))]) (σ' := σ34) rfl ?_
            refine wk_ia tt_246 rfl rfl c30.1 c30.2 rb1 ?_
            rw [show (sg_g σ34 93 (b1)) = (sg_g σ 93 (b1)) from by rw [sg_F_ga hF35 rfl, sg_F_ga hF10 rfl, sg_F_ga hF3 rfl]]
            refine wk_b tt_246 3 (pc' := 424) (ls' := [(0, .inr (.inr (.ref 88))), (1, .inl (b1)), (3, .inl (b3)), (4, .inl (b4)), (5, .inl (b5)), (6, .inl ((sg_g σ 88 91))), (7, .inl (v8))]) (st' := [.inl (v8), .inl (b4), .inr (.inr (.ref 88)), .inl ((sg_g σ 93 (b1))), .inr (.inr (.ref 88)), .inr (.inr (.ref 88))]) (σ' := σ34) rfl ?_
            obtain ⟨c37, w⟩ := w
            have c37 : p_rowAt σ34 (b4) (v8) := by
              rw [pF_rowAt hF35 rfl rfl]; exact c37
            refine wk_callp tt_246 rfl rfl rfl rfl rfl tt_322 rfl (by decide) (w_rowAt z σ34 (b4) (v8) rb4 r14 c37) ?_
            rw [vF_rowAt hF35 rfl rfl]
            have r38 := vr_rowAt σ9  (b4) (v8) rb4 r14 (by have q := c37; rw [pF_rowAt hF35 rfl rfl] at q; exact q)
            refine wk_b tt_246 3 (pc' := 432) (ls' := [(0, .inr (.inr (.ref 88))), (1, .inl (b1)), (3, .inl (b3)), (4, .inl (b4)), (5, .inl (b5)), (6, .inl ((sg_g σ 88 91))), (7, .inl (v8))]) (st' := [.inl (v8), .inl (b5), .inr (.inr (.ref 88)), .inl ((v_rowAt σ9 (b4) (v8))), .inl ((sg_g σ 93 (b1))), .inr (.inr (.ref 88)), .inr (.inr (.ref 88))]) (σ' := σ34) rfl ?_
            obtain ⟨c39, w⟩ := w
            have c39 : p_rowAt σ34 (b5) (v8) := by
              rw [pF_rowAt hF35 rfl rfl]; exact c39
            refine wk_callp tt_246 rfl rfl rfl rfl rfl tt_322 rfl (by decide) (w_rowAt z σ34 (b5) (v8) rb5 r14 c39) ?_
            rw [vF_rowAt hF35 rfl rfl]
            have r40 := vr_rowAt σ9  (b5) (v8) rb5 r14 (by have q := c39; rw [pF_rowAt hF35 rfl rfl] at q; exact q)
            obtain ⟨c41, w⟩ := w
            refine wk_callp tt_246 rfl rfl rfl rfl rfl tt_299 rfl (by decide) (w_operated z σ34 ((sg_g σ 93 (b1))) ((v_rowAt σ9 (b4) (v8))) ((v_rowAt σ9 (b5) (v8))) (sg_Rg _ _ _) r38 r40 c41) ?_
            have r42 := vr_operated  ((sg_g σ 93 (b1))) ((v_rowAt σ9 (b4) (v8))) ((v_rowAt σ9 (b5) (v8))) (sg_Rg _ _ _) r38 r40 c41
            refine wk_call tt_246 rfl rfl rfl rfl rfl tt_308 rfl (by decide) (w_put z σ34 ((v_operated ((sg_g σ 93 (b1))) ((v_rowAt σ9 (b4) (v8))) ((v_rowAt σ9 (b5) (v8))))) _ r42 w) (fun u48 σ44 hq46 => ?_)
            obtain ⟨rfl, hF45, w⟩ := hq46
            have w := w hF45
            obtain ⟨c49, w⟩ := w
            refine wk_b tt_246 2 (pc' := 365) (ls' := [(7, .inl ((v8 + 1))), (0, .inr (.inr (.ref 88))), (1, .inl (b1)), (3, .inl (b3)), (4, .inl (b4)), (5, .inl (b5)), (6, .inl ((sg_g σ 88 91)))]) (st' := []) (σ' := σ44) rfl ?_
            obtain ⟨m50, hm50, w⟩ := w
            exact wk_ls [(0, .inr (.inr (.ref 88))), (1, .inl (b1)), (3, .inl (b3)), (4, .inl (b4)), (5, .inl (b5)), (6, .inl ((sg_g σ 88 91))), (7, .inl ((v8 + 1)))] rfl ⟨rfl, rfl, rfl, rfl, rfl, rfl, rfl, trivial⟩ (ih15 m50 hm50 ((v8 + 1)) σ44 c49 (sg_F_t (sg_F_t (sg_F_t (sg_F_r [142, 92088, 103088, 104088] σ2) (sg_F_m (L := [142, 92088, 103088, 104088]) hF10 rfl)) (sg_F_m (L := [142, 92088, 103088, 104088]) hF35 rfl)) (sg_F_m (L := [142, 92088, 103088, 104088]) hF45 rfl)) w)
          refine wk_if2 tt_246 (tgt := 393) rfl rfl (sg_Rg _ _ _) (by decide) (fun (h31 : (sg_g σ 93 (b1)) = 9) => ?_) (fun (h31 : ¬ (sg_g σ 93 (b1)) = 9) => ?_)
          ·
            have w := w.1 h31
            refine wk_b tt_246 3 (pc' := 398) (ls' := [(0, .inr (.inr (.ref 88))), (1, .inl (b1)), (3, .inl (b3)), (4, .inl (b4)), (5, .inl (b5)), (6, .inl ((sg_g σ 88 91))), (7, .inl (v8))]) (st' := [.inl (v8), .inl (b5), .inr (.inr (.ref 88))]) (σ' := σ9) rfl ?_
            obtain ⟨c51, w⟩ := w
            refine wk_callp tt_246 rfl rfl rfl rfl rfl tt_322 rfl (by decide) (w_rowAt z σ9 (b5) (v8) rb5 r14 c51) ?_
            have r52 := vr_rowAt σ9  (b5) (v8) rb5 r14 c51
            refine wk_if tt_246 (tgt := 411) rfl rfl r52 (fun (h53 : ¬ (v_rowAt σ9 (b5) (v8)) = 0) => ?_) (fun (h53 : (v_rowAt σ9 (b5) (v8)) = 0) => ?_)
            ·
              have w := w.1 h53
              exact wk_ls [(0, .inr (.inr (.ref 88))), (1, .inl (b1)), (3, .inl (b3)), (4, .inl (b4)), (5, .inl (b5)), (6, .inl ((sg_g σ 88 91))), (7, .inl (v8))] rfl ⟨rfl, rfl, rfl, rfl, rfl, rfl, rfl, trivial⟩ (jn32 σ9 (sg_F_r [103088, 104088] σ9) w)
            ·
              have w := w.2 h53
              refine wk_b tt_246 3 (pc' := 408) (ls' := [(0, .inr (.inr (.ref 88))), (1, .inl (b1)), (3, .inl (b3)), (4, .inl (b4)), (5, .inl (b5)), (6, .inl ((sg_g σ 88 91))), (7, .inl (v8))]) (st' := [.inl (1), .inl (v8), .inr (.inr (.ref 88))]) (σ' := σ9) rfl ?_
              refine wk_call tt_246 rfl rfl rfl rfl rfl tt_276 rfl (by decide) (w_lacks z σ9 (v8) (1) _ r14 (by decide) w) (fun u59 σ55 hq57 => ?_)
              obtain ⟨rfl, hF56, w⟩ := hq57
              have w := w hF56
              exact wk_ls [(0, .inr (.inr (.ref 88))), (1, .inl (b1)), (3, .inl (b3)), (4, .inl (b4)), (5, .inl (b5)), (6, .inl ((sg_g σ 88 91))), (7, .inl (v8))] rfl ⟨rfl, rfl, rfl, rfl, rfl, rfl, rfl, trivial⟩ (jn32 σ55 (sg_F_t (sg_F_r [103088, 104088] σ9) (sg_F_m (L := [103088, 104088]) hF56 rfl)) w)
          ·
            have w := w.2 h31
            refine wk_b tt_246 3 (pc' := 387) (ls' := [(0, .inr (.inr (.ref 88))), (1, .inl (b1)), (3, .inl (b3)), (4, .inl (b4)), (5, .inl (b5)), (6, .inl ((sg_g σ 88 91))), (7, .inl (v8))]) (st' := [.inl (b1), .inr (.inr (.ref 93))]) (σ' := σ9) rfl ?_
            refine wk_ia tt_246 rfl rfl c30.1 c30.2 rb1 ?_
            rw [show (sg_g σ9 93 (b1)) = (sg_g σ 93 (b1)) from by rw [sg_F_ga hF10 rfl, sg_F_ga hF3 rfl]]
            refine wk_b tt_246 1 (pc' := 390) (ls' := [(0, .inr (.inr (.ref 88))), (1, .inl (b1)), (3, .inl (b3)), (4, .inl (b4)), (5, .inl (b5)), (6, .inl ((sg_g σ 88 91))), (7, .inl (v8))]) (st' := [.inl (10), .inl ((sg_g σ 93 (b1)))]) (σ' := σ9) rfl ?_
            refine wk_if2 tt_246 (tgt := 411) rfl rfl (sg_Rg _ _ _) (by decide) (fun (h60 : ¬ (sg_g σ 93 (b1)) = 10) => ?_) (fun (h60 : (sg_g σ 93 (b1)) = 10) => ?_)
            ·
              have w := w.1 h60
              exact wk_ls [(0, .inr (.inr (.ref 88))), (1, .inl (b1)), (3, .inl (b3)), (4, .inl (b4)), (5, .inl (b5)), (6, .inl ((sg_g σ 88 91))), (7, .inl (v8))] rfl ⟨rfl, rfl, rfl, rfl, rfl, rfl, rfl, trivial⟩ (jn32 σ9 (sg_F_r [103088, 104088] σ9) w)
            ·
              have w := w.2 h60
              refine wk_b tt_246 3 (pc' := 398) (ls' := [(0, .inr (.inr (.ref 88))), (1, .inl (b1)), (3, .inl (b3)), (4, .inl (b4)), (5, .inl (b5)), (6, .inl ((sg_g σ 88 91))), (7, .inl (v8))]) (st' := [.inl (v8), .inl (b5), .inr (.inr (.ref 88))]) (σ' := σ9) rfl ?_
              obtain ⟨c61, w⟩ := w
              refine wk_callp tt_246 rfl rfl rfl rfl rfl tt_322 rfl (by decide) (w_rowAt z σ9 (b5) (v8) rb5 r14 c61) ?_
              have r62 := vr_rowAt σ9  (b5) (v8) rb5 r14 c61
              refine wk_if tt_246 (tgt := 411) rfl rfl r62 (fun (h63 : ¬ (v_rowAt σ9 (b5) (v8)) = 0) => ?_) (fun (h63 : (v_rowAt σ9 (b5) (v8)) = 0) => ?_)
              ·
                have w := w.1 h63
                exact wk_ls [(0, .inr (.inr (.ref 88))), (1, .inl (b1)), (3, .inl (b3)), (4, .inl (b4)), (5, .inl (b5)), (6, .inl ((sg_g σ 88 91))), (7, .inl (v8))] rfl ⟨rfl, rfl, rfl, rfl, rfl, rfl, rfl, trivial⟩ (jn32 σ9 (sg_F_r [103088, 104088] σ9) w)
              ·
                have w := w.2 h63
                refine wk_b tt_246 3 (pc' := 408) (ls' := [(0, .inr (.inr (.ref 88))), (1, .inl (b1)), (3, .inl (b3)), (4, .inl (b4)), (5, .inl (b5)), (6, .inl ((sg_g σ 88 91))), (7, .inl (v8))]) (st' := [.inl (1), .inl (v8), .inr (.inr (.ref 88))]) (σ' := σ9) rfl ?_
                refine wk_call tt_246 rfl rfl rfl rfl rfl tt_276 rfl (by decide) (w_lacks z σ9 (v8) (1) _ r14 (by decide) w) (fun u69 σ65 hq67 => ?_)
                obtain ⟨rfl, hF66, w⟩ := hq67
                have w := w hF66
                exact wk_ls [(0, .inr (.inr (.ref 88))), (1, .inl (b1)), (3, .inl (b3)), (4, .inl (b4)), (5, .inl (b5)), (6, .inl ((sg_g σ 88 91))), (7, .inl (v8))] rfl ⟨rfl, rfl, rfl, rfl, rfl, rfl, rfl, trivial⟩ (jn32 σ65 (sg_F_t (sg_F_r [103088, 104088] σ9) (sg_F_m (L := [103088, 104088]) hF66 rfl)) w)
    exact wk_ls [(0, .inr (.inr (.ref 88))), (1, .inl (b1)), (3, .inl (b3)), (4, .inl (b4)), (5, .inl (b5)), (6, .inl ((sg_g σ 88 91))), (7, .inl (0))] rfl ⟨rfl, rfl, rfl, rfl, rfl, rfl, rfl, trivial⟩ (lp17 μ12 (0) σ2 (by decide) (sg_F_r _ _) w18)
  ·
    have w := w.2 h7
    refine wk_b tt_246 1 (pc' := 355) (ls' := [(0, .inr (.inr (.ref 88))), (1, .inl (b1)), (3, .inl (b3)), (4, .inl (b4)), (5, .inl (b5))]) (st' := [.inl (0)]) (σ' := σ2) rfl ?_
    exact wk_rI tt_246 rfl rfl ⟨_, rfl, (by decide), (sg_F_t (sg_F_r [139, 140, 141, 142, 74088, 85088, 86088, 88088, 92088, 103088, 104088] σ) (sg_F_m (L := [139, 140, 141, 142, 74088, 85088, 86088, 88088, 92088, 103088, 104088]) hF3 rfl)), w⟩
-- NestedVectorsModel.flatWorked
def V_flatWorked (σ : sg_S) (a1 : Int) (a2 : Int) (a3 : Int) (Q : Int → sg_S → Prop) : Prop := (0 ≤ a2 ∧ a2 < 12000) ∧ sg_R (a2 + 1) ∧ (0 ≤ (a2 + 1) ∧ (a2 + 1) < 12000) ∧ (0 ≤ a1 ∧ a1 < 210) ∧ (((sg_g σ 93 (a1)) = 0 → V_flatWorked_0 σ (a1) (a3) Q) ∧ (¬ (sg_g σ 93 (a1)) = 0 → (((sg_g σ 93 (a1)) = 11 → V_flatWorked_11 σ (a3) ((sg_g σ 133 (a2))) Q) ∧ (¬ (sg_g σ 93 (a1)) = 11 → (((sg_g σ 93 (a1)) = 12 → V_flatWorked_12 σ (a3) ((sg_g σ 133 (a2))) ((sg_g σ 133 ((a2 + 1)))) Q) ∧ (¬ (sg_g σ 93 (a1)) = 12 → (((sg_g σ 93 (a1)) = 14 → V_flatWorked_14 σ (a1) (a2) (a3) Q) ∧ (¬ (sg_g σ 93 (a1)) = 14 → (((sg_g σ 93 (a1)) = 16 → V_flatWorked_16 σ (a3) ((sg_g σ 133 (a2))) Q) ∧ (¬ (sg_g σ 93 (a1)) = 16 → (((sg_g σ 93 (a1)) = 17 → V_flatWorked_17 σ (a3) ((sg_g σ 133 (a2))) ((sg_g σ 133 ((a2 + 1)))) Q) ∧ (¬ (sg_g σ 93 (a1)) = 17 → (((sg_g σ 93 (a1)) = 18 → V_flatWorked_18 σ (a1) (a3) ((sg_g σ 133 (a2))) Q) ∧ (¬ (sg_g σ 93 (a1)) = 18 → (((sg_g σ 93 (a1)) = 19 → V_flatWorked_18 σ (a1) (a3) ((sg_g σ 133 (a2))) Q) ∧ (¬ (sg_g σ 93 (a1)) = 19 → (((sg_g σ 93 (a1)) = 20 → V_flatWorked_18 σ (a1) (a3) ((sg_g σ 133 (a2))) Q) ∧ (¬ (sg_g σ 93 (a1)) = 20 → (((sg_g σ 93 (a1)) = 21 → V_flatWorked_18 σ (a1) (a3) ((sg_g σ 133 (a2))) Q) ∧ (¬ (sg_g σ 93 (a1)) = 21 → (((sg_g σ 93 (a1)) = 22 → V_flatWorked_22 σ (a3) ((sg_g σ 133 (a2))) Q) ∧ (¬ (sg_g σ 93 (a1)) = 22 → (((sg_g σ 93 (a1)) = 23 → V_flatWorked_23 σ (a3) ((sg_g σ 133 (a2))) ((sg_g σ 133 ((a2 + 1)))) Q) ∧ (¬ (sg_g σ 93 (a1)) = 23 → (((sg_g σ 93 (a1)) = 24 → V_flatWorked_24 σ (a3) ((sg_g σ 133 (a2))) Q) ∧ (¬ (sg_g σ 93 (a1)) = 24 → (((sg_g σ 93 (a1)) = 25 → V_flatWorked_25 σ (a1) (a3) ((sg_g σ 133 (a2))) ((sg_g σ 133 ((a2 + 1)))) Q) ∧ (¬ (sg_g σ 93 (a1)) = 25 → (((sg_g σ 93 (a1)) = 26 → V_flatWorked_25 σ (a1) (a3) ((sg_g σ 133 (a2))) ((sg_g σ 133 ((a2 + 1)))) Q) ∧ (¬ (sg_g σ 93 (a1)) = 26 → (((sg_g σ 93 (a1)) = 27 → V_flatWorked_27 σ (a3) ((sg_g σ 133 (a2))) ((sg_g σ 133 ((a2 + 1)))) Q) ∧ (¬ (sg_g σ 93 (a1)) = 27 → V_flatWorked_d σ (a1) (a3) ((sg_g σ 133 (a2))) ((sg_g σ 133 ((a2 + 1)))) Q))))))))))))))))))))))))))))))))
set_option maxHeartbeats 4000000 in
set_option maxRecDepth 8000 in
theorem w_flatWorked (z : Value) (σ : sg_S) (a1 : Int) (a2 : Int) (a3 : Int) (Q : Int → sg_S → Prop) (ra1 : sg_R a1) (ra2 : sg_R a2) (ra3 : sg_R a3) (w : V_flatWorked σ a1 a2 a3 Q) : wx z 4 246 0 [(0, .inr (.inr (.ref 88))), (1, .inl (a1)), (2, .inl (a2)), (3, .inl (a3))] [] σ (fun v σ' => ∃ q, v = some (.inl q) ∧ sg_R q ∧ sg_F [133, 135, 139, 140, 141, 142, 143, 144, 150, 74088, 85088, 86088, 88088, 92088, 94088, 103088, 104088] σ σ' ∧ Q q σ') := by
  unfold V_flatWorked at w
  refine wk_b tt_246 3 (pc' := 5) (ls' := [(0, .inr (.inr (.ref 88))), (1, .inl (a1)), (2, .inl (a2)), (3, .inl (a3))]) (st' := [.inl (a2), .inr (.inr (.ref 133))]) (σ' := σ) rfl ?_
  obtain ⟨c1, w⟩ := w
  refine wk_ia tt_246 rfl rfl c1.1 c1.2 ra2 ?_
  obtain ⟨c2, w⟩ := w
  refine wk_b tt_246 6 (pc' := 15) (ls' := [(4, .inl ((sg_g σ 133 (a2)))), (0, .inr (.inr (.ref 88))), (1, .inl (a1)), (2, .inl (a2)), (3, .inl (a3))]) (st' := [.inl ((a2 + 1)), .inr (.inr (.ref 133))]) (σ' := σ) rfl ?_
  obtain ⟨c3, w⟩ := w
  refine wk_ia tt_246 rfl rfl c3.1 c3.2 c2 ?_
  refine wk_b tt_246 4 (pc' := 23) (ls' := [(5, .inl ((sg_g σ 133 ((a2 + 1))))), (4, .inl ((sg_g σ 133 (a2)))), (0, .inr (.inr (.ref 88))), (1, .inl (a1)), (2, .inl (a2)), (3, .inl (a3))]) (st' := [.inl (a1), .inr (.inr (.ref 93))]) (σ' := σ) rfl ?_
  obtain ⟨c4, w⟩ := w
  refine wk_ia tt_246 rfl rfl c4.1 c4.2 ra1 ?_
  by_cases e5 : (sg_g σ 93 (a1)) = 0
  · have w := w.1 e5
    refine wk_ts tt_246 (off := 128) (tgt := 152) rfl (sg_Rg _ _ _) (by rw [e5]; decide) rfl ?_
    refine wk_ls [(0, .inr (.inr (.ref 88))), (1, .inl (a1)), (3, .inl (a3))] rfl ⟨rfl, rfl, rfl, trivial⟩ ?_
    exact wk_post (wk_d (by decide) (w_flatWorked_0 z σ (a1) (a3) Q ra1 ra3 w)) (fun v σ' ⟨q, e, r, hF, hQ⟩ => ⟨q, e, r, sg_F_t (sg_F_r [133, 135, 139, 140, 141, 142, 143, 144, 150, 74088, 85088, 86088, 88088, 92088, 94088, 103088, 104088] σ) (sg_F_m hF rfl), hQ⟩)
  have w := w.2 e5
  by_cases e7 : (sg_g σ 93 (a1)) = 11
  · have w := w.1 e7
    refine wk_ts tt_246 (off := 178) (tgt := 202) rfl (sg_Rg _ _ _) (by rw [e7]; decide) rfl ?_
    refine wk_ls [(0, .inr (.inr (.ref 88))), (3, .inl (a3)), (4, .inl ((sg_g σ 133 (a2))))] rfl ⟨rfl, rfl, rfl, trivial⟩ ?_
    exact wk_post (wk_d (by decide) (w_flatWorked_11 z σ (a3) ((sg_g σ 133 (a2))) Q ra3 (sg_Rg _ _ _) w)) (fun v σ' ⟨q, e, r, hF, hQ⟩ => ⟨q, e, r, sg_F_t (sg_F_r [133, 135, 139, 140, 141, 142, 143, 144, 150, 74088, 85088, 86088, 88088, 92088, 94088, 103088, 104088] σ) (sg_F_m hF rfl), hQ⟩)
  have w := w.2 e7
  by_cases e9 : (sg_g σ 93 (a1)) = 12
  · have w := w.1 e9
    refine wk_ts tt_246 (off := 229) (tgt := 253) rfl (sg_Rg _ _ _) (by rw [e9]; decide) rfl ?_
    refine wk_ls [(0, .inr (.inr (.ref 88))), (3, .inl (a3)), (4, .inl ((sg_g σ 133 (a2)))), (5, .inl ((sg_g σ 133 ((a2 + 1)))))] rfl ⟨rfl, rfl, rfl, rfl, trivial⟩ ?_
    exact wk_post (wk_d (by decide) (w_flatWorked_12 z σ (a3) ((sg_g σ 133 (a2))) ((sg_g σ 133 ((a2 + 1)))) Q ra3 (sg_Rg _ _ _) (sg_Rg _ _ _) w)) (fun v σ' ⟨q, e, r, hF, hQ⟩ => ⟨q, e, r, sg_F_t (sg_F_r [133, 135, 139, 140, 141, 142, 143, 144, 150, 74088, 85088, 86088, 88088, 92088, 94088, 103088, 104088] σ) (sg_F_m hF rfl), hQ⟩)
  have w := w.2 e9
  by_cases e11 : (sg_g σ 93 (a1)) = 14
  · have w := w.1 e11
    refine wk_ts tt_246 (off := 239) (tgt := 263) rfl (sg_Rg _ _ _) (by rw [e11]; decide) rfl ?_
    refine wk_ls [(0, .inr (.inr (.ref 88))), (1, .inl (a1)), (2, .inl (a2)), (3, .inl (a3))] rfl ⟨rfl, rfl, rfl, rfl, trivial⟩ ?_
    exact wk_post (wk_d (by decide) (w_flatWorked_14 z σ (a1) (a2) (a3) Q ra1 ra2 ra3 w)) (fun v σ' ⟨q, e, r, hF, hQ⟩ => ⟨q, e, r, sg_F_t (sg_F_r [133, 135, 139, 140, 141, 142, 143, 144, 150, 74088, 85088, 86088, 88088, 92088, 94088, 103088, 104088] σ) (sg_F_m hF rfl), hQ⟩)
  have w := w.2 e11
  by_cases e13 : (sg_g σ 93 (a1)) = 16
  · have w := w.1 e13
    refine wk_ts tt_246 (off := 247) (tgt := 271) rfl (sg_Rg _ _ _) (by rw [e13]; decide) rfl ?_
    refine wk_ls [(0, .inr (.inr (.ref 88))), (3, .inl (a3)), (4, .inl ((sg_g σ 133 (a2))))] rfl ⟨rfl, rfl, rfl, trivial⟩ ?_
    exact wk_post (wk_d (by decide) (w_flatWorked_16 z σ (a3) ((sg_g σ 133 (a2))) Q ra3 (sg_Rg _ _ _) w)) (fun v σ' ⟨q, e, r, hF, hQ⟩ => ⟨q, e, r, sg_F_t (sg_F_r [133, 135, 139, 140, 141, 142, 143, 144, 150, 74088, 85088, 86088, 88088, 92088, 94088, 103088, 104088] σ) (sg_F_m hF rfl), hQ⟩)
  have w := w.2 e13
  by_cases e15 : (sg_g σ 93 (a1)) = 17
  · have w := w.1 e15
    refine wk_ts tt_246 (off := 255) (tgt := 279) rfl (sg_Rg _ _ _) (by rw [e15]; decide) rfl ?_
    refine wk_ls [(0, .inr (.inr (.ref 88))), (3, .inl (a3)), (4, .inl ((sg_g σ 133 (a2)))), (5, .inl ((sg_g σ 133 ((a2 + 1)))))] rfl ⟨rfl, rfl, rfl, rfl, trivial⟩ ?_
    exact wk_post (wk_d (by decide) (w_flatWorked_17 z σ (a3) ((sg_g σ 133 (a2))) ((sg_g σ 133 ((a2 + 1)))) Q ra3 (sg_Rg _ _ _) (sg_Rg _ _ _) w)) (fun v σ' ⟨q, e, r, hF, hQ⟩ => ⟨q, e, r, sg_F_t (sg_F_r [133, 135, 139, 140, 141, 142, 143, 144, 150, 74088, 85088, 86088, 88088, 92088, 94088, 103088, 104088] σ) (sg_F_m hF rfl), hQ⟩)
  have w := w.2 e15
  by_cases e17 : (sg_g σ 93 (a1)) = 18
  · have w := w.1 e17
    refine wk_ts tt_246 (off := 265) (tgt := 289) rfl (sg_Rg _ _ _) (by rw [e17]; decide) rfl ?_
    refine wk_ls [(0, .inr (.inr (.ref 88))), (1, .inl (a1)), (3, .inl (a3)), (4, .inl ((sg_g σ 133 (a2))))] rfl ⟨rfl, rfl, rfl, rfl, trivial⟩ ?_
    exact wk_post (wk_d (by decide) (w_flatWorked_18 z σ (a1) (a3) ((sg_g σ 133 (a2))) Q ra1 ra3 (sg_Rg _ _ _) w)) (fun v σ' ⟨q, e, r, hF, hQ⟩ => ⟨q, e, r, sg_F_t (sg_F_r [133, 135, 139, 140, 141, 142, 143, 144, 150, 74088, 85088, 86088, 88088, 92088, 94088, 103088, 104088] σ) (sg_F_m hF rfl), hQ⟩)
  have w := w.2 e17
  by_cases e19 : (sg_g σ 93 (a1)) = 19
  · have w := w.1 e19
    refine wk_ts tt_246 (off := 265) (tgt := 289) rfl (sg_Rg _ _ _) (by rw [e19]; decide) rfl ?_
    refine wk_ls [(0, .inr (.inr (.ref 88))), (1, .inl (a1)), (3, .inl (a3)), (4, .inl ((sg_g σ 133 (a2))))] rfl ⟨rfl, rfl, rfl, rfl, trivial⟩ ?_
    exact wk_post (wk_d (by decide) (w_flatWorked_18 z σ (a1) (a3) ((sg_g σ 133 (a2))) Q ra1 ra3 (sg_Rg _ _ _) w)) (fun v σ' ⟨q, e, r, hF, hQ⟩ => ⟨q, e, r, sg_F_t (sg_F_r [133, 135, 139, 140, 141, 142, 143, 144, 150, 74088, 85088, 86088, 88088, 92088, 94088, 103088, 104088] σ) (sg_F_m hF rfl), hQ⟩)
  have w := w.2 e19
  by_cases e21 : (sg_g σ 93 (a1)) = 20
  · have w := w.1 e21
    refine wk_ts tt_246 (off := 265) (tgt := 289) rfl (sg_Rg _ _ _) (by rw [e21]; decide) rfl ?_
    refine wk_ls [(0, .inr (.inr (.ref 88))), (1, .inl (a1)), (3, .inl (a3)), (4, .inl ((sg_g σ 133 (a2))))] rfl ⟨rfl, rfl, rfl, rfl, trivial⟩ ?_
    exact wk_post (wk_d (by decide) (w_flatWorked_18 z σ (a1) (a3) ((sg_g σ 133 (a2))) Q ra1 ra3 (sg_Rg _ _ _) w)) (fun v σ' ⟨q, e, r, hF, hQ⟩ => ⟨q, e, r, sg_F_t (sg_F_r [133, 135, 139, 140, 141, 142, 143, 144, 150, 74088, 85088, 86088, 88088, 92088, 94088, 103088, 104088] σ) (sg_F_m hF rfl), hQ⟩)
  have w := w.2 e21
  by_cases e23 : (sg_g σ 93 (a1)) = 21
  · have w := w.1 e23
    refine wk_ts tt_246 (off := 265) (tgt := 289) rfl (sg_Rg _ _ _) (by rw [e23]; decide) rfl ?_
    refine wk_ls [(0, .inr (.inr (.ref 88))), (1, .inl (a1)), (3, .inl (a3)), (4, .inl ((sg_g σ 133 (a2))))] rfl ⟨rfl, rfl, rfl, rfl, trivial⟩ ?_
    exact wk_post (wk_d (by decide) (w_flatWorked_18 z σ (a1) (a3) ((sg_g σ 133 (a2))) Q ra1 ra3 (sg_Rg _ _ _) w)) (fun v σ' ⟨q, e, r, hF, hQ⟩ => ⟨q, e, r, sg_F_t (sg_F_r [133, 135, 139, 140, 141, 142, 143, 144, 150, 74088, 85088, 86088, 88088, 92088, 94088, 103088, 104088] σ) (sg_F_m hF rfl), hQ⟩)
  have w := w.2 e23
  by_cases e25 : (sg_g σ 93 (a1)) = 22
  · have w := w.1 e25
    refine wk_ts tt_246 (off := 274) (tgt := 298) rfl (sg_Rg _ _ _) (by rw [e25]; decide) rfl ?_
    refine wk_ls [(0, .inr (.inr (.ref 88))), (3, .inl (a3)), (4, .inl ((sg_g σ 133 (a2))))] rfl ⟨rfl, rfl, rfl, trivial⟩ ?_
    exact wk_post (wk_d (by decide) (w_flatWorked_22 z σ (a3) ((sg_g σ 133 (a2))) Q ra3 (sg_Rg _ _ _) w)) (fun v σ' ⟨q, e, r, hF, hQ⟩ => ⟨q, e, r, sg_F_t (sg_F_r [133, 135, 139, 140, 141, 142, 143, 144, 150, 74088, 85088, 86088, 88088, 92088, 94088, 103088, 104088] σ) (sg_F_m hF rfl), hQ⟩)
  have w := w.2 e25
  by_cases e27 : (sg_g σ 93 (a1)) = 23
  · have w := w.1 e27
    refine wk_ts tt_246 (off := 282) (tgt := 306) rfl (sg_Rg _ _ _) (by rw [e27]; decide) rfl ?_
    refine wk_ls [(0, .inr (.inr (.ref 88))), (3, .inl (a3)), (4, .inl ((sg_g σ 133 (a2)))), (5, .inl ((sg_g σ 133 ((a2 + 1)))))] rfl ⟨rfl, rfl, rfl, rfl, trivial⟩ ?_
    exact wk_post (wk_d (by decide) (w_flatWorked_23 z σ (a3) ((sg_g σ 133 (a2))) ((sg_g σ 133 ((a2 + 1)))) Q ra3 (sg_Rg _ _ _) (sg_Rg _ _ _) w)) (fun v σ' ⟨q, e, r, hF, hQ⟩ => ⟨q, e, r, sg_F_t (sg_F_r [133, 135, 139, 140, 141, 142, 143, 144, 150, 74088, 85088, 86088, 88088, 92088, 94088, 103088, 104088] σ) (sg_F_m hF rfl), hQ⟩)
  have w := w.2 e27
  by_cases e29 : (sg_g σ 93 (a1)) = 24
  · have w := w.1 e29
    refine wk_ts tt_246 (off := 292) (tgt := 316) rfl (sg_Rg _ _ _) (by rw [e29]; decide) rfl ?_
    refine wk_ls [(0, .inr (.inr (.ref 88))), (3, .inl (a3)), (4, .inl ((sg_g σ 133 (a2))))] rfl ⟨rfl, rfl, rfl, trivial⟩ ?_
    exact wk_post (wk_d (by decide) (w_flatWorked_24 z σ (a3) ((sg_g σ 133 (a2))) Q ra3 (sg_Rg _ _ _) w)) (fun v σ' ⟨q, e, r, hF, hQ⟩ => ⟨q, e, r, sg_F_t (sg_F_r [133, 135, 139, 140, 141, 142, 143, 144, 150, 74088, 85088, 86088, 88088, 92088, 94088, 103088, 104088] σ) (sg_F_m hF rfl), hQ⟩)
  have w := w.2 e29
  by_cases e31 : (sg_g σ 93 (a1)) = 25
  · have w := w.1 e31
    refine wk_ts tt_246 (off := 300) (tgt := 324) rfl (sg_Rg _ _ _) (by rw [e31]; decide) rfl ?_
    refine wk_ls [(0, .inr (.inr (.ref 88))), (1, .inl (a1)), (3, .inl (a3)), (4, .inl ((sg_g σ 133 (a2)))), (5, .inl ((sg_g σ 133 ((a2 + 1)))))] rfl ⟨rfl, rfl, rfl, rfl, rfl, trivial⟩ ?_
    exact wk_post (wk_d (by decide) (w_flatWorked_25 z σ (a1) (a3) ((sg_g σ 133 (a2))) ((sg_g σ 133 ((a2 + 1)))) Q ra1 ra3 (sg_Rg _ _ _) (sg_Rg _ _ _) w)) (fun v σ' ⟨q, e, r, hF, hQ⟩ => ⟨q, e, r, sg_F_t (sg_F_r [133, 135, 139, 140, 141, 142, 143, 144, 150, 74088, 85088, 86088, 88088, 92088, 94088, 103088, 104088] σ) (sg_F_m hF rfl), hQ⟩)
  have w := w.2 e31
  by_cases e33 : (sg_g σ 93 (a1)) = 26
  · have w := w.1 e33
    refine wk_ts tt_246 (off := 300) (tgt := 324) rfl (sg_Rg _ _ _) (by rw [e33]; decide) rfl ?_
    refine wk_ls [(0, .inr (.inr (.ref 88))), (1, .inl (a1)), (3, .inl (a3)), (4, .inl ((sg_g σ 133 (a2)))), (5, .inl ((sg_g σ 133 ((a2 + 1)))))] rfl ⟨rfl, rfl, rfl, rfl, rfl, trivial⟩ ?_
    exact wk_post (wk_d (by decide) (w_flatWorked_25 z σ (a1) (a3) ((sg_g σ 133 (a2))) ((sg_g σ 133 ((a2 + 1)))) Q ra1 ra3 (sg_Rg _ _ _) (sg_Rg _ _ _) w)) (fun v σ' ⟨q, e, r, hF, hQ⟩ => ⟨q, e, r, sg_F_t (sg_F_r [133, 135, 139, 140, 141, 142, 143, 144, 150, 74088, 85088, 86088, 88088, 92088, 94088, 103088, 104088] σ) (sg_F_m hF rfl), hQ⟩)
  have w := w.2 e33
  by_cases e35 : (sg_g σ 93 (a1)) = 27
  · have w := w.1 e35
    refine wk_ts tt_246 (off := 311) (tgt := 335) rfl (sg_Rg _ _ _) (by rw [e35]; decide) rfl ?_
    refine wk_ls [(0, .inr (.inr (.ref 88))), (3, .inl (a3)), (4, .inl ((sg_g σ 133 (a2)))), (5, .inl ((sg_g σ 133 ((a2 + 1)))))] rfl ⟨rfl, rfl, rfl, rfl, trivial⟩ ?_
    exact wk_post (wk_d (by decide) (w_flatWorked_27 z σ (a3) ((sg_g σ 133 (a2))) ((sg_g σ 133 ((a2 + 1)))) Q ra3 (sg_Rg _ _ _) (sg_Rg _ _ _) w)) (fun v σ' ⟨q, e, r, hF, hQ⟩ => ⟨q, e, r, sg_F_t (sg_F_r [133, 135, 139, 140, 141, 142, 143, 144, 150, 74088, 85088, 86088, 88088, 92088, 94088, 103088, 104088] σ) (sg_F_m hF rfl), hQ⟩)
  have w := w.2 e35
  refine wk_ts tt_246 (off := 321) (tgt := 345) rfl (sg_Rg _ _ _) (by rcases sw_lo ((sg_g σ 93 (a1))) 0 with h | h; (unfold bm_swt; rw [if_pos (Or.inl h)]); by_cases g1 : (sg_g σ 93 (a1)) = 1; (rw [g1]; decide); by_cases g2 : (sg_g σ 93 (a1)) = 2; (rw [g2]; decide); by_cases g3 : (sg_g σ 93 (a1)) = 3; (rw [g3]; decide); by_cases g4 : (sg_g σ 93 (a1)) = 4; (rw [g4]; decide); by_cases g5 : (sg_g σ 93 (a1)) = 5; (rw [g5]; decide); by_cases g6 : (sg_g σ 93 (a1)) = 6; (rw [g6]; decide); by_cases g7 : (sg_g σ 93 (a1)) = 7; (rw [g7]; decide); by_cases g8 : (sg_g σ 93 (a1)) = 8; (rw [g8]; decide); by_cases g9 : (sg_g σ 93 (a1)) = 9; (rw [g9]; decide); by_cases g10 : (sg_g σ 93 (a1)) = 10; (rw [g10]; decide); by_cases g13 : (sg_g σ 93 (a1)) = 13; (rw [g13]; decide); by_cases g15 : (sg_g σ 93 (a1)) = 15; (rw [g15]; decide); (unfold bm_swt; rw [if_pos (Or.inr (Int.lt_of_add_one_le (sw_st (k := 27) (sw_st (k := 26) (sw_st (k := 25) (sw_st (k := 24) (sw_st (k := 23) (sw_st (k := 22) (sw_st (k := 21) (sw_st (k := 20) (sw_st (k := 19) (sw_st (k := 18) (sw_st (k := 17) (sw_st (k := 16) (sw_st (k := 15) (sw_st (k := 14) (sw_st (k := 13) (sw_st (k := 12) (sw_st (k := 11) (sw_st (k := 10) (sw_st (k := 9) (sw_st (k := 8) (sw_st (k := 7) (sw_st (k := 6) (sw_st (k := 5) (sw_st (k := 4) (sw_st (k := 3) (sw_st (k := 2) (sw_st (k := 1) (sw_st (k := 0) h e5) g1) g2) g3) g4) g5) g6) g7) g8) g9) g10) e7) e9) g13) e11) g15) e13) e15) e17) e19) e21) e23) e25) e27) e29) e31) e33) e35)))])) rfl ?_
  refine wk_ls [(0, .inr (.inr (.ref 88))), (1, .inl (a1)), (3, .inl (a3)), (4, .inl ((sg_g σ 133 (a2)))), (5, .inl ((sg_g σ 133 ((a2 + 1)))))] rfl ⟨rfl, rfl, rfl, rfl, rfl, trivial⟩ ?_
  exact wk_post (wk_d (by decide) (w_flatWorked_d z σ (a1) (a3) ((sg_g σ 133 (a2))) ((sg_g σ 133 ((a2 + 1)))) Q ra1 ra3 (sg_Rg _ _ _) (sg_Rg _ _ _) w)) (fun v σ' ⟨q, e, r, hF, hQ⟩ => ⟨q, e, r, sg_F_t (sg_F_r [133, 135, 139, 140, 141, 142, 143, 144, 150, 74088, 85088, 86088, 88088, 92088, 94088, 103088, 104088] σ) (sg_F_m hF rfl), hQ⟩)
-- NestedVectorsModel.flatLeave
def V_flatLeave (σ : sg_S) (a1 : Int) (Q : sg_S → Prop) : Prop := sg_R ((sg_g σ 88 62) - 1) ∧ ∀ σ2, σ2 = (sg_w σ 88 62 (((sg_g σ 88 62) - 1))) → (0 ≤ ((sg_g σ 88 62) - 1) ∧ ((sg_g σ 88 62) - 1) < 4000) ∧ ∀ σ6, σ6 = (sg_w σ2 88 70 ((sg_g σ 128 (((sg_g σ 88 62) - 1))))) → (0 ≤ (sg_g σ 128 (((sg_g σ 88 62) - 1))) ∧ (sg_g σ 128 (((sg_g σ 88 62) - 1))) < 12000) ∧ ∀ σ10, σ10 = (sg_w σ6 133 ((sg_g σ 128 (((sg_g σ 88 62) - 1)))) (a1)) → sg_R ((sg_g σ 128 (((sg_g σ 88 62) - 1))) + 1) ∧ ∀ σ14, σ14 = (sg_w σ10 88 70 (((sg_g σ 128 (((sg_g σ 88 62) - 1))) + 1))) → Q σ14
set_option maxHeartbeats 4000000 in
set_option maxRecDepth 8000 in
theorem w_flatLeave (z : Value) (σ : sg_S) (a1 : Int) (Q : sg_S → Prop) (ra1 : sg_R a1) (w : V_flatLeave σ a1 Q) : wx z 0 242 0 [(0, .inr (.inr (.ref 88))), (1, .inl (a1))] [] σ (fun v σ' => v = none ∧ sg_F [133, 63088, 71088] σ σ' ∧ Q σ') := by
  unfold V_flatLeave at w
  obtain ⟨c1, w⟩ := w
  refine wk_b tt_242 6 (pc' := 10) (ls' := [(0, .inr (.inr (.ref 88))), (1, .inl (a1))]) (st' := []) (σ' := (sg_w σ 88 62 (((sg_g σ 88 62) - 1)))) rfl ?_
  generalize hs3 : (sg_w σ 88 62 (((sg_g σ 88 62) - 1))) = σ2
  have w := w σ2 hs3.symm
  have hF4 : sg_F [63088] σ σ2 := by rw [← hs3]; exact sg_F_w (sg_F_r _ _) rfl _
  refine wk_b tt_242 5 (pc' := 19) (ls' := [(0, .inr (.inr (.ref 88))), (1, .inl (a1))]) (st' := [.inl ((sg_g σ2 88 62)), .inr (.inr (.ref 128)), .inr (.inr (.ref 88))]) (σ' := σ2) rfl ?_
  rw [show (sg_g σ2 88 62) = ((sg_g σ 88 62) - 1) from by rw [(show sg_g σ2 88 62 = ((sg_g σ 88 62) - 1) from by rw [← hs3]; exact sg_gw_e _ _ _ _ c1)]]
  obtain ⟨c5, w⟩ := w
  refine wk_ia tt_242 rfl rfl c5.1 c5.2 c1 ?_
  rw [show (sg_g σ2 128 (((sg_g σ 88 62) - 1))) = (sg_g σ 128 (((sg_g σ 88 62) - 1))) from by rw [sg_F_ga hF4 rfl]]
  refine wk_b tt_242 1 (pc' := 23) (ls' := [(0, .inr (.inr (.ref 88))), (1, .inl (a1))]) (st' := []) (σ' := (sg_w σ2 88 70 ((sg_g σ 128 (((sg_g σ 88 62) - 1)))))) rfl ?_
  generalize hs7 : (sg_w σ2 88 70 ((sg_g σ 128 (((sg_g σ 88 62) - 1))))) = σ6
  have w := w σ6 hs7.symm
  have hF8 : sg_F [71088] σ2 σ6 := by rw [← hs7]; exact sg_F_w (sg_F_r _ _) rfl _
  refine wk_b tt_242 5 (pc' := 32) (ls' := [(0, .inr (.inr (.ref 88))), (1, .inl (a1))]) (st' := [.inl (a1), .inl ((sg_g σ6 88 70)), .inr (.inr (.ref 133))]) (σ' := σ6) rfl ?_
  rw [show (sg_g σ6 88 70) = (sg_g σ 128 (((sg_g σ 88 62) - 1))) from by rw [(show sg_g σ6 88 70 = (sg_g σ 128 (((sg_g σ 88 62) - 1))) from by rw [← hs7]; exact sg_gw_e _ _ _ _ (sg_Rg _ _ _))]]
  obtain ⟨c9, w⟩ := w
  refine wk_is tt_242 rfl rfl c9.1 c9.2 (sg_Rg _ _ _) ?_
  generalize hs11 : (sg_w σ6 133 ((sg_g σ 128 (((sg_g σ 88 62) - 1)))) (a1)) = σ10
  have w := w σ10 hs11.symm
  have hF12 : sg_F [133] σ6 σ10 := by rw [← hs11]; exact sg_F_w (sg_F_r _ _) rfl _
  obtain ⟨c13, w⟩ := w
  refine wk_b tt_242 6 (pc' := 43) (ls' := [(0, .inr (.inr (.ref 88))), (1, .inl (a1))]) (st' := []) (σ' := (sg_w σ10 88 70 (((sg_g σ10 88 70) + 1)))) rfl ?_
  rw [show (sg_g σ10 88 70) = (sg_g σ 128 (((sg_g σ 88 62) - 1))) from by rw [sg_F_ga hF12 rfl, (show sg_g σ6 88 70 = (sg_g σ 128 (((sg_g σ 88 62) - 1))) from by rw [← hs7]; exact sg_gw_e _ _ _ _ (sg_Rg _ _ _))]]
  generalize hs15 : (sg_w σ10 88 70 (((sg_g σ 128 (((sg_g σ 88 62) - 1))) + 1))) = σ14
  have w := w σ14 hs15.symm
  have hF16 : sg_F [71088] σ10 σ14 := by rw [← hs15]; exact sg_F_w (sg_F_r _ _) rfl _
  exact wk_rV tt_242 rfl rfl ⟨rfl, (sg_F_t (sg_F_t (sg_F_t (sg_F_t (sg_F_r [133, 63088, 71088] σ) (sg_F_m (L := [133, 63088, 71088]) hF4 rfl)) (sg_F_m (L := [133, 63088, 71088]) hF8 rfl)) (sg_F_m (L := [133, 63088, 71088]) hF12 rfl)) (sg_F_m (L := [133, 63088, 71088]) hF16 rfl)), w⟩
-- NestedVectorsModel.ofParam
def v_ofParam  (a0 : Int) (a1 : Int) : Int := ((1100 + (6 * a0)) + a1)
def p_ofParam  (a0 : Int) (a1 : Int) : Prop := sg_R (6 * a0) ∧ sg_R (1100 + (6 * a0)) ∧ sg_R ((1100 + (6 * a0)) + a1) ∧ True
set_option maxHeartbeats 4000000 in
set_option maxRecDepth 8000 in
theorem w_ofParam (z : Value) (σ : sg_S) (a0 : Int) (a1 : Int) (ra0 : sg_R a0) (ra1 : sg_R a1) (w : p_ofParam a0 a1) : wx z 0 298 0 [(0, .inl (a0)), (1, .inl (a1))] [] σ (fun v σ' => v = some (.inl (v_ofParam a0 a1)) ∧ σ' = σ) := by
  unfold p_ofParam at w
  obtain ⟨c1, w⟩ := w
  obtain ⟨c2, w⟩ := w
  obtain ⟨c3, w⟩ := w
  refine wk_b tt_298 7 (pc' := 10) (ls' := [(0, .inl (a0)), (1, .inl (a1))]) (st' := [.inl (((1100 + (6 * a0)) + a1))]) (σ' := σ) rfl ?_
  exact wk_rI tt_298 rfl rfl ⟨by rw [v_ofParam], rfl⟩
theorem vr_ofParam  (a0 : Int) (a1 : Int) (ra0 : sg_R a0) (ra1 : sg_R a1) (w : p_ofParam a0 a1) : sg_R (v_ofParam a0 a1) := by
  unfold v_ofParam
  unfold p_ofParam at w
  first | exact w.1 | exact w.2.1 | exact w.2.2.1 | exact sg_Rg _ _ _ | exact sg_Rgl _ _ _ | exact sg_Rr _ | exact sg_RLr _ | assumption | omega | (constructor <;> omega)
-- NestedVectorsModel.restore
def V_restore (σ : sg_S) (a1 : Int) (Q : sg_S → Prop) : Prop := (∃ (I3 : Nat → sg_S → Prop) (X5 : sg_S → Prop), (∃ n, I3 n σ) ∧ (∀ (n12 : Nat) (σ1 : sg_S), sg_F [134, 100088] σ σ1 → I3 n12 σ1 → (((sg_g σ1 88 99) ≤ a1 → X5 σ1) ∧ (a1 < (sg_g σ1 88 99) → sg_R ((sg_g σ1 88 99) - 1) ∧ ∀ σ16, σ16 = (sg_w σ1 88 99 (((sg_g σ1 88 99) - 1))) → (0 ≤ ((sg_g σ1 88 99) - 1) ∧ ((sg_g σ1 88 99) - 1) < 12000) ∧ (0 ≤ (sg_g σ 148 (((sg_g σ1 88 99) - 1))) ∧ (sg_g σ 148 (((sg_g σ1 88 99) - 1))) < 1200) ∧ ∀ σ21, σ21 = (sg_w σ16 134 ((sg_g σ 148 (((sg_g σ1 88 99) - 1)))) ((sg_g σ 149 (((sg_g σ1 88 99) - 1))))) → (∃ m, m < n12 ∧ I3 m σ21)))) ∧ (∀ (σ1 : sg_S), sg_F [134, 100088] σ σ1 → X5 σ1 → Q σ1))
set_option maxHeartbeats 4000000 in
set_option maxRecDepth 8000 in
theorem w_restore (z : Value) (σ : sg_S) (a1 : Int) (Q : sg_S → Prop) (ra1 : sg_R a1) (w : V_restore σ a1 Q) : wx z 0 321 0 [(0, .inr (.inr (.ref 88))), (1, .inl (a1))] [] σ (fun v σ' => v = none ∧ sg_F [134, 100088] σ σ' ∧ Q σ') := by
  unfold V_restore at w
  obtain ⟨I3, X5, ⟨μ4, w9⟩, w10, w11⟩ := w
  have ex13 : ∀ (σ1 : sg_S), sg_F [134, 100088] σ σ1 → X5 σ1 → wx z 0 321 44 [] [] σ1 (fun v σ' => v = none ∧ sg_F [134, 100088] σ σ' ∧ Q σ') := by
    intro σ1 hF2 w
    have w := w11 σ1 hF2 w
    exact wk_rV tt_321 rfl rfl ⟨rfl, (sg_F_t (sg_F_r [134, 100088] σ) (sg_F_m (L := [134, 100088]) hF2 rfl)), w⟩
  have lp8 : ∀ (n12 : Nat) (σ1 : sg_S), sg_F [134, 100088] σ σ1 → I3 n12 σ1 → wx z 0 321 0 [(0, .inr (.inr (.ref 88))), (1, .inl (a1))] [] σ1 (fun v σ' => v = none ∧ sg_F [134, 100088] σ σ' ∧ Q σ') := by
    intro n12
    induction n12 using Nat.strongRecOn with
    | _ n12 ih6 =>
      intro σ1 hF2 w
      have w := w10 n12 σ1 hF2 w
      refine wk_b tt_321 3 (pc' := 5) (ls' := [(0, .inr (.inr (.ref 88))), (1, .inl (a1))]) (st' := [.inl (a1), .inl ((sg_g σ1 88 99))]) (σ' := σ1) rfl ?_
      refine wk_if2 tt_321 (tgt := 44) rfl rfl (sg_Rg _ _ _) ra1 (fun (h14 : (sg_g σ1 88 99) ≤ a1) => ?_) (fun (h14 : a1 < (sg_g σ1 88 99)) => ?_)
      ·
        have w := w.1 h14
        exact wk_ls [] rfl trivial (ex13  σ1  (sg_F_t (sg_F_r [134, 100088] σ) (sg_F_m (L := [134, 100088]) hF2 rfl)) w)
      ·
        have w := w.2 h14
        obtain ⟨c15, w⟩ := w
        refine wk_b tt_321 6 (pc' := 18) (ls' := [(0, .inr (.inr (.ref 88))), (1, .inl (a1))]) (st' := []) (σ' := (sg_w σ1 88 99 (((sg_g σ1 88 99) - 1)))) rfl ?_
        generalize hs17 : (sg_w σ1 88 99 (((sg_g σ1 88 99) - 1))) = σ16
        have w := w σ16 hs17.symm
        have hF18 : sg_F [100088] σ1 σ16 := by rw [← hs17]; exact sg_F_w (sg_F_r _ _) rfl _
        refine wk_b tt_321 6 (pc' := 30) (ls' := [(0, .inr (.inr (.ref 88))), (1, .inl (a1))]) (st' := [.inl ((sg_g σ16 88 99)), .inr (.inr (.ref 148)), .inr (.inr (.ref 134))]) (σ' := σ16) rfl ?_
        rw [show (sg_g σ16 88 99) = ((sg_g σ1 88 99) - 1) from by rw [(show sg_g σ16 88 99 = ((sg_g σ1 88 99) - 1) from by rw [← hs17]; exact sg_gw_e _ _ _ _ c15)]]
        obtain ⟨c19, w⟩ := w
        refine wk_ia tt_321 rfl rfl c19.1 c19.2 c15 ?_
        rw [show (sg_g σ16 148 (((sg_g σ1 88 99) - 1))) = (sg_g σ 148 (((sg_g σ1 88 99) - 1))) from by rw [sg_F_ga hF18 rfl, sg_F_ga hF2 rfl]]
        refine wk_b tt_321 4 (pc' := 39) (ls' := [(0, .inr (.inr (.ref 88))), (1, .inl (a1))]) (st' := [.inl ((sg_g σ16 88 99)), .inr (.inr (.ref 149)), .inl ((sg_g σ 148 (((sg_g σ1 88 99) - 1)))), .inr (.inr (.ref 134))]) (σ' := σ16) rfl ?_
        rw [show (sg_g σ16 88 99) = ((sg_g σ1 88 99) - 1) from by rw [(show sg_g σ16 88 99 = ((sg_g σ1 88 99) - 1) from by rw [← hs17]; exact sg_gw_e _ _ _ _ c15)]]
        refine wk_ia tt_321 rfl rfl c19.1 c19.2 c15 ?_
        rw [show (sg_g σ16 149 (((sg_g σ1 88 99) - 1))) = (sg_g σ 149 (((sg_g σ1 88 99) - 1))) from by rw [sg_F_ga hF18 rfl, sg_F_ga hF2 rfl]]
        obtain ⟨c20, w⟩ := w
        refine wk_is tt_321 rfl rfl c20.1 c20.2 (sg_Rg _ _ _) ?_
        generalize hs22 : (sg_w σ16 134 ((sg_g σ 148 (((sg_g σ1 88 99) - 1)))) ((sg_g σ 149 (((sg_g σ1 88 99) - 1))))) = σ21
        have w := w σ21 hs22.symm
        have hF23 : sg_F [134] σ16 σ21 := by rw [← hs22]; exact sg_F_w (sg_F_r _ _) rfl _
        refine wk_b tt_321 1 (pc' := 0) (ls' := [(0, .inr (.inr (.ref 88))), (1, .inl (a1))]) (st' := []) (σ' := σ21) rfl ?_
        obtain ⟨m24, hm24, w⟩ := w
        exact wk_ls [(0, .inr (.inr (.ref 88))), (1, .inl (a1))] rfl ⟨rfl, rfl, trivial⟩ (ih6 m24 hm24  σ21  (sg_F_t (sg_F_t (sg_F_t (sg_F_r [134, 100088] σ) (sg_F_m (L := [134, 100088]) hF2 rfl)) (sg_F_m (L := [134, 100088]) hF18 rfl)) (sg_F_m (L := [134, 100088]) hF23 rfl)) w)
  exact wk_ls [(0, .inr (.inr (.ref 88))), (1, .inl (a1))] rfl ⟨rfl, rfl, trivial⟩ (lp8 μ4  σ  (sg_F_r _ _) w9)
-- NestedVectorsModel.markInside
def V_markInside (σ : sg_S) (a1 : Int) (Q : sg_S → Prop) : Prop := ∀ σ1, σ1 = (sg_w σ 88 49 (1)) → ∀ σ4, σ4 = (sg_w σ1 121 (0) (a1)) → (∃ (I9 : Nat → sg_S → Prop) (X11 : sg_S → Prop), (∃ n, I9 n σ4) ∧ (∀ (n18 : Nat) (σ7 : sg_S), sg_F [120, 121, 50088] σ4 σ7 → I9 n18 σ7 → (((sg_g σ7 88 49) ≤ 0 → X11 σ7) ∧ (0 < (sg_g σ7 88 49) → sg_R ((sg_g σ7 88 49) - 1) ∧ ∀ σ22, σ22 = (sg_w σ7 88 49 (((sg_g σ7 88 49) - 1))) → (0 ≤ ((sg_g σ7 88 49) - 1) ∧ ((sg_g σ7 88 49) - 1) < 420) ∧ (0 ≤ (sg_g σ7 121 (((sg_g σ7 88 49) - 1))) ∧ (sg_g σ7 121 (((sg_g σ7 88 49) - 1))) < 210) ∧ ∀ σ27, σ27 = (sg_w σ22 120 ((sg_g σ7 121 (((sg_g σ7 88 49) - 1)))) (1)) → (∃ (I33 : Nat → Int → sg_S → Prop) (X35 : sg_S → Prop), (∃ n, I33 n (0) σ27) ∧ (∀ (n43 : Nat) (v30 : Int) (σ31 : sg_S), sg_R v30 → sg_F [121, 50088] σ27 σ31 → I33 n43 v30 σ31 → (((sg_g σ 96 ((sg_g σ7 121 (((sg_g σ7 88 49) - 1))))) ≤ v30 → X35 σ31) ∧ (v30 < (sg_g σ 96 ((sg_g σ7 121 (((sg_g σ7 88 49) - 1))))) → sg_R (200 * (sg_g σ7 121 (((sg_g σ7 88 49) - 1)))) ∧ sg_R ((200 * (sg_g σ7 121 (((sg_g σ7 88 49) - 1)))) + v30) ∧ (0 ≤ ((200 * (sg_g σ7 121 (((sg_g σ7 88 49) - 1)))) + v30) ∧ ((200 * (sg_g σ7 121 (((sg_g σ7 88 49) - 1)))) + v30) < 42000) ∧ (0 ≤ (sg_g σ31 88 49) ∧ (sg_g σ31 88 49) < 420) ∧ ∀ σ51, σ51 = (sg_w σ31 121 ((sg_g σ31 88 49)) ((sg_g σ 97 (((200 * (sg_g σ7 121 (((sg_g σ7 88 49) - 1)))) + v30))))) → sg_R ((sg_g σ31 88 49) + 1) ∧ ∀ σ55, σ55 = (sg_w σ51 88 49 (((sg_g σ31 88 49) + 1))) → sg_R (v30 + 1) ∧ (∃ m, m < n43 ∧ I33 m ((v30 + 1)) σ55)))) ∧ (∀ (σ31 : sg_S), sg_F [121, 50088] σ27 σ31 → X35 σ31 → (∃ m, m < n18 ∧ I9 m σ31)))))) ∧ (∀ (σ7 : sg_S), sg_F [120, 121, 50088] σ4 σ7 → X11 σ7 → Q σ7))
set_option maxHeartbeats 4000000 in
set_option maxRecDepth 8000 in
theorem w_markInside (z : Value) (σ : sg_S) (a1 : Int) (Q : sg_S → Prop) (ra1 : sg_R a1) (w : V_markInside σ a1 Q) : wx z 0 290 0 [(0, .inr (.inr (.ref 88))), (1, .inl (a1))] [] σ (fun v σ' => v = none ∧ sg_F [120, 121, 50088] σ σ' ∧ Q σ') := by
  unfold V_markInside at w
  refine wk_b tt_290 3 (pc' := 5) (ls' := [(0, .inr (.inr (.ref 88))), (1, .inl (a1))]) (st' := []) (σ' := (sg_w σ 88 49 (1))) rfl ?_
  generalize hs2 : (sg_w σ 88 49 (1)) = σ1
  have w := w σ1 hs2.symm
  have hF3 : sg_F [50088] σ σ1 := by rw [← hs2]; exact sg_F_w (sg_F_r _ _) rfl _
  refine wk_b tt_290 4 (pc' := 11) (ls' := [(0, .inr (.inr (.ref 88))), (1, .inl (a1))]) (st' := [.inl (a1), .inl (0), .inr (.inr (.ref 121))]) (σ' := σ1) rfl ?_
  refine wk_is tt_290 rfl rfl (by decide) (by decide) (by decide) ?_
  generalize hs5 : (sg_w σ1 121 (0) (a1)) = σ4
  have w := w σ4 hs5.symm
  have hF6 : sg_F [121] σ1 σ4 := by rw [← hs5]; exact sg_F_w (sg_F_r _ _) rfl _
  obtain ⟨I9, X11, ⟨μ10, w15⟩, w16, w17⟩ := w
  have ex19 : ∀ (σ7 : sg_S), sg_F [120, 121, 50088] σ4 σ7 → X11 σ7 → wx z 0 290 98 [] [] σ7 (fun v σ' => v = none ∧ sg_F [120, 121, 50088] σ σ' ∧ Q σ') := by
    intro σ7 hF8 w
    have w := w17 σ7 hF8 w
    exact wk_rV tt_290 rfl rfl ⟨rfl, (sg_F_t (sg_F_t (sg_F_t (sg_F_r [120, 121, 50088] σ) (sg_F_m (L := [120, 121, 50088]) hF3 rfl)) (sg_F_m (L := [120, 121, 50088]) hF6 rfl)) (sg_F_m (L := [120, 121, 50088]) hF8 rfl)), w⟩
  have lp14 : ∀ (n18 : Nat) (σ7 : sg_S), sg_F [120, 121, 50088] σ4 σ7 → I9 n18 σ7 → wx z 0 290 12 [(0, .inr (.inr (.ref 88)))] [] σ7 (fun v σ' => v = none ∧ sg_F [120, 121, 50088] σ σ' ∧ Q σ') := by
    intro n18
    induction n18 using Nat.strongRecOn with
    | _ n18 ih12 =>
      intro σ7 hF8 w
      have w := w16 n18 σ7 hF8 w
      refine wk_b tt_290 2 (pc' := 16) (ls' := [(0, .inr (.inr (.ref 88)))]) (st' := [.inl ((sg_g σ7 88 49))]) (σ' := σ7) rfl ?_
      refine wk_if tt_290 (tgt := 98) rfl rfl (sg_Rg _ _ _) (fun (h20 : (sg_g σ7 88 49) ≤ 0) => ?_) (fun (h20 : 0 < (sg_g σ7 88 49)) => ?_)
      ·
        have w := w.1 h20
        exact wk_ls [] rfl trivial (ex19  σ7  (sg_F_t (sg_F_r [120, 121, 50088] σ4) (sg_F_m (L := [120, 121, 50088]) hF8 rfl)) w)
      ·
        have w := w.2 h20
        obtain ⟨c21, w⟩ := w
        refine wk_b tt_290 6 (pc' := 29) (ls' := [(0, .inr (.inr (.ref 88)))]) (st' := []) (σ' := (sg_w σ7 88 49 (((sg_g σ7 88 49) - 1)))) rfl ?_
        generalize hs23 : (sg_w σ7 88 49 (((sg_g σ7 88 49) - 1))) = σ22
        have w := w σ22 hs23.symm
        have hF24 : sg_F [50088] σ7 σ22 := by rw [← hs23]; exact sg_F_w (sg_F_r _ _) rfl _
        refine wk_b tt_290 4 (pc' := 37) (ls' := [(0, .inr (.inr (.ref 88)))]) (st' := [.inl ((sg_g σ22 88 49)), .inr (.inr (.ref 121))]) (σ' := σ22) rfl ?_
        rw [show (sg_g σ22 88 49) = ((sg_g σ7 88 49) - 1) from by rw [(show sg_g σ22 88 49 = ((sg_g σ7 88 49) - 1) from by rw [← hs23]; exact sg_gw_e _ _ _ _ c21)]]
        obtain ⟨c25, w⟩ := w
        refine wk_ia tt_290 rfl rfl c25.1 c25.2 c21 ?_
        rw [show (sg_g σ22 121 (((sg_g σ7 88 49) - 1))) = (sg_g σ7 121 (((sg_g σ7 88 49) - 1))) from by rw [sg_F_ga hF24 rfl]]
        refine wk_b tt_290 5 (pc' := 45) (ls' := [(2, .inl ((sg_g σ7 121 (((sg_g σ7 88 49) - 1))))), (0, .inr (.inr (.ref 88)))]) (st' := [.inl (1), .inl ((sg_g σ7 121 (((sg_g σ7 88 49) - 1)))), .inr (.inr (.ref 120))]) (σ' := σ22) rfl ?_
        obtain ⟨c26, w⟩ := w
        refine wk_bs (Or.inr rfl) tt_290 rfl rfl c26.1 c26.2 (sg_Rg _ _ _) ?_
        rw [show (am_nb 3 (sg_i (1))).toInt = 1 from by decide]
        generalize hs28 : (sg_w σ22 120 ((sg_g σ7 121 (((sg_g σ7 88 49) - 1)))) (1)) = σ27
        have w := w σ27 hs28.symm
        have hF29 : sg_F [120] σ22 σ27 := by rw [← hs28]; exact sg_F_w (sg_F_r _ _) rfl _
        refine wk_b tt_290 2 (pc' := 48) (ls' := [(3, .inl (0)), (2, .inl ((sg_g σ7 121 (((sg_g σ7 88 49) - 1))))), (0, .inr (.inr (.ref 88)))]) (st' := []) (σ' := σ27) rfl ?_
        obtain ⟨I33, X35, ⟨μ34, w40⟩, w41, w42⟩ := w
        have ex44 : ∀ (σ31 : sg_S), sg_F [121, 50088] σ27 σ31 → X35 σ31 → wx z 0 290 95 [(0, .inr (.inr (.ref 88)))] [] σ31 (fun v σ' => v = none ∧ sg_F [120, 121, 50088] σ σ' ∧ Q σ') := by
          intro σ31 hF32 w
          have w := w42 σ31 hF32 w
          refine wk_b tt_290 1 (pc' := 12) (ls' := [(0, .inr (.inr (.ref 88)))]) (st' := []) (σ' := σ31) rfl ?_
          obtain ⟨m45, hm45, w⟩ := w
          exact wk_ls [(0, .inr (.inr (.ref 88)))] rfl ⟨rfl, trivial⟩ (ih12 m45 hm45  σ31  (sg_F_t (sg_F_t (sg_F_t (sg_F_t (sg_F_r [120, 121, 50088] σ4) (sg_F_m (L := [120, 121, 50088]) hF8 rfl)) (sg_F_m (L := [120, 121, 50088]) hF24 rfl)) (sg_F_m (L := [120, 121, 50088]) hF29 rfl)) (sg_F_m (L := [120, 121, 50088]) hF32 rfl)) w)
        have lp39 : ∀ (n43 : Nat) (v30 : Int) (σ31 : sg_S), sg_R v30 → sg_F [121, 50088] σ27 σ31 → I33 n43 v30 σ31 → wx z 0 290 48 [(0, .inr (.inr (.ref 88))), (2, .inl ((sg_g σ7 121 (((sg_g σ7 88 49) - 1))))), (3, .inl (v30))] [] σ31 (fun v σ' => v = none ∧ sg_F [120, 121, 50088] σ σ' ∧ Q σ') := by
          intro n43
          induction n43 using Nat.strongRecOn with
          | _ n43 ih37 =>
            intro v30 σ31 r36 hF32 w
            have w := w41 n43 v30 σ31 r36 hF32 w
            refine wk_b tt_290 4 (pc' := 54) (ls' := [(0, .inr (.inr (.ref 88))), (2, .inl ((sg_g σ7 121 (((sg_g σ7 88 49) - 1))))), (3, .inl (v30))]) (st' := [.inl ((sg_g σ7 121 (((sg_g σ7 88 49) - 1)))), .inr (.inr (.ref 96)), .inl (v30)]) (σ' := σ31) rfl ?_
            refine wk_ia tt_290 rfl rfl c26.1 c26.2 (sg_Rg _ _ _) ?_
            rw [show (sg_g σ31 96 ((sg_g σ7 121 (((sg_g σ7 88 49) - 1))))) = (sg_g σ 96 ((sg_g σ7 121 (((sg_g σ7 88 49) - 1))))) from by rw [sg_F_ga hF32 rfl, sg_F_ga hF29 rfl, sg_F_ga hF24 rfl, sg_F_ga hF8 rfl, sg_F_ga hF6 rfl, sg_F_ga hF3 rfl]]
            refine wk_if2 tt_290 (tgt := 95) rfl rfl r36 (sg_Rg _ _ _) (fun (h46 : (sg_g σ 96 ((sg_g σ7 121 (((sg_g σ7 88 49) - 1))))) ≤ v30) => ?_) (fun (h46 : v30 < (sg_g σ 96 ((sg_g σ7 121 (((sg_g σ7 88 49) - 1)))))) => ?_)
            ·
              have w := w.1 h46
              exact wk_ls [(0, .inr (.inr (.ref 88)))] rfl ⟨rfl, trivial⟩ (ex44  σ31  (sg_F_t (sg_F_r [121, 50088] σ27) (sg_F_m (L := [121, 50088]) hF32 rfl)) w)
            ·
              have w := w.2 h46
              obtain ⟨c47, w⟩ := w
              obtain ⟨c48, w⟩ := w
              refine wk_b tt_290 11 (pc' := 77) (ls' := [(0, .inr (.inr (.ref 88))), (2, .inl ((sg_g σ7 121 (((sg_g σ7 88 49) - 1))))), (3, .inl (v30))]) (st' := [.inl (((200 * (sg_g σ7 121 (((sg_g σ7 88 49) - 1)))) + v30)), .inr (.inr (.ref 97)), .inl ((sg_g σ31 88 49)), .inr (.inr (.ref 121))]) (σ' := σ31) rfl ?_
              obtain ⟨c49, w⟩ := w
              refine wk_ia tt_290 rfl rfl c49.1 c49.2 c48 ?_
              rw [show (sg_g σ31 97 (((200 * (sg_g σ7 121 (((sg_g σ7 88 49) - 1)))) + v30))) = (sg_g σ 97 (((200 * (sg_g σ7 121 (((sg_g σ7 88 49) - 1)))) + v30))) from by rw [sg_F_ga hF32 rfl, sg_F_ga hF29 rfl, sg_F_ga hF24 rfl, sg_F_ga hF8 rfl, sg_F_ga hF6 rfl, sg_F_ga hF3 rfl]]
              obtain ⟨c50, w⟩ := w
              refine wk_is tt_290 rfl rfl c50.1 c50.2 (sg_Rg _ _ _) ?_
              generalize hs52 : (sg_w σ31 121 ((sg_g σ31 88 49)) ((sg_g σ 97 (((200 * (sg_g σ7 121 (((sg_g σ7 88 49) - 1)))) + v30))))) = σ51
              have w := w σ51 hs52.symm
              have hF53 : sg_F [121] σ31 σ51 := by rw [← hs52]; exact sg_F_w (sg_F_r _ _) rfl _
              obtain ⟨c54, w⟩ := w
              refine wk_b tt_290 6 (pc' := 89) (ls' := [(0, .inr (.inr (.ref 88))), (2, .inl ((sg_g σ7 121 (((sg_g σ7 88 49) - 1))))), (3, .inl (v30))]) (st' := []) (σ' := (sg_w σ51 88 49 (((sg_g σ51 88 49) + 1)))) rfl ?_
              rw [show (sg_g σ51 88 49) = (sg_g σ31 88 49) from by rw [sg_F_ga hF53 rfl]]
              generalize hs56 : (sg_w σ51 88 49 (((sg_g σ31 88 49) + 1))) = σ55
              have w := w σ55 hs56.symm
              have hF57 : sg_F [50088] σ51 σ55 := by rw [← hs56]; exact sg_F_w (sg_F_r _ _) rfl _
              obtain ⟨c58, w⟩ := w
              refine wk_b tt_290 2 (pc' := 48) (ls' := [(3, .inl ((v30 + 1))), (0, .inr (.inr (.ref 88))), (2, .inl ((sg_g σ7 121 (((sg_g σ7 88 49) - 1)))))]) (st' := []) (σ' := σ55) rfl ?_
              obtain ⟨m59, hm59, w⟩ := w
              exact wk_ls [(0, .inr (.inr (.ref 88))), (2, .inl ((sg_g σ7 121 (((sg_g σ7 88 49) - 1))))), (3, .inl ((v30 + 1)))] rfl ⟨rfl, rfl, rfl, trivial⟩ (ih37 m59 hm59 ((v30 + 1)) σ55 c58 (sg_F_t (sg_F_t (sg_F_t (sg_F_r [121, 50088] σ27) (sg_F_m (L := [121, 50088]) hF32 rfl)) (sg_F_m (L := [121, 50088]) hF53 rfl)) (sg_F_m (L := [121, 50088]) hF57 rfl)) w)
        exact wk_ls [(0, .inr (.inr (.ref 88))), (2, .inl ((sg_g σ7 121 (((sg_g σ7 88 49) - 1))))), (3, .inl (0))] rfl ⟨rfl, rfl, rfl, trivial⟩ (lp39 μ34 (0) σ27 (by decide) (sg_F_r _ _) w40)
  exact wk_ls [(0, .inr (.inr (.ref 88)))] rfl ⟨rfl, trivial⟩ (lp14 μ10  σ4  (sg_F_r _ _) w15)
/-! Conditions of the reference's methods, by program (21). -/
-- NestedVectorsModel.isBoundInside
def V_isBoundInside (σ : sg_S) (a1 : Int) (Q : Int → sg_S → Prop) : Prop := ((210 ≤ a1 → ((1100 ≤ a1 → Q (0) σ) ∧ (a1 < 1100 → sg_R (a1 - 210) ∧ (0 ≤ ((sg_i ((a1 - 210)) / sg_i (4)).toInt) ∧ ((sg_i ((a1 - 210)) / sg_i (4)).toInt) < 210) ∧ (((sg_g σ 120 (((sg_i ((a1 - 210)) / sg_i (4)).toInt))) = 0 → Q (0) σ) ∧ (¬ (sg_g σ 120 (((sg_i ((a1 - 210)) / sg_i (4)).toInt))) = 0 → Q (1) σ))))) ∧ (a1 < 210 → (0 ≤ a1 ∧ a1 < 210) ∧ ((sg_g σ 120 (a1)) = 0 ∨ (sg_g σ 120 (a1)) = 1) ∧ Q ((sg_g σ 120 (a1))) σ))
set_option maxHeartbeats 4000000 in
set_option maxRecDepth 8000 in
theorem w_isBoundInside (z : Value) (σ : sg_S) (a1 : Int) (Q : Int → sg_S → Prop) (ra1 : sg_R a1) (w : V_isBoundInside σ a1 Q) : wx z 0 260 0 [(0, .inr (.inr (.ref 88))), (1, .inl (a1))] [] σ (fun v σ' => ∃ q, v = some (.inl q) ∧ (q = 0 ∨ q = 1) ∧ σ = σ' ∧ Q q σ') := by
  unfold V_isBoundInside at w
  refine wk_b tt_260 2 (pc' := 4) (ls' := [(0, .inr (.inr (.ref 88))), (1, .inl (a1))]) (st' := [.inl (210), .inl (a1)]) (σ' := σ) rfl ?_
  refine wk_if2 tt_260 (tgt := 16) rfl rfl ra1 (by decide) (fun (h1 : 210 ≤ a1) => ?_) (fun (h1 : a1 < 210) => ?_)
  ·
    have w := w.1 h1
    refine wk_b tt_260 2 (pc' := 20) (ls' := [(0, .inr (.inr (.ref 88))), (1, .inl (a1))]) (st' := [.inl (1100), .inl (a1)]) (σ' := σ) rfl ?_
    refine wk_if2 tt_260 (tgt := 42) rfl rfl ra1 (by decide) (fun (h2 : 1100 ≤ a1) => ?_) (fun (h2 : a1 < 1100) => ?_)
    ·
      have w := w.1 h2
      refine wk_b tt_260 1 (pc' := 43) (ls' := [(0, .inr (.inr (.ref 88))), (1, .inl (a1))]) (st' := [.inl (0)]) (σ' := σ) rfl ?_
      exact wk_rZ tt_260 rfl rfl (by decide) ⟨_, rfl, (by decide), rfl, w⟩
    ·
      have w := w.2 h2
      obtain ⟨c3, w⟩ := w
      refine wk_b tt_260 6 (pc' := 33) (ls' := [(0, .inr (.inr (.ref 88))), (1, .inl (a1))]) (st' := [.inl (4), .inl ((a1 - 210)), .inr (.inr (.ref 120))]) (σ' := σ) rfl ?_
      refine wk_div tt_260 rfl (by decide) ?_
      obtain ⟨c4, w⟩ := w
      refine wk_ba (Or.inr rfl) tt_260 rfl rfl c4.1 c4.2 (sg_Rr _) ?_
      refine wk_if tt_260 (tgt := 42) rfl rfl (sg_Rg _ _ _) (fun (h5 : (sg_g σ 120 (((sg_i ((a1 - 210)) / sg_i (4)).toInt))) = 0) => ?_) (fun (h5 : ¬ (sg_g σ 120 (((sg_i ((a1 - 210)) / sg_i (4)).toInt))) = 0) => ?_)
      ·
        have w := w.1 h5
        refine wk_b tt_260 1 (pc' := 43) (ls' := [(0, .inr (.inr (.ref 88))), (1, .inl (a1))]) (st' := [.inl (0)]) (σ' := σ) rfl ?_
        exact wk_rZ tt_260 rfl rfl (by decide) ⟨_, rfl, (by decide), rfl, w⟩
      ·
        have w := w.2 h5
        refine wk_b tt_260 2 (pc' := 43) (ls' := [(0, .inr (.inr (.ref 88))), (1, .inl (a1))]) (st' := [.inl (1)]) (σ' := σ) rfl ?_
        exact wk_rZ tt_260 rfl rfl (by decide) ⟨_, rfl, (by decide), rfl, w⟩
  ·
    have w := w.2 h1
    refine wk_b tt_260 3 (pc' := 12) (ls' := [(0, .inr (.inr (.ref 88))), (1, .inl (a1))]) (st' := [.inl (a1), .inr (.inr (.ref 120))]) (σ' := σ) rfl ?_
    obtain ⟨c6, w⟩ := w
    refine wk_ba (Or.inr rfl) tt_260 rfl rfl c6.1 c6.2 ra1 ?_
    refine wk_b tt_260 1 (pc' := 43) (ls' := [(0, .inr (.inr (.ref 88))), (1, .inl (a1))]) (st' := [.inl ((sg_g σ 120 (a1)))]) (σ' := σ) rfl ?_
    obtain ⟨cz, w⟩ := w
    exact wk_rZ tt_260 rfl rfl cz ⟨_, rfl, cz, rfl, w⟩
-- NestedVectorsModel.outsider
def V_outsider (σ : sg_S) (a1 : Int) (Q : sg_S → Prop) : Prop := (∃ (I4 : Nat → Int → Prop) (X6 : Prop), (∃ n, I4 n (0)) ∧ (∀ (n14 : Nat) (v1 : Int), sg_R v1 → I4 n14 v1 → (((sg_g σ 88 46) ≤ v1 → X6 ) ∧ (v1 < (sg_g σ 88 46) → (0 ≤ v1 ∧ v1 < 300) ∧ ((¬ (sg_g σ 119 (v1)) = a1 → sg_R (v1 + 1) ∧ (∃ m, m < n14 ∧ I4 m ((v1 + 1)))) ∧ ((sg_g σ 119 (v1)) = a1 → Q σ))))) ∧ (X6  → (∃ P18 : Int → sg_S → Prop, (((sg_g σ 88 46) ≤ 0 → P18 ((sg_g σ 88 46)) σ) ∧ (0 < (sg_g σ 88 46) → sg_R ((sg_g σ 88 46) - 1) ∧ (0 ≤ ((sg_g σ 88 46) - 1) ∧ ((sg_g σ 88 46) - 1) < 300) ∧ (0 ≤ (sg_g σ 119 (((sg_g σ 88 46) - 1))) ∧ (sg_g σ 119 (((sg_g σ 88 46) - 1))) < 1200) ∧ (0 ≤ a1 ∧ a1 < 1200) ∧ (((sg_g σ 116 ((sg_g σ 119 (((sg_g σ 88 46) - 1))))) ≤ (sg_g σ 116 (a1)) → P18 ((sg_g σ 88 46)) σ) ∧ ((sg_g σ 116 (a1)) < (sg_g σ 116 ((sg_g σ 119 (((sg_g σ 88 46) - 1))))) → (0 ≤ (sg_g σ 88 46) ∧ (sg_g σ 88 46) < 300) ∧ ∀ σ38, σ38 = (sg_w σ 119 ((sg_g σ 88 46)) ((sg_g σ 119 (((sg_g σ 88 46) - 1))))) → sg_R ((sg_g σ 88 46) + (-1)) ∧ (∃ (I45 : Nat → Int → sg_S → Prop), (∃ n, I45 n (((sg_g σ 88 46) + (-1))) σ38) ∧ (∀ (n55 : Nat) (v42 : Int) (σ43 : sg_S), sg_R v42 → sg_F [119] σ38 σ43 → I45 n55 v42 σ43 → ((v42 ≤ 0 → P18 (v42) σ43) ∧ (0 < v42 → sg_R (v42 - 1) ∧ (0 ≤ (v42 - 1) ∧ (v42 - 1) < 300) ∧ (0 ≤ (sg_g σ43 119 ((v42 - 1))) ∧ (sg_g σ43 119 ((v42 - 1))) < 1200) ∧ (((sg_g σ 116 ((sg_g σ43 119 ((v42 - 1))))) ≤ (sg_g σ 116 (a1)) → P18 (v42) σ43) ∧ ((sg_g σ 116 (a1)) < (sg_g σ 116 ((sg_g σ43 119 ((v42 - 1))))) → (0 ≤ v42 ∧ v42 < 300) ∧ ∀ σ63, σ63 = (sg_w σ43 119 (v42) ((sg_g σ43 119 ((v42 - 1))))) → sg_R (v42 + (-1)) ∧ (∃ m, m < n55 ∧ I45 m ((v42 + (-1))) σ63))))))))))) ∧ (∀ (v21 : Int) (σ19 : sg_S), sg_R v21 → sg_F [119] σ σ19 → P18 v21 σ19 → (0 ≤ v21 ∧ v21 < 300) ∧ ∀ σ25, σ25 = (sg_w σ19 119 (v21) (a1)) → sg_R ((sg_g σ 88 46) + 1) ∧ ∀ σ29, σ29 = (sg_w σ25 88 46 (((sg_g σ 88 46) + 1))) → Q σ29))))
set_option maxHeartbeats 4000000 in
set_option maxRecDepth 8000 in
theorem w_outsider (z : Value) (σ : sg_S) (a1 : Int) (Q : sg_S → Prop) (ra1 : sg_R a1) (w : V_outsider σ a1 Q) : wx z 0 301 0 [(0, .inr (.inr (.ref 88))), (1, .inl (a1))] [] σ (fun v σ' => v = none ∧ sg_F [119, 47088] σ σ' ∧ Q σ') := by
  unfold V_outsider at w
  refine wk_b tt_301 5 (pc' := 7) (ls' := [(3, .inl (0)), (2, .inl ((sg_g σ 88 46))), (0, .inr (.inr (.ref 88))), (1, .inl (a1))]) (st' := []) (σ' := σ) rfl ?_
  obtain ⟨I4, X6, ⟨μ5, w11⟩, w12, w13⟩ := w
  have ex15 : X6  → wx z 0 301 32 [(0, .inr (.inr (.ref 88))), (1, .inl (a1)), (2, .inl ((sg_g σ 88 46)))] [] σ (fun v σ' => v = none ∧ sg_F [119, 47088] σ σ' ∧ Q σ') := by
    intro w
    have w := w13  w
    refine wk_b tt_301 1 (pc' := 33) (ls' := [(0, .inr (.inr (.ref 88))), (1, .inl (a1)), (2, .inl ((sg_g σ 88 46)))]) (st' := [.inl ((sg_g σ 88 46))]) (σ' := σ) rfl ?_
    obtain ⟨P18, w, w23⟩ := w
    have jn17 : ∀ (v21 : Int) (σ19 : sg_S), sg_R v21 → sg_F [119] σ σ19 → P18 v21 σ19 → wx z 0 301 78 [(0, .inr (.inr (.ref 88))), (1, .inl (a1)), (2, .inl (v21))] [] σ19 (fun v σ' => v = none ∧ sg_F [119, 47088] σ σ' ∧ Q σ') := by
      intro v21 σ19 r22 hF20 w
      have w := w23 v21 σ19 r22 hF20 w
      refine wk_b tt_301 4 (pc' := 84) (ls' := [(0, .inr (.inr (.ref 88))), (1, .inl (a1)), (2, .inl (v21))]) (st' := [.inl (a1), .inl (v21), .inr (.inr (.ref 119))]) (σ' := σ19) rfl ?_
      obtain ⟨c24, w⟩ := w
      refine wk_is tt_301 rfl rfl c24.1 c24.2 r22 ?_
      generalize hs26 : (sg_w σ19 119 (v21) (a1)) = σ25
      have w := w σ25 hs26.symm
      have hF27 : sg_F [119] σ19 σ25 := by rw [← hs26]; exact sg_F_w (sg_F_r _ _) rfl _
      obtain ⟨c28, w⟩ := w
      refine wk_b tt_301 6 (pc' := 95) (ls' := [(0, .inr (.inr (.ref 88))), (1, .inl (a1)), (2, .inl (v21))]) (st' := []) (σ' := (sg_w σ25 88 46 (((sg_g σ25 88 46) + 1)))) rfl ?_
      rw [show (sg_g σ25 88 46) = (sg_g σ 88 46) from by rw [sg_F_ga hF27 rfl, sg_F_ga hF20 rfl]]
      generalize hs30 : (sg_w σ25 88 46 (((sg_g σ 88 46) + 1))) = σ29
      have w := w σ29 hs30.symm
      have hF31 : sg_F [47088] σ25 σ29 := by rw [← hs30]; exact sg_F_w (sg_F_r _ _) rfl _
      exact wk_rV tt_301 rfl rfl ⟨rfl, (sg_F_t (sg_F_t (sg_F_t (sg_F_r [119, 47088] σ) (sg_F_m (L := [119, 47088]) hF20 rfl)) (sg_F_m (L := [119, 47088]) hF27 rfl)) (sg_F_m (L := [119, 47088]) hF31 rfl)), w⟩
    refine wk_if tt_301 (tgt := 78) rfl rfl (sg_Rg _ _ _) (fun (h16 : (sg_g σ 88 46) ≤ 0) => ?_) (fun (h16 : 0 < (sg_g σ 88 46)) => ?_)
    ·
      have w := w.1 h16
      exact wk_ls [(0, .inr (.inr (.ref 88))), (1, .inl (a1)), (2, .inl ((sg_g σ 88 46)))] rfl ⟨rfl, rfl, rfl, trivial⟩ (jn17 ((sg_g σ 88 46)) σ (sg_Rg _ _ _) (sg_F_r [119] σ) w)
    ·
      have w := w.2 h16
      obtain ⟨c32, w⟩ := w
      refine wk_b tt_301 7 (pc' := 47) (ls' := [(0, .inr (.inr (.ref 88))), (1, .inl (a1)), (2, .inl ((sg_g σ 88 46)))]) (st' := [.inl (((sg_g σ 88 46) - 1)), .inr (.inr (.ref 119)), .inr (.inr (.ref 116))]) (σ' := σ) rfl ?_
      obtain ⟨c33, w⟩ := w
      refine wk_ia tt_301 rfl rfl c33.1 c33.2 c32 ?_
      obtain ⟨c34, w⟩ := w
      refine wk_ia tt_301 rfl rfl c34.1 c34.2 (sg_Rg _ _ _) ?_
      refine wk_b tt_301 3 (pc' := 54) (ls' := [(0, .inr (.inr (.ref 88))), (1, .inl (a1)), (2, .inl ((sg_g σ 88 46)))]) (st' := [.inl (a1), .inr (.inr (.ref 116)), .inl ((sg_g σ 116 ((sg_g σ 119 (((sg_g σ 88 46) - 1))))))]) (σ' := σ) rfl ?_
      obtain ⟨c35, w⟩ := w
      refine wk_ia tt_301 rfl rfl c35.1 c35.2 ra1 ?_
      refine wk_if2 tt_301 (tgt := 78) rfl rfl (sg_Rg _ _ _) (sg_Rg _ _ _) (fun (h36 : (sg_g σ 116 ((sg_g σ 119 (((sg_g σ 88 46) - 1))))) ≤ (sg_g σ 116 (a1))) => ?_) (fun (h36 : (sg_g σ 116 (a1)) < (sg_g σ 116 ((sg_g σ 119 (((sg_g σ 88 46) - 1)))))) => ?_)
      ·
        have w := w.1 h36
        exact wk_ls [(0, .inr (.inr (.ref 88))), (1, .inl (a1)), (2, .inl ((sg_g σ 88 46)))] rfl ⟨rfl, rfl, rfl, trivial⟩ (jn17 ((sg_g σ 88 46)) σ (sg_Rg _ _ _) (sg_F_r [119] σ) w)
      ·
        have w := w.2 h36
        refine wk_b tt_301 8 (pc' := 70) (ls' := [(0, .inr (.inr (.ref 88))), (1, .inl (a1)), (2, .inl ((sg_g σ 88 46)))]) (st' := [.inl (((sg_g σ 88 46) - 1)), .inr (.inr (.ref 119)), .inl ((sg_g σ 88 46)), .inr (.inr (.ref 119))]) (σ' := σ) rfl ?_
        refine wk_ia tt_301 rfl rfl c33.1 c33.2 c32 ?_
        obtain ⟨c37, w⟩ := w
        refine wk_is tt_301 rfl rfl c37.1 c37.2 (sg_Rg _ _ _) ?_
        generalize hs39 : (sg_w σ 119 ((sg_g σ 88 46)) ((sg_g σ 119 (((sg_g σ 88 46) - 1))))) = σ38
        have w := w σ38 hs39.symm
        have hF40 : sg_F [119] σ σ38 := by rw [← hs39]; exact sg_F_w (sg_F_r _ _) rfl _
        obtain ⟨c41, w⟩ := w
        refine wk_b tt_301 2 (pc' := 32) (ls' := [(2, .inl (((sg_g σ 88 46) + (-1)))), (0, .inr (.inr (.ref 88))), (1, .inl (a1))]) (st' := []) (σ' := σ38) rfl ?_
        obtain ⟨I45, ⟨μ46, w52⟩, w53⟩ := w
        have lp51 : ∀ (n55 : Nat) (v42 : Int) (σ43 : sg_S), sg_R v42 → sg_F [119] σ38 σ43 → I45 n55 v42 σ43 → wx z 0 301 32 [(0, .inr (.inr (.ref 88))), (1, .inl (a1)), (2, .inl (v42))] [] σ43 (fun v σ' => v = none ∧ sg_F [119, 47088] σ σ' ∧ Q σ') := by
          intro n55
          induction n55 using Nat.strongRecOn with
          | _ n55 ih49 =>
            intro v42 σ43 r48 hF44 w
            have w := w53 n55 v42 σ43 r48 hF44 w
            refine wk_b tt_301 1 (pc' := 33) (ls' := [(0, .inr (.inr (.ref 88))), (1, .inl (a1)), (2, .inl (v42))]) (st' := [.inl (v42)]) (σ' := σ43) rfl ?_
            refine wk_if tt_301 (tgt := 78) rfl rfl r48 (fun (h57 : v42 ≤ 0) => ?_) (fun (h57 : 0 < v42) => ?_)
            ·
              have w := w.1 h57
              exact wk_ls [(0, .inr (.inr (.ref 88))), (1, .inl (a1)), (2, .inl (v42))] rfl ⟨rfl, rfl, rfl, trivial⟩ (jn17 (v42) σ43 r48 (sg_F_t (sg_F_t (sg_F_r [119] σ) (sg_F_m (L := [119]) hF40 rfl)) (sg_F_m (L := [119]) hF44 rfl)) w)
            ·
              have w := w.2 h57
              obtain ⟨c58, w⟩ := w
              refine wk_b tt_301 7 (pc' := 47) (ls' := [(0, .inr (.inr (.ref 88))), (1, .inl (a1)), (2, .inl (v42))]) (st' := [.inl ((v42 - 1)), .inr (.inr (.ref 119)), .inr (.inr (.ref 116))]) (σ' := σ43) rfl ?_
              obtain ⟨c59, w⟩ := w
              refine wk_ia tt_301 rfl rfl c59.1 c59.2 c58 ?_
              obtain ⟨c60, w⟩ := w
              refine wk_ia tt_301 rfl rfl c60.1 c60.2 (sg_Rg _ _ _) ?_
              rw [show (sg_g σ43 116 ((sg_g σ43 119 ((v42 - 1))))) = (sg_g σ 116 ((sg_g σ43 119 ((v42 - 1))))) from by rw [sg_F_ga hF44 rfl, sg_F_ga hF40 rfl]]
              refine wk_b tt_301 3 (pc' := 54) (ls' := [(0, .inr (.inr (.ref 88))), (1, .inl (a1)), (2, .inl (v42))]) (st' := [.inl (a1), .inr (.inr (.ref 116)), .inl ((sg_g σ 116 ((sg_g σ43 119 ((v42 - 1))))))]) (σ' := σ43) rfl ?_
              refine wk_ia tt_301 rfl rfl c35.1 c35.2 ra1 ?_
              rw [show (sg_g σ43 116 (a1)) = (sg_g σ 116 (a1)) from by rw [sg_F_ga hF44 rfl, sg_F_ga hF40 rfl]]
              refine wk_if2 tt_301 (tgt := 78) rfl rfl (sg_Rg _ _ _) (sg_Rg _ _ _) (fun (h61 : (sg_g σ 116 ((sg_g σ43 119 ((v42 - 1))))) ≤ (sg_g σ 116 (a1))) => ?_) (fun (h61 : (sg_g σ 116 (a1)) < (sg_g σ 116 ((sg_g σ43 119 ((v42 - 1)))))) => ?_)
              ·
                have w := w.1 h61
                exact wk_ls [(0, .inr (.inr (.ref 88))), (1, .inl (a1)), (2, .inl (v42))] rfl ⟨rfl, rfl, rfl, trivial⟩ (jn17 (v42) σ43 r48 (sg_F_t (sg_F_t (sg_F_r [119] σ) (sg_F_m (L := [119]) hF40 rfl)) (sg_F_m (L := [119]) hF44 rfl)) w)
              ·
                have w := w.2 h61
                refine wk_b tt_301 8 (pc' := 70) (ls' := [(0, .inr (.inr (.ref 88))), (1, .inl (a1)), (2, .inl (v42))]) (st' := [.inl ((v42 - 1)), .inr (.inr (.ref 119)), .inl (v42), .inr (.inr (.ref 119))]) (σ' := σ43) rfl ?_
                refine wk_ia tt_301 rfl rfl c59.1 c59.2 c58 ?_
                obtain ⟨c62, w⟩ := w
                refine wk_is tt_301 rfl rfl c62.1 c62.2 r48 ?_
                generalize hs64 : (sg_w σ43 119 (v42) ((sg_g σ43 119 ((v42 - 1))))) = σ63
                have w := w σ63 hs64.symm
                have hF65 : sg_F [119] σ43 σ63 := by rw [← hs64]; exact sg_F_w (sg_F_r _ _) rfl _
                obtain ⟨c66, w⟩ := w
                refine wk_b tt_301 2 (pc' := 32) (ls' := [(2, .inl ((v42 + (-1)))), (0, .inr (.inr (.ref 88))), (1, .inl (a1))]) (st' := []) (σ' := σ63) rfl ?_
                obtain ⟨m67, hm67, w⟩ := w
                exact wk_ls [(0, .inr (.inr (.ref 88))), (1, .inl (a1)), (2, .inl ((v42 + (-1))))] rfl ⟨rfl, rfl, rfl, trivial⟩ (ih49 m67 hm67 ((v42 + (-1))) σ63 c66 (sg_F_t (sg_F_t (sg_F_r [119] σ38) (sg_F_m (L := [119]) hF44 rfl)) (sg_F_m (L := [119]) hF65 rfl)) w)
        exact wk_ls [(0, .inr (.inr (.ref 88))), (1, .inl (a1)), (2, .inl (((sg_g σ 88 46) + (-1))))] rfl ⟨rfl, rfl, rfl, trivial⟩ (lp51 μ46 (((sg_g σ 88 46) + (-1))) σ38 c41 (sg_F_r _ _) w52)
  have lp10 : ∀ (n14 : Nat) (v1 : Int), sg_R v1 → I4 n14 v1 → wx z 0 301 7 [(0, .inr (.inr (.ref 88))), (1, .inl (a1)), (2, .inl ((sg_g σ 88 46))), (3, .inl (v1))] [] σ (fun v σ' => v = none ∧ sg_F [119, 47088] σ σ' ∧ Q σ') := by
    intro n14
    induction n14 using Nat.strongRecOn with
    | _ n14 ih8 =>
      intro v1 r7 w
      have w := w12 n14 v1 r7 w
      refine wk_b tt_301 3 (pc' := 12) (ls' := [(0, .inr (.inr (.ref 88))), (1, .inl (a1)), (2, .inl ((sg_g σ 88 46))), (3, .inl (v1))]) (st' := [.inl ((sg_g σ 88 46)), .inl (v1)]) (σ' := σ) rfl ?_
      refine wk_if2 tt_301 (tgt := 32) rfl rfl r7 (sg_Rg _ _ _) (fun (h68 : (sg_g σ 88 46) ≤ v1) => ?_) (fun (h68 : v1 < (sg_g σ 88 46)) => ?_)
      ·
        have w := w.1 h68
        exact wk_ls [(0, .inr (.inr (.ref 88))), (1, .inl (a1)), (2, .inl ((sg_g σ 88 46)))] rfl ⟨rfl, rfl, rfl, trivial⟩ (ex15     w)
      ·
        have w := w.2 h68
        refine wk_b tt_301 3 (pc' := 20) (ls' := [(0, .inr (.inr (.ref 88))), (1, .inl (a1)), (2, .inl ((sg_g σ 88 46))), (3, .inl (v1))]) (st' := [.inl (v1), .inr (.inr (.ref 119))]) (σ' := σ) rfl ?_
        obtain ⟨c69, w⟩ := w
        refine wk_ia tt_301 rfl rfl c69.1 c69.2 r7 ?_
        refine wk_b tt_301 1 (pc' := 22) (ls' := [(0, .inr (.inr (.ref 88))), (1, .inl (a1)), (2, .inl ((sg_g σ 88 46))), (3, .inl (v1))]) (st' := [.inl (a1), .inl ((sg_g σ 119 (v1)))]) (σ' := σ) rfl ?_
        refine wk_if2 tt_301 (tgt := 26) rfl rfl (sg_Rg _ _ _) ra1 (fun (h70 : ¬ (sg_g σ 119 (v1)) = a1) => ?_) (fun (h70 : (sg_g σ 119 (v1)) = a1) => ?_)
        ·
          have w := w.1 h70
          obtain ⟨c71, w⟩ := w
          refine wk_b tt_301 2 (pc' := 7) (ls' := [(3, .inl ((v1 + 1))), (0, .inr (.inr (.ref 88))), (1, .inl (a1)), (2, .inl ((sg_g σ 88 46)))]) (st' := []) (σ' := σ) rfl ?_
          obtain ⟨m72, hm72, w⟩ := w
          exact wk_ls [(0, .inr (.inr (.ref 88))), (1, .inl (a1)), (2, .inl ((sg_g σ 88 46))), (3, .inl ((v1 + 1)))] rfl ⟨rfl, rfl, rfl, rfl, trivial⟩ (ih8 m72 hm72 ((v1 + 1))  c71  w)
        ·
          have w := w.2 h70
          exact wk_rV tt_301 rfl rfl ⟨rfl, (sg_F_r [119, 47088] σ), w⟩
  exact wk_ls [(0, .inr (.inr (.ref 88))), (1, .inl (a1)), (2, .inl ((sg_g σ 88 46))), (3, .inl (0))] rfl ⟨rfl, rfl, rfl, rfl, trivial⟩ (lp10 μ5 (0)  (by decide)  w11)
-- NestedVectorsModel.gatherOutside
def V_gatherOutside (σ : sg_S) (a1 : Int) (Q : sg_S → Prop) : Prop := (∃ (I4 : Nat → Int → sg_S → Prop) (X6 : sg_S → Prop), (∃ n, I4 n (0) σ) ∧ (∀ (n14 : Nat) (v1 : Int) (σ2 : sg_S), sg_R v1 → sg_F [119, 47088] σ σ2 → I4 n14 v1 σ2 → (((sg_g σ 88 8) ≤ v1 → X6 σ2) ∧ (v1 < (sg_g σ 88 8) → (0 ≤ v1 ∧ v1 < 210) ∧ (∃ P20 : sg_S → Prop, (((sg_g σ 120 (v1)) = 0 → P20 σ2) ∧ (¬ (sg_g σ 120 (v1)) = 0 → ((¬ (sg_g σ 93 (v1)) = 1 → P20 σ2) ∧ ((sg_g σ 93 (v1)) = 1 → V_isBoundInside σ2 ((sg_g σ 102 (v1))) (fun q27 _ => (q27 = 0 ∨ q27 = 1) → ((¬ q27 = 0 → P20 σ2) ∧ (q27 = 0 → ((a1 < 0 → True) ∧ (0 ≤ a1 → (((sg_g σ 102 (v1)) < 210 → True) ∧ (210 ≤ (sg_g σ 102 (v1)) → ((1100 ≤ (sg_g σ 102 (v1)) → True) ∧ ((sg_g σ 102 (v1)) < 1100 → sg_R ((sg_g σ 102 (v1)) - 210) ∧ ((¬ ((sg_i (((sg_g σ 102 (v1)) - 210)) / sg_i (4)).toInt) = a1 → True) ∧ (((sg_i (((sg_g σ 102 (v1)) - 210)) / sg_i (4)).toInt) = a1 → True)))))))) ∧ ∀ v36 : Int, v36 = (if a1 < 0 then (0 : Int) else (if (sg_g σ 102 (v1)) < 210 then (0 : Int) else (if 1100 ≤ (sg_g σ 102 (v1)) then (0 : Int) else (if ¬ ((sg_i (((sg_g σ 102 (v1)) - 210)) / sg_i (4)).toInt) = a1 then (0 : Int) else (1 : Int))))) → sg_R v36 → ((¬ v36 = 0 → P20 σ2) ∧ (v36 = 0 → V_outsider σ2 ((sg_g σ 102 (v1))) (fun σ41 => sg_F [119, 47088] σ2 σ41 → P20 σ41)))))))))) ∧ (∀ (σ21 : sg_S), sg_F [119, 47088] σ2 σ21 → P20 σ21 → sg_R (v1 + 1) ∧ (∃ m, m < n14 ∧ I4 m ((v1 + 1)) σ21)))))) ∧ (∀ (σ2 : sg_S), sg_F [119, 47088] σ σ2 → X6 σ2 → Q σ2))
set_option maxHeartbeats 4000000 in
set_option maxRecDepth 8000 in
theorem w_gatherOutside (z : Value) (σ : sg_S) (a1 : Int) (Q : sg_S → Prop) (ra1 : sg_R a1) (w : V_gatherOutside σ a1 Q) : wx z 1 248 0 [(0, .inr (.inr (.ref 88))), (1, .inl (a1))] [] σ (fun v σ' => v = none ∧ sg_F [119, 47088] σ σ' ∧ Q σ') := by
  unfold V_gatherOutside at w
  refine wk_b tt_248 2 (pc' := 2) (ls' := [(2, .inl (0)), (0, .inr (.inr (.ref 88))), (1, .inl (a1))]) (st' := []) (σ' := σ) rfl ?_
  obtain ⟨I4, X6, ⟨μ5, w11⟩, w12, w13⟩ := w
  have ex15 : ∀ (σ2 : sg_S), sg_F [119, 47088] σ σ2 → X6 σ2 → wx z 1 248 101 [] [] σ2 (fun v σ' => v = none ∧ sg_F [119, 47088] σ σ' ∧ Q σ') := by
    intro σ2 hF3 w
    have w := w13 σ2 hF3 w
    exact wk_rV tt_248 rfl rfl ⟨rfl, (sg_F_t (sg_F_r [119, 47088] σ) (sg_F_m (L := [119, 47088]) hF3 rfl)), w⟩
  have lp10 : ∀ (n14 : Nat) (v1 : Int) (σ2 : sg_S), sg_R v1 → sg_F [119, 47088] σ σ2 → I4 n14 v1 σ2 → wx z 1 248 2 [(0, .inr (.inr (.ref 88))), (1, .inl (a1)), (2, .inl (v1))] [] σ2 (fun v σ' => v = none ∧ sg_F [119, 47088] σ σ' ∧ Q σ') := by
    intro n14
    induction n14 using Nat.strongRecOn with
    | _ n14 ih8 =>
      intro v1 σ2 r7 hF3 w
      have w := w12 n14 v1 σ2 r7 hF3 w
      refine wk_b tt_248 3 (pc' := 7) (ls' := [(0, .inr (.inr (.ref 88))), (1, .inl (a1)), (2, .inl (v1))]) (st' := [.inl ((sg_g σ2 88 8)), .inl (v1)]) (σ' := σ2) rfl ?_
      rw [show (sg_g σ2 88 8) = (sg_g σ 88 8) from by rw [sg_F_g hF3 rfl]]
      refine wk_if2 tt_248 (tgt := 101) rfl rfl r7 (sg_Rg _ _ _) (fun (h16 : (sg_g σ 88 8) ≤ v1) => ?_) (fun (h16 : v1 < (sg_g σ 88 8)) => ?_)
      ·
        have w := w.1 h16
        exact wk_ls [] rfl trivial (ex15  σ2  (sg_F_t (sg_F_r [119, 47088] σ) (sg_F_m (L := [119, 47088]) hF3 rfl)) w)
      ·
        have w := w.2 h16
        refine wk_b tt_248 3 (pc' := 15) (ls' := [(0, .inr (.inr (.ref 88))), (1, .inl (a1)), (2, .inl (v1))]) (st' := [.inl (v1), .inr (.inr (.ref 120))]) (σ' := σ2) rfl ?_
        obtain ⟨c17, w⟩ := w
        refine wk_ba (Or.inr rfl) tt_248 rfl rfl c17.1 c17.2 r7 ?_
        rw [show (sg_g σ2 120 (v1)) = (sg_g σ 120 (v1)) from by rw [sg_F_ga hF3 rfl]]
        obtain ⟨P20, w, w23⟩ := w
        have jn19 : ∀ (σ21 : sg_S), sg_F [119, 47088] σ2 σ21 → P20 σ21 → wx z 1 248 95 [(0, .inr (.inr (.ref 88))), (1, .inl (a1)), (2, .inl (v1))] [] σ21 (fun v σ' => v = none ∧ sg_F [119, 47088] σ σ' ∧ Q σ') := by
          intro σ21 hF22 w
          have w := w23 σ21 hF22 w
          obtain ⟨c24, w⟩ := w
          refine wk_b tt_248 2 (pc' := 2) (ls' := [(2, .inl ((v1 + 1))), (0, .inr (.inr (.ref 88))), (1, .inl (a1))]) (st' := []) (σ' := σ21) rfl ?_
          obtain ⟨m25, hm25, w⟩ := w
          exact wk_ls [(0, .inr (.inr (.ref 88))), (1, .inl (a1)), (2, .inl ((v1 + 1)))] rfl ⟨rfl, rfl, rfl, trivial⟩ (ih8 m25 hm25 ((v1 + 1)) σ21 c24 (sg_F_t (sg_F_t (sg_F_r [119, 47088] σ) (sg_F_m (L := [119, 47088]) hF3 rfl)) (sg_F_m (L := [119, 47088]) hF22 rfl)) w)
        refine wk_if tt_248 (tgt := 95) rfl rfl (sg_Rg _ _ _) (fun (h18 : (sg_g σ 120 (v1)) = 0) => ?_) (fun (h18 : ¬ (sg_g σ 120 (v1)) = 0) => ?_)
        ·
          have w := w.1 h18
          exact wk_ls [(0, .inr (.inr (.ref 88))), (1, .inl (a1)), (2, .inl (v1))] rfl ⟨rfl, rfl, rfl, trivial⟩ (jn19 σ2 (sg_F_r [119, 47088] σ2) w)
        ·
          have w := w.2 h18
          refine wk_b tt_248 3 (pc' := 24) (ls' := [(0, .inr (.inr (.ref 88))), (1, .inl (a1)), (2, .inl (v1))]) (st' := [.inl (v1), .inr (.inr (.ref 93))]) (σ' := σ2) rfl ?_
          refine wk_ia tt_248 rfl rfl c17.1 c17.2 r7 ?_
          rw [show (sg_g σ2 93 (v1)) = (sg_g σ 93 (v1)) from by rw [sg_F_ga hF3 rfl]]
          refine wk_b tt_248 1 (pc' := 26) (ls' := [(0, .inr (.inr (.ref 88))), (1, .inl (a1)), (2, .inl (v1))]) (st' := [.inl (1), .inl ((sg_g σ 93 (v1)))]) (σ' := σ2) rfl ?_
          refine wk_if2 tt_248 (tgt := 95) rfl rfl (sg_Rg _ _ _) (by decide) (fun (h26 : ¬ (sg_g σ 93 (v1)) = 1) => ?_) (fun (h26 : (sg_g σ 93 (v1)) = 1) => ?_)
          ·
            have w := w.1 h26
            exact wk_ls [(0, .inr (.inr (.ref 88))), (1, .inl (a1)), (2, .inl (v1))] rfl ⟨rfl, rfl, rfl, trivial⟩ (jn19 σ2 (sg_F_r [119, 47088] σ2) w)
          ·
            have w := w.2 h26
            refine wk_b tt_248 4 (pc' := 35) (ls' := [(0, .inr (.inr (.ref 88))), (1, .inl (a1)), (2, .inl (v1))]) (st' := [.inl (v1), .inr (.inr (.ref 102)), .inr (.inr (.ref 88))]) (σ' := σ2) rfl ?_
            refine wk_ia tt_248 rfl rfl c17.1 c17.2 r7 ?_
            rw [show (sg_g σ2 102 (v1)) = (sg_g σ 102 (v1)) from by rw [sg_F_ga hF3 rfl]]
            refine wk_call tt_248 rfl rfl rfl rfl rfl tt_260 rfl (by decide) (w_isBoundInside z σ2 ((sg_g σ 102 (v1))) _ (sg_Rg _ _ _) w) (fun u32 σ28 hq30 => ?_)
            obtain ⟨q27, rfl, r31, rfl, w⟩ := hq30
            have w := w r31
            refine wk_if tt_248 (tgt := 95) rfl rfl (sg_Rz r31) (fun (h33 : ¬ q27 = 0) => ?_) (fun (h33 : q27 = 0) => ?_)
            ·
              have w := w.1 h33
              exact wk_ls [(0, .inr (.inr (.ref 88))), (1, .inl (a1)), (2, .inl (v1))] rfl ⟨rfl, rfl, rfl, trivial⟩ (jn19 σ2 (sg_F_r [119, 47088] σ2) w)
            ·
              have w := w.2 h33
              refine wk_b tt_248 3 (pc' := 47) (ls' := [(0, .inr (.inr (.ref 88))), (1, .inl (a1)), (2, .inl (v1))]) (st' := [.inl (v1), .inr (.inr (.ref 102))]) (σ' := σ2) rfl ?_
              refine wk_ia tt_248 rfl rfl c17.1 c17.2 r7 ?_
              rw [show (sg_g σ2 102 (v1)) = (sg_g σ 102 (v1)) from by rw [sg_F_ga hF3 rfl]]
              refine wk_b tt_248 2 (pc' := 50) (ls' := [(3, .inl ((sg_g σ 102 (v1)))), (0, .inr (.inr (.ref 88))), (1, .inl (a1)), (2, .inl (v1))]) (st' := [.inl (a1)]) (σ' := σ2) rfl ?_
              obtain ⟨wp, w⟩ := w
              have jn35 : ∀ v36 : Int, v36 = (if a1 < 0 then (0 : Int) else (if (sg_g σ 102 (v1)) < 210 then (0 : Int) else (if 1100 ≤ (sg_g σ 102 (v1)) then (0 : Int) else (if ¬ ((sg_i (((sg_g σ 102 (v1)) - 210)) / sg_i (4)).toInt) = a1 then (0 : Int) else (1 : Int))))) → sg_R v36 → wx z 1 248 83 [(0, .inr (.inr (.ref 88))), (1, .inl (a1)), (2, .inl (v1)), (3, .inl ((sg_g σ 102 (v1))))] [.inl (v36)] σ2 (fun v σ' => v = none ∧ sg_F [119, 47088] σ σ' ∧ Q σ') := by
                intro v36 e38 r37
                have w := w v36 e38 r37
                refine wk_b tt_248 2 (pc' := 87) (ls' := [(4, .inl (v36)), (0, .inr (.inr (.ref 88))), (1, .inl (a1)), (2, .inl (v1)), (3, .inl ((sg_g σ 102 (v1))))]) (st' := [.inl (v36)]) (σ' := σ2) rfl ?_
                refine wk_if tt_248 (tgt := 95) rfl rfl r37 (fun (h39 : ¬ v36 = 0) => ?_) (fun (h39 : v36 = 0) => ?_)
                ·
                  have w := w.1 h39
                  exact wk_ls [(0, .inr (.inr (.ref 88))), (1, .inl (a1)), (2, .inl (v1))] rfl ⟨rfl, rfl, rfl, trivial⟩ (jn19 σ2 (sg_F_r [119, 47088] σ2) w)
                ·
                  have w := w.2 h39
                  refine wk_b tt_248 2 (pc' := 92) (ls' := [(4, .inl (v36)), (0, .inr (.inr (.ref 88))), (1, .inl (a1)), (2, .inl (v1)), (3, .inl ((sg_g σ 102 (v1))))]) (st' := [.inl ((sg_g σ 102 (v1))), .inr (.inr (.ref 88))]) (σ' := σ2) rfl ?_
                  refine wk_call tt_248 rfl rfl rfl rfl rfl tt_301 rfl (by decide) (w_outsider z σ2 ((sg_g σ 102 (v1))) _ (sg_Rg _ _ _) w) (fun u45 σ41 hq43 => ?_)
                  obtain ⟨rfl, hF42, w⟩ := hq43
                  have w := w hF42
                  exact wk_ls [(0, .inr (.inr (.ref 88))), (1, .inl (a1)), (2, .inl (v1))] rfl ⟨rfl, rfl, rfl, trivial⟩ (jn19 σ41 (sg_F_t (sg_F_r [119, 47088] σ2) (sg_F_m (L := [119, 47088]) hF42 rfl)) w)
              have w := wp
              refine wk_if tt_248 (tgt := 82) rfl rfl ra1 (fun (h34 : a1 < 0) => ?_) (fun (h34 : 0 ≤ a1) => ?_)
              ·
                have w := w.1 h34
                refine wk_b tt_248 1 (pc' := 83) (ls' := [(3, .inl ((sg_g σ 102 (v1)))), (0, .inr (.inr (.ref 88))), (1, .inl (a1)), (2, .inl (v1))]) (st' := [.inl (0)]) (σ' := σ2) rfl ?_
                exact wk_ls [(0, .inr (.inr (.ref 88))), (1, .inl (a1)), (2, .inl (v1)), (3, .inl ((sg_g σ 102 (v1))))] rfl ⟨rfl, rfl, rfl, rfl, trivial⟩ (jn35 (0) (by simp only [if_pos h34]) (by decide))
              ·
                have w := w.2 h34
                refine wk_b tt_248 2 (pc' := 57) (ls' := [(3, .inl ((sg_g σ 102 (v1)))), (0, .inr (.inr (.ref 88))), (1, .inl (a1)), (2, .inl (v1))]) (st' := [.inl (210), .inl ((sg_g σ 102 (v1)))]) (σ' := σ2) rfl ?_
                refine wk_if2 tt_248 (tgt := 82) rfl rfl (sg_Rg _ _ _) (by decide) (fun (h46 : (sg_g σ 102 (v1)) < 210) => ?_) (fun (h46 : 210 ≤ (sg_g σ 102 (v1))) => ?_)
                ·
                  have w := w.1 h46
                  refine wk_b tt_248 1 (pc' := 83) (ls' := [(3, .inl ((sg_g σ 102 (v1)))), (0, .inr (.inr (.ref 88))), (1, .inl (a1)), (2, .inl (v1))]) (st' := [.inl (0)]) (σ' := σ2) rfl ?_
                  exact wk_ls [(0, .inr (.inr (.ref 88))), (1, .inl (a1)), (2, .inl (v1)), (3, .inl ((sg_g σ 102 (v1))))] rfl ⟨rfl, rfl, rfl, rfl, trivial⟩ (jn35 (0) (by simp only [if_neg (show ¬ (a1 < 0) by omega), if_pos h46]) (by decide))
                ·
                  have w := w.2 h46
                  refine wk_b tt_248 2 (pc' := 64) (ls' := [(3, .inl ((sg_g σ 102 (v1)))), (0, .inr (.inr (.ref 88))), (1, .inl (a1)), (2, .inl (v1))]) (st' := [.inl (1100), .inl ((sg_g σ 102 (v1)))]) (σ' := σ2) rfl ?_
                  refine wk_if2 tt_248 (tgt := 82) rfl rfl (sg_Rg _ _ _) (by decide) (fun (h47 : 1100 ≤ (sg_g σ 102 (v1))) => ?_) (fun (h47 : (sg_g σ 102 (v1)) < 1100) => ?_)
                  ·
                    have w := w.1 h47
                    refine wk_b tt_248 1 (pc' := 83) (ls' := [(3, .inl ((sg_g σ 102 (v1)))), (0, .inr (.inr (.ref 88))), (1, .inl (a1)), (2, .inl (v1))]) (st' := [.inl (0)]) (σ' := σ2) rfl ?_
                    exact wk_ls [(0, .inr (.inr (.ref 88))), (1, .inl (a1)), (2, .inl (v1)), (3, .inl ((sg_g σ 102 (v1))))] rfl ⟨rfl, rfl, rfl, rfl, trivial⟩ (jn35 (0) (by simp only [if_neg (show ¬ (a1 < 0) by omega), if_neg (show ¬ ((sg_g σ 102 (v1)) < 210) by omega), if_pos h47]) (by decide))
                  ·
                    have w := w.2 h47
                    obtain ⟨c48, w⟩ := w
                    refine wk_b tt_248 4 (pc' := 73) (ls' := [(3, .inl ((sg_g σ 102 (v1)))), (0, .inr (.inr (.ref 88))), (1, .inl (a1)), (2, .inl (v1))]) (st' := [.inl (4), .inl (((sg_g σ 102 (v1)) - 210))]) (σ' := σ2) rfl ?_
                    refine wk_div tt_248 rfl (by decide) ?_
                    refine wk_b tt_248 1 (pc' := 75) (ls' := [(3, .inl ((sg_g σ 102 (v1)))), (0, .inr (.inr (.ref 88))), (1, .inl (a1)), (2, .inl (v1))]) (st' := [.inl (a1), .inl (((sg_i (((sg_g σ 102 (v1)) - 210)) / sg_i (4)).toInt))]) (σ' := σ2) rfl ?_
                    refine wk_if2 tt_248 (tgt := 82) rfl rfl (sg_Rr _) ra1 (fun (h49 : ¬ ((sg_i (((sg_g σ 102 (v1)) - 210)) / sg_i (4)).toInt) = a1) => ?_) (fun (h49 : ((sg_i (((sg_g σ 102 (v1)) - 210)) / sg_i (4)).toInt) = a1) => ?_)
                    ·
                      have w := w.1 h49
                      refine wk_b tt_248 1 (pc' := 83) (ls' := [(3, .inl ((sg_g σ 102 (v1)))), (0, .inr (.inr (.ref 88))), (1, .inl (a1)), (2, .inl (v1))]) (st' := [.inl (0)]) (σ' := σ2) rfl ?_
                      exact wk_ls [(0, .inr (.inr (.ref 88))), (1, .inl (a1)), (2, .inl (v1)), (3, .inl ((sg_g σ 102 (v1))))] rfl ⟨rfl, rfl, rfl, rfl, trivial⟩ (jn35 (0) (by simp only [if_neg (show ¬ (a1 < 0) by omega), if_neg (show ¬ ((sg_g σ 102 (v1)) < 210) by omega), if_neg (show ¬ (1100 ≤ (sg_g σ 102 (v1))) by omega), if_pos h49]) (by decide))
                    ·
                      have w := w.2 h49
                      refine wk_b tt_248 2 (pc' := 83) (ls' := [(3, .inl ((sg_g σ 102 (v1)))), (0, .inr (.inr (.ref 88))), (1, .inl (a1)), (2, .inl (v1))]) (st' := [.inl (1)]) (σ' := σ2) rfl ?_
                      exact wk_ls [(0, .inr (.inr (.ref 88))), (1, .inl (a1)), (2, .inl (v1)), (3, .inl ((sg_g σ 102 (v1))))] rfl ⟨rfl, rfl, rfl, rfl, trivial⟩ (jn35 (1) (by simp only [if_neg (show ¬ (a1 < 0) by omega), if_neg (show ¬ ((sg_g σ 102 (v1)) < 210) by omega), if_neg (show ¬ (1100 ≤ (sg_g σ 102 (v1))) by omega), if_neg (show ¬ (¬ ((sg_i (((sg_g σ 102 (v1)) - 210)) / sg_i (4)).toInt) = a1) by omega)]) (by decide))
  exact wk_ls [(0, .inr (.inr (.ref 88))), (1, .inl (a1)), (2, .inl (0))] rfl ⟨rfl, rfl, rfl, trivial⟩ (lp10 μ5 (0) σ (by decide) (sg_F_r _ _) w11)
-- NestedVectorsModel.listWhere
def V_listWhere (σ : sg_S) (a1 : Int) (a2 : Int) (Q : sg_S → Prop) : Prop := ∀ σ1, σ1 = (sg_w σ 88 93 (0)) → (∃ (I7 : Nat → Int → sg_S → Prop) (X9 : sg_S → Prop), (∃ n, I7 n (0) σ1) ∧ (∀ (n17 : Nat) (v4 : Int) (σ5 : sg_S), sg_R v4 → sg_F [143, 94088] σ1 σ5 → I7 n17 v4 σ5 → p_lanesOf σ (a1) ∧ (((v_lanesOf σ (a1)) ≤ v4 → X9 σ5) ∧ (v4 < (v_lanesOf σ (a1)) → p_rowAt σ (a1) (v4) ∧ ∀ v26 : Int, v26 = (if (v_rowAt σ (a1) (v4)) = 0 then (0 : Int) else (1 : Int)) → sg_R v26 → (∃ P31 : sg_S → Prop, ((¬ v26 = a2 → P31 σ5) ∧ (v26 = a2 → V_list σ5 (v4) (fun σ38 => sg_F [143, 94088] σ5 σ38 → P31 σ38))) ∧ (∀ (σ32 : sg_S), sg_F [143, 94088] σ5 σ32 → P31 σ32 → sg_R (v4 + 1) ∧ (∃ m, m < n17 ∧ I7 m ((v4 + 1)) σ32)))))) ∧ (∀ (σ5 : sg_S), sg_F [143, 94088] σ1 σ5 → X9 σ5 → Q σ5))
set_option maxHeartbeats 4000000 in
set_option maxRecDepth 8000 in
theorem w_listWhere (z : Value) (σ : sg_S) (a1 : Int) (a2 : Int) (Q : sg_S → Prop) (ra1 : sg_R a1) (ra2 : sg_R a2) (w : V_listWhere σ a1 a2 Q) : wx z 1 282 0 [(0, .inr (.inr (.ref 88))), (1, .inl (a1)), (2, .inl (a2))] [] σ (fun v σ' => v = none ∧ sg_F [143, 94088] σ σ' ∧ Q σ') := by
  unfold V_listWhere at w
  refine wk_b tt_282 3 (pc' := 5) (ls' := [(0, .inr (.inr (.ref 88))), (1, .inl (a1)), (2, .inl (a2))]) (st' := []) (σ' := (sg_w σ 88 93 (0))) rfl ?_
  generalize hs2 : (sg_w σ 88 93 (0)) = σ1
  have w := w σ1 hs2.symm
  have hF3 : sg_F [94088] σ σ1 := by rw [← hs2]; exact sg_F_w (sg_F_r _ _) rfl _
  refine wk_b tt_282 2 (pc' := 7) (ls' := [(3, .inl (0)), (0, .inr (.inr (.ref 88))), (1, .inl (a1)), (2, .inl (a2))]) (st' := []) (σ' := σ1) rfl ?_
  obtain ⟨I7, X9, ⟨μ8, w14⟩, w15, w16⟩ := w
  have ex18 : ∀ (σ5 : sg_S), sg_F [143, 94088] σ1 σ5 → X9 σ5 → wx z 1 282 45 [] [] σ5 (fun v σ' => v = none ∧ sg_F [143, 94088] σ σ' ∧ Q σ') := by
    intro σ5 hF6 w
    have w := w16 σ5 hF6 w
    exact wk_rV tt_282 rfl rfl ⟨rfl, (sg_F_t (sg_F_t (sg_F_r [143, 94088] σ) (sg_F_m (L := [143, 94088]) hF3 rfl)) (sg_F_m (L := [143, 94088]) hF6 rfl)), w⟩
  have lp13 : ∀ (n17 : Nat) (v4 : Int) (σ5 : sg_S), sg_R v4 → sg_F [143, 94088] σ1 σ5 → I7 n17 v4 σ5 → wx z 1 282 7 [(0, .inr (.inr (.ref 88))), (1, .inl (a1)), (2, .inl (a2)), (3, .inl (v4))] [] σ5 (fun v σ' => v = none ∧ sg_F [143, 94088] σ σ' ∧ Q σ') := by
    intro n17
    induction n17 using Nat.strongRecOn with
    | _ n17 ih11 =>
      intro v4 σ5 r10 hF6 w
      have w := w15 n17 v4 σ5 r10 hF6 w
      refine wk_b tt_282 3 (pc' := 10) (ls' := [(0, .inr (.inr (.ref 88))), (1, .inl (a1)), (2, .inl (a2)), (3, .inl (v4))]) (st' := [.inl (a1), .inr (.inr (.ref 88)), .inl (v4)]) (σ' := σ5) rfl ?_
      obtain ⟨c19, w⟩ := w
      have c19 : p_lanesOf σ5 (a1) := by
        rw [pF_lanesOf hF6 rfl, pF_lanesOf hF3 rfl]; exact c19
      refine wk_callp tt_282 rfl rfl rfl rfl rfl tt_277 rfl (by decide) (w_lanesOf z σ5 (a1) ra1 c19) ?_
      rw [vF_lanesOf hF6 rfl, vF_lanesOf hF3 rfl]
      have r20 := vr_lanesOf σ  (a1) ra1 (by have q := c19; rw [pF_lanesOf hF6 rfl, pF_lanesOf hF3 rfl] at q; exact q)
      refine wk_if2 tt_282 (tgt := 45) rfl rfl r10 r20 (fun (h21 : (v_lanesOf σ (a1)) ≤ v4) => ?_) (fun (h21 : v4 < (v_lanesOf σ (a1))) => ?_)
      ·
        have w := w.1 h21
        exact wk_ls [] rfl trivial (ex18  σ5  (sg_F_t (sg_F_r [143, 94088] σ1) (sg_F_m (L := [143, 94088]) hF6 rfl)) w)
      ·
        have w := w.2 h21
        refine wk_b tt_282 3 (pc' := 19) (ls' := [(0, .inr (.inr (.ref 88))), (1, .inl (a1)), (2, .inl (a2)), (3, .inl (v4))]) (st' := [.inl (v4), .inl (a1), .inr (.inr (.ref 88))]) (σ' := σ5) rfl ?_
        obtain ⟨c22, w⟩ := w
        have c22 : p_rowAt σ5 (a1) (v4) := by
          rw [pF_rowAt hF6 rfl rfl, pF_rowAt hF3 rfl rfl]; exact c22
        refine wk_callp tt_282 rfl rfl rfl rfl rfl tt_322 rfl (by decide) (w_rowAt z σ5 (a1) (v4) ra1 r10 c22) ?_
        rw [vF_rowAt hF6 rfl rfl, vF_rowAt hF3 rfl rfl]
        have r23 := vr_rowAt σ  (a1) (v4) ra1 r10 (by have q := c22; rw [pF_rowAt hF6 rfl rfl, pF_rowAt hF3 rfl rfl] at q; exact q)
        have jn25 : ∀ v26 : Int, v26 = (if (v_rowAt σ (a1) (v4)) = 0 then (0 : Int) else (1 : Int)) → sg_R v26 → wx z 1 282 30 [(0, .inr (.inr (.ref 88))), (1, .inl (a1)), (2, .inl (a2)), (3, .inl (v4))] [.inl (v26)] σ5 (fun v σ' => v = none ∧ sg_F [143, 94088] σ σ' ∧ Q σ') := by
          intro v26 e28 r27
          have w := w v26 e28 r27
          refine wk_b tt_282 1 (pc' := 31) (ls' := [(0, .inr (.inr (.ref 88))), (1, .inl (a1)), (2, .inl (a2)), (3, .inl (v4))]) (st' := [.inl (a2), .inl (v26)]) (σ' := σ5) rfl ?_
          obtain ⟨P31, w, w34⟩ := w
          have jn30 : ∀ (σ32 : sg_S), sg_F [143, 94088] σ5 σ32 → P31 σ32 → wx z 1 282 39 [(0, .inr (.inr (.ref 88))), (1, .inl (a1)), (2, .inl (a2)), (3, .inl (v4))] [] σ32 (fun v σ' => v = none ∧ sg_F [143, 94088] σ σ' ∧ Q σ') := by
            intro σ32 hF33 w
            have w := w34 σ32 hF33 w
            obtain ⟨c35, w⟩ := w
            refine wk_b tt_282 2 (pc' := 7) (ls' := [(3, .inl ((v4 + 1))), (0, .inr (.inr (.ref 88))), (1, .inl (a1)), (2, .inl (a2))]) (st' := []) (σ' := σ32) rfl ?_
            obtain ⟨m36, hm36, w⟩ := w
            exact wk_ls [(0, .inr (.inr (.ref 88))), (1, .inl (a1)), (2, .inl (a2)), (3, .inl ((v4 + 1)))] rfl ⟨rfl, rfl, rfl, rfl, trivial⟩ (ih11 m36 hm36 ((v4 + 1)) σ32 c35 (sg_F_t (sg_F_t (sg_F_r [143, 94088] σ1) (sg_F_m (L := [143, 94088]) hF6 rfl)) (sg_F_m (L := [143, 94088]) hF33 rfl)) w)
          refine wk_if2 tt_282 (tgt := 39) rfl rfl r27 ra2 (fun (h29 : ¬ v26 = a2) => ?_) (fun (h29 : v26 = a2) => ?_)
          ·
            have w := w.1 h29
            exact wk_ls [(0, .inr (.inr (.ref 88))), (1, .inl (a1)), (2, .inl (a2)), (3, .inl (v4))] rfl ⟨rfl, rfl, rfl, rfl, trivial⟩ (jn30 σ5 (sg_F_r [143, 94088] σ5) w)
          ·
            have w := w.2 h29
            refine wk_b tt_282 2 (pc' := 36) (ls' := [(0, .inr (.inr (.ref 88))), (1, .inl (a1)), (2, .inl (a2)), (3, .inl (v4))]) (st' := [.inl (v4), .inr (.inr (.ref 88))]) (σ' := σ5) rfl ?_
            refine wk_call tt_282 rfl rfl rfl rfl rfl tt_280 rfl (by decide) (w_list z σ5 (v4) _ r10 w) (fun u42 σ38 hq40 => ?_)
            obtain ⟨rfl, hF39, w⟩ := hq40
            have w := w hF39
            exact wk_ls [(0, .inr (.inr (.ref 88))), (1, .inl (a1)), (2, .inl (a2)), (3, .inl (v4))] rfl ⟨rfl, rfl, rfl, rfl, trivial⟩ (jn30 σ38 (sg_F_t (sg_F_r [143, 94088] σ5) (sg_F_m (L := [143, 94088]) hF39 rfl)) w)
        refine wk_if tt_282 (tgt := 29) rfl rfl r23 (fun (h24 : (v_rowAt σ (a1) (v4)) = 0) => ?_) (fun (h24 : ¬ (v_rowAt σ (a1) (v4)) = 0) => ?_)
        ·
          clear w
          refine wk_b tt_282 1 (pc' := 30) (ls' := [(0, .inr (.inr (.ref 88))), (1, .inl (a1)), (2, .inl (a2)), (3, .inl (v4))]) (st' := [.inl (0)]) (σ' := σ5) rfl ?_
          exact wk_ls [(0, .inr (.inr (.ref 88))), (1, .inl (a1)), (2, .inl (a2)), (3, .inl (v4))] rfl ⟨rfl, rfl, rfl, rfl, trivial⟩ (jn25 (0) (by simp only [if_pos h24]) (by decide))
        ·
          clear w
          refine wk_b tt_282 2 (pc' := 30) (ls' := [(0, .inr (.inr (.ref 88))), (1, .inl (a1)), (2, .inl (a2)), (3, .inl (v4))]) (st' := [.inl (1)]) (σ' := σ5) rfl ?_
          exact wk_ls [(0, .inr (.inr (.ref 88))), (1, .inl (a1)), (2, .inl (a2)), (3, .inl (v4))] rfl ⟨rfl, rfl, rfl, rfl, trivial⟩ (jn25 (1) (by simp only [if_neg (show ¬ ((v_rowAt σ (a1) (v4)) = 0) by omega)]) (by decide))
  exact wk_ls [(0, .inr (.inr (.ref 88))), (1, .inl (a1)), (2, .inl (a2)), (3, .inl (0))] rfl ⟨rfl, rfl, rfl, rfl, trivial⟩ (lp13 μ8 (0) σ1 (by decide) (sg_F_r _ _) w14)
