/-! Conditions of the reference's methods, by program (18). -/
-- NestedVectorsModel.flatWorked
def V_flatWorked_23 (σ : sg_S) (b3 : Int) (b4 : Int) (b5 : Int) (Q : Int → sg_S → Prop) : Prop := V_flatCat σ (b4) (b5) (b3) (fun q1 σ2 => sg_R q1 → sg_F [133, 139, 140, 141, 142, 143, 144, 150, 74088, 85088, 86088, 88088, 92088, 94088, 103088, 104088] σ σ2 → Q (q1) σ2)
set_option maxHeartbeats 4000000 in
set_option maxRecDepth 8000 in
theorem w_flatWorked_23 (z : Value) (σ : sg_S) (b3 : Int) (b4 : Int) (b5 : Int) (Q : Int → sg_S → Prop) (rb3 : sg_R b3) (rb4 : sg_R b4) (rb5 : sg_R b5) (w : V_flatWorked_23 σ b3 b4 b5 Q) : wx z 4 246 306 [(0, .inr (.inr (.ref 88))), (3, .inl (b3)), (4, .inl (b4)), (5, .inl (b5))] [] σ (fun v σ' => ∃ q, v = some (.inl q) ∧ sg_R q ∧ sg_F [133, 139, 140, 141, 142, 143, 144, 150, 74088, 85088, 86088, 88088, 92088, 94088, 103088, 104088] σ σ' ∧ Q q σ') := by
  unfold V_flatWorked_23 at w
  refine wk_b tt_246 4 (pc' := 312) (ls' := [(0, .inr (.inr (.ref 88))), (3, .inl (b3)), (4, .inl (b4)), (5, .inl (b5))]) (st' := [.inl (b3), .inl (b5), .inl (b4), .inr (.inr (.ref 88))]) (σ' := σ) rfl ?_
  refine wk_call tt_246 rfl rfl rfl rfl rfl tt_233 rfl (by decide) (w_flatCat z σ (b4) (b5) (b3) _ rb4 rb5 rb3 w) (fun u6 σ2 hq4 => ?_)
  obtain ⟨q1, rfl, r5, hF3, w⟩ := hq4
  have w := w r5 hF3
  exact wk_rI tt_246 rfl rfl ⟨_, rfl, r5, (sg_F_t (sg_F_r [133, 139, 140, 141, 142, 143, 144, 150, 74088, 85088, 86088, 88088, 92088, 94088, 103088, 104088] σ) (sg_F_m (L := [133, 139, 140, 141, 142, 143, 144, 150, 74088, 85088, 86088, 88088, 92088, 94088, 103088, 104088]) hF3 rfl)), w⟩
-- NestedVectorsModel.flatFlat
def V_flatFlat (σ : sg_S) (a1 : Int) (a2 : Int) (Q : Int → sg_S → Prop) : Prop := V_inner σ (a1) (fun q1 σ2 => sg_R q1 → sg_F [139, 140, 141, 88088] σ σ2 → V_inner σ2 (q1) (fun q7 σ8 => sg_R q7 → sg_F [139, 140, 141, 88088] σ2 σ8 → ∀ σ13, σ13 = (sg_w σ8 88 93 (0)) → (∃ (I21 : Nat → Int → Int → Int → sg_S → Prop) (X23 : sg_S → Prop), (∃ n, I21 n (0) (0) (0) σ13) ∧ (∀ (n33 : Nat) (v16 : Int) (v17 : Int) (v18 : Int) (σ19 : sg_S), sg_R v16 → sg_R v17 → sg_R v18 → sg_F [143, 150, 94088, 103088, 104088] σ13 σ19 → I21 n33 v16 v17 v18 σ19 → ((a2 ≤ v18 → X23 σ19) ∧ (v18 < a2 → (∃ (I73 : Nat → Int → Int → Int → Prop) (X75 : Int → Int → Prop), (∃ n, I73 n (v16) (0) (0)) ∧ (∀ (n85 : Nat) (v68 : Int) (v69 : Int) (v70 : Int), sg_R v68 → sg_R v69 → sg_R v70 → I73 n85 v68 v69 v70 → p_rowAt σ8 (a1) (v18) ∧ (((v_rowAt σ8 (a1) (v18)) ≤ v70 → X75 (v68) (v69)) ∧ (v70 < (v_rowAt σ8 (a1) (v18)) → p_rowAt σ8 (q1) (v68) ∧ sg_R (v69 + (v_rowAt σ8 (q1) (v68))) ∧ sg_R (v68 + 1) ∧ sg_R (v70 + 1) ∧ (∃ m, m < n85 ∧ I73 m ((v68 + 1)) ((v69 + (v_rowAt σ8 (q1) (v68)))) ((v70 + 1)))))) ∧ (∀ (v68 : Int) (v69 : Int), sg_R v68 → sg_R v69 → X75 v68 v69 → (∃ P89 : sg_S → Prop, ((v69 ≤ 200 → P89 σ19) ∧ (200 < v69 → V_lacks σ19 (v18) (5) (fun σ132 => sg_F [103088, 104088] σ19 σ132 → P89 σ132))) ∧ (∀ (σ90 : sg_S), sg_F [103088, 104088] σ19 σ90 → P89 σ90 → (∃ (I96 : Nat → Int → sg_S → Prop) (X98 : sg_S → Prop), (∃ n, I96 n (0) σ90) ∧ (∀ (n106 : Nat) (v93 : Int) (σ94 : sg_S), sg_R v93 → sg_F [143, 94088] σ90 σ94 → I96 n106 v93 σ94 → ((v69 ≤ v93 → X98 σ94) ∧ (v93 < v69 → ((200 < v69 → X98 σ94) ∧ (v69 ≤ 200 → sg_R (v17 + v93) ∧ V_list σ94 ((v17 + v93)) (fun σ124 => sg_F [143, 94088] σ94 σ124 → sg_R (v93 + 1) ∧ (∃ m, m < n106 ∧ I96 m ((v93 + 1)) σ124))))))) ∧ (∀ (σ94 : sg_S), sg_F [143, 94088] σ90 σ94 → X98 σ94 → sg_R (v17 + v69) ∧ ∀ v111 : Int, v111 = (if v69 ≤ 200 then v69 else (0 : Int)) → sg_R v111 → (0 ≤ v18 ∧ v18 < 13000) ∧ ∀ σ115, σ115 = (sg_w σ94 150 (v18) (v111)) → sg_R (v18 + 1) ∧ (∃ m, m < n33 ∧ I21 m (v68) ((v17 + v69)) ((v18 + 1)) σ115)))))))))) ∧ (∀ (σ19 : sg_S), sg_F [143, 150, 94088, 103088, 104088] σ13 σ19 → X23 σ19 → V_extentOfLanes σ19 (q7) (fun q35 σ36 => sg_RL q35 → sg_F [144] σ19 σ36 → sg_RL (a2 + q35) ∧ V_stepped σ36 ((a2 + q35)) (fun q42 σ43 => (q42 = 0 ∨ q42 = 1) → sg_F [74088, 85088, 86088] σ36 σ43 → ((¬ q42 = 0 → V_gathered σ43 (q7) (fun q49 σ50 => sg_R q49 → sg_F [139, 140, 141, 142, 144, 88088, 92088] σ43 σ50 → V_putLens σ50 (a2) (fun q55 σ56 => sg_R q55 → sg_F [142, 92088] σ50 σ56 → V_outer σ56 (q55) (a2) (q49) (fun q61 σ62 => sg_R q61 → sg_F [139, 140, 141, 88088] σ56 σ62 → Q (q61) σ62)))) ∧ (q42 = 0 → Q (0) σ43))))))))
set_option maxHeartbeats 4000000 in
set_option maxRecDepth 8000 in
theorem w_flatFlat (z : Value) (σ : sg_S) (a1 : Int) (a2 : Int) (Q : Int → sg_S → Prop) (ra1 : sg_R a1) (ra2 : sg_R a2) (w : V_flatFlat σ a1 a2 Q) : wx z 3 237 0 [(0, .inr (.inr (.ref 88))), (1, .inl (a1)), (2, .inl (a2))] [] σ (fun v σ' => ∃ q, v = some (.inl q) ∧ sg_R q ∧ sg_F [139, 140, 141, 142, 143, 144, 150, 74088, 85088, 86088, 88088, 92088, 94088, 103088, 104088] σ σ' ∧ Q q σ') := by
  unfold V_flatFlat at w
  refine wk_b tt_237 2 (pc' := 2) (ls' := [(0, .inr (.inr (.ref 88))), (1, .inl (a1)), (2, .inl (a2))]) (st' := [.inl (a1), .inr (.inr (.ref 88))]) (σ' := σ) rfl ?_
  refine wk_call tt_237 rfl rfl rfl rfl rfl tt_259 rfl (by decide) (w_inner z σ (a1) _ ra1 w) (fun u6 σ2 hq4 => ?_)
  obtain ⟨q1, rfl, r5, hF3, w⟩ := hq4
  have w := w r5 hF3
  refine wk_b tt_237 3 (pc' := 8) (ls' := [(3, .inl (q1)), (0, .inr (.inr (.ref 88))), (1, .inl (a1)), (2, .inl (a2))]) (st' := [.inl (q1), .inr (.inr (.ref 88))]) (σ' := σ2) rfl ?_
  refine wk_call tt_237 rfl rfl rfl rfl rfl tt_259 rfl (by decide) (w_inner z σ2 (q1) _ r5 w) (fun u12 σ8 hq10 => ?_)
  obtain ⟨q7, rfl, r11, hF9, w⟩ := hq10
  have w := w r11 hF9
  refine wk_b tt_237 8 (pc' := 24) (ls' := [(6, .inl (0)), (5, .inl (0)), (4, .inl (q7)), (3, .inl (q1)), (0, .inr (.inr (.ref 88))), (1, .inl (a1)), (2, .inl (a2))]) (st' := []) (σ' := (sg_w σ8 88 93 (0))) rfl ?_
  generalize hs14 : (sg_w σ8 88 93 (0)) = σ13
  have w := w σ13 hs14.symm
  have hF15 : sg_F [94088] σ8 σ13 := by rw [← hs14]; exact sg_F_w (sg_F_r _ _) rfl _
  refine wk_b tt_237 2 (pc' := 27) (ls' := [(7, .inl (0)), (6, .inl (0)), (5, .inl (0)), (4, .inl (q7)), (3, .inl (q1)), (0, .inr (.inr (.ref 88))), (1, .inl (a1)), (2, .inl (a2))]) (st' := []) (σ' := σ13) rfl ?_
  obtain ⟨I21, X23, ⟨μ22, w30⟩, w31, w32⟩ := w
  have ex34 : ∀ (σ19 : sg_S), sg_F [143, 150, 94088, 103088, 104088] σ13 σ19 → X23 σ19 → wx z 3 237 154 [(0, .inr (.inr (.ref 88))), (2, .inl (a2)), (4, .inl (q7))] [] σ19 (fun v σ' => ∃ q, v = some (.inl q) ∧ sg_R q ∧ sg_F [139, 140, 141, 142, 143, 144, 150, 74088, 85088, 86088, 88088, 92088, 94088, 103088, 104088] σ σ' ∧ Q q σ') := by
    intro σ19 hF20 w
    have w := w32 σ19 hF20 w
    refine wk_b tt_237 5 (pc' := 160) (ls' := [(0, .inr (.inr (.ref 88))), (2, .inl (a2)), (4, .inl (q7))]) (st' := [.inl (q7), .inr (.inr (.ref 88)), .inr (.inl ((sg_n (a2)))), .inr (.inr (.ref 88))]) (σ' := σ19) rfl ?_
    rw [show (sg_n (a2)) = a2 from by rw [sg_id ra2]]
    refine wk_call tt_237 rfl rfl rfl rfl rfl tt_227 rfl (by decide) (w_extentOfLanes z σ19 (q7) _ r11 w) (fun u40 σ36 hq38 => ?_)
    obtain ⟨q35, rfl, r39, hF37, w⟩ := hq38
    have w := w r39 hF37
    obtain ⟨c41, w⟩ := w
    refine wk_b tt_237 1 (pc' := 164) (ls' := [(0, .inr (.inr (.ref 88))), (2, .inl (a2)), (4, .inl (q7))]) (st' := [.inr (.inl ((a2 + q35))), .inr (.inr (.ref 88))]) (σ' := σ36) rfl ?_
    refine wk_call tt_237 rfl rfl rfl rfl rfl tt_329 rfl (by decide) (w_stepped z σ36 ((a2 + q35)) _ c41 w) (fun u47 σ43 hq45 => ?_)
    obtain ⟨q42, rfl, r46, hF44, w⟩ := hq45
    have w := w r46 hF44
    refine wk_if tt_237 (tgt := 172) rfl rfl (sg_Rz r46) (fun (h48 : ¬ q42 = 0) => ?_) (fun (h48 : q42 = 0) => ?_)
    ·
      have w := w.1 h48
      refine wk_b tt_237 2 (pc' := 175) (ls' := [(0, .inr (.inr (.ref 88))), (2, .inl (a2)), (4, .inl (q7))]) (st' := [.inl (q7), .inr (.inr (.ref 88))]) (σ' := σ43) rfl ?_
      refine wk_call tt_237 rfl rfl rfl rfl rfl tt_249 rfl (by decide) (w_gathered z σ43 (q7) _ r11 w) (fun u54 σ50 hq52 => ?_)
      obtain ⟨q49, rfl, r53, hF51, w⟩ := hq52
      have w := w r53 hF51
      refine wk_b tt_237 3 (pc' := 182) (ls' := [(7, .inl (q49)), (0, .inr (.inr (.ref 88))), (2, .inl (a2)), (4, .inl (q7))]) (st' := [.inl (a2), .inr (.inr (.ref 88))]) (σ' := σ50) rfl ?_
      refine wk_call tt_237 rfl rfl rfl rfl rfl tt_309 rfl (by decide) (w_putLens z σ50 (a2) _ ra2 w) (fun u60 σ56 hq58 => ?_)
      obtain ⟨q55, rfl, r59, hF57, w⟩ := hq58
      have w := w r59 hF57
      refine wk_b tt_237 5 (pc' := 193) (ls' := [(8, .inl (q55)), (7, .inl (q49)), (0, .inr (.inr (.ref 88))), (2, .inl (a2)), (4, .inl (q7))]) (st' := [.inl (q49), .inl (a2), .inl (q55), .inr (.inr (.ref 88))]) (σ' := σ56) rfl ?_
      refine wk_call tt_237 rfl rfl rfl rfl rfl tt_300 rfl (by decide) (w_outer z σ56 (q55) (a2) (q49) _ r59 ra2 r53 w) (fun u66 σ62 hq64 => ?_)
      obtain ⟨q61, rfl, r65, hF63, w⟩ := hq64
      have w := w r65 hF63
      exact wk_rI tt_237 rfl rfl ⟨_, rfl, r65, (sg_F_t (sg_F_t (sg_F_t (sg_F_t (sg_F_t (sg_F_t (sg_F_t (sg_F_t (sg_F_t (sg_F_r [139, 140, 141, 142, 143, 144, 150, 74088, 85088, 86088, 88088, 92088, 94088, 103088, 104088] σ) (sg_F_m (L := [139, 140, 141, 142, 143, 144, 150, 74088, 85088, 86088, 88088, 92088, 94088, 103088, 104088]) hF3 rfl)) (sg_F_m (L := [139, 140, 141, 142, 143, 144, 150, 74088, 85088, 86088, 88088, 92088, 94088, 103088, 104088]) hF9 rfl)) (sg_F_m (L := [139, 140, 141, 142, 143, 144, 150, 74088, 85088, 86088, 88088, 92088, 94088, 103088, 104088]) hF15 rfl)) (sg_F_m (L := [139, 140, 141, 142, 143, 144, 150, 74088, 85088, 86088, 88088, 92088, 94088, 103088, 104088]) hF20 rfl)) (sg_F_m (L := [139, 140, 141, 142, 143, 144, 150, 74088, 85088, 86088, 88088, 92088, 94088, 103088, 104088]) hF37 rfl)) (sg_F_m (L := [139, 140, 141, 142, 143, 144, 150, 74088, 85088, 86088, 88088, 92088, 94088, 103088, 104088]) hF44 rfl)) (sg_F_m (L := [139, 140, 141, 142, 143, 144, 150, 74088, 85088, 86088, 88088, 92088, 94088, 103088, 104088]) hF51 rfl)) (sg_F_m (L := [139, 140, 141, 142, 143, 144, 150, 74088, 85088, 86088, 88088, 92088, 94088, 103088, 104088]) hF57 rfl)) (sg_F_m (L := [139, 140, 141, 142, 143, 144, 150, 74088, 85088, 86088, 88088, 92088, 94088, 103088, 104088]) hF63 rfl)), w⟩
    ·
      have w := w.2 h48
      refine wk_b tt_237 1 (pc' := 171) (ls' := [(0, .inr (.inr (.ref 88))), (2, .inl (a2)), (4, .inl (q7))]) (st' := [.inl (0)]) (σ' := σ43) rfl ?_
      exact wk_rI tt_237 rfl rfl ⟨_, rfl, (by decide), (sg_F_t (sg_F_t (sg_F_t (sg_F_t (sg_F_t (sg_F_t (sg_F_r [139, 140, 141, 142, 143, 144, 150, 74088, 85088, 86088, 88088, 92088, 94088, 103088, 104088] σ) (sg_F_m (L := [139, 140, 141, 142, 143, 144, 150, 74088, 85088, 86088, 88088, 92088, 94088, 103088, 104088]) hF3 rfl)) (sg_F_m (L := [139, 140, 141, 142, 143, 144, 150, 74088, 85088, 86088, 88088, 92088, 94088, 103088, 104088]) hF9 rfl)) (sg_F_m (L := [139, 140, 141, 142, 143, 144, 150, 74088, 85088, 86088, 88088, 92088, 94088, 103088, 104088]) hF15 rfl)) (sg_F_m (L := [139, 140, 141, 142, 143, 144, 150, 74088, 85088, 86088, 88088, 92088, 94088, 103088, 104088]) hF20 rfl)) (sg_F_m (L := [139, 140, 141, 142, 143, 144, 150, 74088, 85088, 86088, 88088, 92088, 94088, 103088, 104088]) hF37 rfl)) (sg_F_m (L := [139, 140, 141, 142, 143, 144, 150, 74088, 85088, 86088, 88088, 92088, 94088, 103088, 104088]) hF44 rfl)), w⟩
  have lp29 : ∀ (n33 : Nat) (v16 : Int) (v17 : Int) (v18 : Int) (σ19 : sg_S), sg_R v16 → sg_R v17 → sg_R v18 → sg_F [143, 150, 94088, 103088, 104088] σ13 σ19 → I21 n33 v16 v17 v18 σ19 → wx z 3 237 27 [(0, .inr (.inr (.ref 88))), (1, .inl (a1)), (2, .inl (a2)), (3, .inl (q1)), (4, .inl (q7)), (5, .inl (v16)), (6, .inl (v17)), (7, .inl (v18))] [] σ19 (fun v σ' => ∃ q, v = some (.inl q) ∧ sg_R q ∧ sg_F [139, 140, 141, 142, 143, 144, 150, 74088, 85088, 86088, 88088, 92088, 94088, 103088, 104088] σ σ' ∧ Q q σ') := by
    intro n33
    induction n33 using Nat.strongRecOn with
    | _ n33 ih27 =>
      intro v16 v17 v18 σ19 r24 r25 r26 hF20 w
      have w := w31 n33 v16 v17 v18 σ19 r24 r25 r26 hF20 w
      refine wk_b tt_237 2 (pc' := 30) (ls' := [(0, .inr (.inr (.ref 88))), (1, .inl (a1)), (2, .inl (a2)), (3, .inl (q1)), (4, .inl (q7)), (5, .inl (v16)), (6, .inl (v17)), (7, .inl (v18))]) (st' := [.inl (a2), .inl (v18)]) (σ' := σ19) rfl ?_
      refine wk_if2 tt_237 (tgt := 154) rfl rfl r26 ra2 (fun (h67 : a2 ≤ v18) => ?_) (fun (h67 : v18 < a2) => ?_)
      ·
        have w := w.1 h67
        exact wk_ls [(0, .inr (.inr (.ref 88))), (2, .inl (a2)), (4, .inl (q7))] rfl ⟨rfl, rfl, rfl, trivial⟩ (ex34  σ19  (sg_F_t (sg_F_r [143, 150, 94088, 103088, 104088] σ13) (sg_F_m (L := [143, 150, 94088, 103088, 104088]) hF20 rfl)) w)
      ·
        have w := w.2 h67
        refine wk_b tt_237 4 (pc' := 39) (ls' := [(9, .inl (0)), (8, .inl (0)), (0, .inr (.inr (.ref 88))), (1, .inl (a1)), (2, .inl (a2)), (3, .inl (q1)), (4, .inl (q7)), (5, .inl (v16)), (6, .inl (v17)), (7, .inl (v18))]) (st' := []) (σ' := σ19) rfl ?_
        obtain ⟨I73, X75, ⟨μ74, w82⟩, w83, w84⟩ := w
        have ex86 : ∀ (v68 : Int) (v69 : Int), sg_R v68 → sg_R v69 → X75 v68 v69 → wx z 3 237 72 [(0, .inr (.inr (.ref 88))), (1, .inl (a1)), (2, .inl (a2)), (3, .inl (q1)), (4, .inl (q7)), (5, .inl (v68)), (6, .inl (v17)), (7, .inl (v18)), (8, .inl (v69))] [] σ19 (fun v σ' => ∃ q, v = some (.inl q) ∧ sg_R q ∧ sg_F [139, 140, 141, 142, 143, 144, 150, 74088, 85088, 86088, 88088, 92088, 94088, 103088, 104088] σ σ' ∧ Q q σ') := by
          intro v68 v69 r76 r77 w
          have w := w84 v68 v69 r76 r77 w
          refine wk_b tt_237 2 (pc' := 77) (ls' := [(0, .inr (.inr (.ref 88))), (1, .inl (a1)), (2, .inl (a2)), (3, .inl (q1)), (4, .inl (q7)), (5, .inl (v68)), (6, .inl (v17)), (7, .inl (v18)), (8, .inl (v69))]) (st' := [.inl (200), .inl (v69)]) (σ' := σ19) rfl ?_
          obtain ⟨P89, w, w92⟩ := w
          have jn88 : ∀ (σ90 : sg_S), sg_F [103088, 104088] σ19 σ90 → P89 σ90 → wx z 3 237 87 [(0, .inr (.inr (.ref 88))), (1, .inl (a1)), (2, .inl (a2)), (3, .inl (q1)), (4, .inl (q7)), (5, .inl (v68)), (6, .inl (v17)), (7, .inl (v18)), (8, .inl (v69))] [] σ90 (fun v σ' => ∃ q, v = some (.inl q) ∧ sg_R q ∧ sg_F [139, 140, 141, 142, 143, 144, 150, 74088, 85088, 86088, 88088, 92088, 94088, 103088, 104088] σ σ' ∧ Q q σ') := by
            intro σ90 hF91 w
            have w := w92 σ90 hF91 w
            refine wk_b tt_237 2 (pc' := 90) (ls' := [(9, .inl (0)), (0, .inr (.inr (.ref 88))), (1, .inl (a1)), (2, .inl (a2)), (3, .inl (q1)), (4, .inl (q7)), (5, .inl (v68)), (6, .inl (v17)), (7, .inl (v18)), (8, .inl (v69))]) (st' := []) (σ' := σ90) rfl ?_
            obtain ⟨I96, X98, ⟨μ97, w103⟩, w104, w105⟩ := w
            have ex107 : ∀ (σ94 : sg_S), sg_F [143, 94088] σ90 σ94 → X98 σ94 → wx z 3 237 120 [(0, .inr (.inr (.ref 88))), (1, .inl (a1)), (2, .inl (a2)), (3, .inl (q1)), (4, .inl (q7)), (5, .inl (v68)), (6, .inl (v17)), (7, .inl (v18)), (8, .inl (v69))] [] σ94 (fun v σ' => ∃ q, v = some (.inl q) ∧ sg_R q ∧ sg_F [139, 140, 141, 142, 143, 144, 150, 74088, 85088, 86088, 88088, 92088, 94088, 103088, 104088] σ σ' ∧ Q q σ') := by
              intro σ94 hF95 w
              have w := w105 σ94 hF95 w
              obtain ⟨c108, w⟩ := w
              refine wk_b tt_237 9 (pc' := 138) (ls' := [(6, .inl ((v17 + v69))), (0, .inr (.inr (.ref 88))), (1, .inl (a1)), (2, .inl (a2)), (3, .inl (q1)), (4, .inl (q7)), (5, .inl (v68)), (7, .inl (v18)), (8, .inl (v69))]) (st' := [.inl (200), .inl (v69), .inl (v18), .inr (.inr (.ref 150))]) (σ' := σ94) rfl ?_
              have jn110 : ∀ v111 : Int, v111 = (if v69 ≤ 200 then v69 else (0 : Int)) → sg_R v111 → wx z 3 237 147 [(0, .inr (.inr (.ref 88))), (1, .inl (a1)), (2, .inl (a2)), (3, .inl (q1)), (4, .inl (q7)), (5, .inl (v68)), (6, .inl ((v17 + v69))), (7, .inl (v18))] [.inl (v111), .inl (v18), .inr (.inr (.ref 150))] σ94 (fun v σ' => ∃ q, v = some (.inl q) ∧ sg_R q ∧ sg_F [139, 140, 141, 142, 143, 144, 150, 74088, 85088, 86088, 88088, 92088, 94088, 103088, 104088] σ σ' ∧ Q q σ') := by
                intro v111 e113 r112
                have w := w v111 e113 r112
                obtain ⟨c114, w⟩ := w
                refine wk_is tt_237 rfl rfl c114.1 c114.2 r26 ?_
                generalize hs116 : (sg_w σ94 150 (v18) (v111)) = σ115
                have w := w σ115 hs116.symm
                have hF117 : sg_F [150] σ94 σ115 := by rw [← hs116]; exact sg_F_w (sg_F_r _ _) rfl _
                obtain ⟨c118, w⟩ := w
                refine wk_b tt_237 2 (pc' := 27) (ls' := [(7, .inl ((v18 + 1))), (0, .inr (.inr (.ref 88))), (1, .inl (a1)), (2, .inl (a2)), (3, .inl (q1)), (4, .inl (q7)), (5, .inl (v68)), (6, .inl ((v17 + v69)))]) (st' := []) (σ' := σ115) rfl ?_
                obtain ⟨m119, hm119, w⟩ := w
                exact wk_ls [(0, .inr (.inr (.ref 88))), (1, .inl (a1)), (2, .inl (a2)), (3, .inl (q1)), (4, .inl (q7)), (5, .inl (v68)), (6, .inl ((v17 + v69))), (7, .inl ((v18 + 1)))] rfl ⟨rfl, rfl, rfl, rfl, rfl, rfl, rfl, rfl, trivial⟩ (ih27 m119 hm119 (v68) ((v17 + v69)) ((v18 + 1)) σ115 r76 c108 c118 (sg_F_t (sg_F_t (sg_F_t (sg_F_t (sg_F_r [143, 150, 94088, 103088, 104088] σ13) (sg_F_m (L := [143, 150, 94088, 103088, 104088]) hF20 rfl)) (sg_F_m (L := [143, 150, 94088, 103088, 104088]) hF91 rfl)) (sg_F_m (L := [143, 150, 94088, 103088, 104088]) hF95 rfl)) (sg_F_m (L := [143, 150, 94088, 103088, 104088]) hF117 rfl)) w)
              refine wk_if2 tt_237 (tgt := 145) rfl rfl r77 (by decide) (fun (h109 : v69 ≤ 200) => ?_) (fun (h109 : 200 < v69) => ?_)
              ·
                clear w
                refine wk_b tt_237 1 (pc' := 147) (ls' := [(6, .inl ((v17 + v69))), (0, .inr (.inr (.ref 88))), (1, .inl (a1)), (2, .inl (a2)), (3, .inl (q1)), (4, .inl (q7)), (5, .inl (v68)), (7, .inl (v18)), (8, .inl (v69))]) (st' := [.inl (v69), .inl (v18), .inr (.inr (.ref 150))]) (σ' := σ94) rfl ?_
                exact wk_ls [(0, .inr (.inr (.ref 88))), (1, .inl (a1)), (2, .inl (a2)), (3, .inl (q1)), (4, .inl (q7)), (5, .inl (v68)), (6, .inl ((v17 + v69))), (7, .inl (v18))] rfl ⟨rfl, rfl, rfl, rfl, rfl, rfl, rfl, rfl, trivial⟩ (jn110 (v69) (by simp only [if_pos h109]) r77)
              ·
                clear w
                refine wk_b tt_237 2 (pc' := 147) (ls' := [(6, .inl ((v17 + v69))), (0, .inr (.inr (.ref 88))), (1, .inl (a1)), (2, .inl (a2)), (3, .inl (q1)), (4, .inl (q7)), (5, .inl (v68)), (7, .inl (v18)), (8, .inl (v69))]) (st' := [.inl (0), .inl (v18), .inr (.inr (.ref 150))]) (σ' := σ94) rfl ?_
                exact wk_ls [(0, .inr (.inr (.ref 88))), (1, .inl (a1)), (2, .inl (a2)), (3, .inl (q1)), (4, .inl (q7)), (5, .inl (v68)), (6, .inl ((v17 + v69))), (7, .inl (v18))] rfl ⟨rfl, rfl, rfl, rfl, rfl, rfl, rfl, rfl, trivial⟩ (jn110 (0) (by simp only [if_neg (show ¬ (v69 ≤ 200) by omega)]) (by decide))
            have lp102 : ∀ (n106 : Nat) (v93 : Int) (σ94 : sg_S), sg_R v93 → sg_F [143, 94088] σ90 σ94 → I96 n106 v93 σ94 → wx z 3 237 90 [(0, .inr (.inr (.ref 88))), (1, .inl (a1)), (2, .inl (a2)), (3, .inl (q1)), (4, .inl (q7)), (5, .inl (v68)), (6, .inl (v17)), (7, .inl (v18)), (8, .inl (v69)), (9, .inl (v93))] [] σ94 (fun v σ' => ∃ q, v = some (.inl q) ∧ sg_R q ∧ sg_F [139, 140, 141, 142, 143, 144, 150, 74088, 85088, 86088, 88088, 92088, 94088, 103088, 104088] σ σ' ∧ Q q σ') := by
              intro n106
              induction n106 using Nat.strongRecOn with
              | _ n106 ih100 =>
                intro v93 σ94 r99 hF95 w
                have w := w104 n106 v93 σ94 r99 hF95 w
                refine wk_b tt_237 2 (pc' := 94) (ls' := [(0, .inr (.inr (.ref 88))), (1, .inl (a1)), (2, .inl (a2)), (3, .inl (q1)), (4, .inl (q7)), (5, .inl (v68)), (6, .inl (v17)), (7, .inl (v18)), (8, .inl (v69)), (9, .inl (v93))]) (st' := [.inl (v69), .inl (v93)]) (σ' := σ94) rfl ?_
                refine wk_if2 tt_237 (tgt := 120) rfl rfl r99 r77 (fun (h120 : v69 ≤ v93) => ?_) (fun (h120 : v93 < v69) => ?_)
                ·
                  have w := w.1 h120
                  exact wk_ls [(0, .inr (.inr (.ref 88))), (1, .inl (a1)), (2, .inl (a2)), (3, .inl (q1)), (4, .inl (q7)), (5, .inl (v68)), (6, .inl (v17)), (7, .inl (v18)), (8, .inl (v69))] rfl ⟨rfl, rfl, rfl, rfl, rfl, rfl, rfl, rfl, rfl, trivial⟩ (ex107  σ94  (sg_F_t (sg_F_r [143, 94088] σ90) (sg_F_m (L := [143, 94088]) hF95 rfl)) w)
                ·
                  have w := w.2 h120
                  refine wk_b tt_237 2 (pc' := 102) (ls' := [(0, .inr (.inr (.ref 88))), (1, .inl (a1)), (2, .inl (a2)), (3, .inl (q1)), (4, .inl (q7)), (5, .inl (v68)), (6, .inl (v17)), (7, .inl (v18)), (8, .inl (v69)), (9, .inl (v93))]) (st' := [.inl (200), .inl (v69)]) (σ' := σ94) rfl ?_
                  refine wk_if2 tt_237 (tgt := 120) rfl rfl r77 (by decide) (fun (h121 : 200 < v69) => ?_) (fun (h121 : v69 ≤ 200) => ?_)
                  ·
                    have w := w.1 h121
                    exact wk_ls [(0, .inr (.inr (.ref 88))), (1, .inl (a1)), (2, .inl (a2)), (3, .inl (q1)), (4, .inl (q7)), (5, .inl (v68)), (6, .inl (v17)), (7, .inl (v18)), (8, .inl (v69))] rfl ⟨rfl, rfl, rfl, rfl, rfl, rfl, rfl, rfl, rfl, trivial⟩ (ex107  σ94  (sg_F_t (sg_F_r [143, 94088] σ90) (sg_F_m (L := [143, 94088]) hF95 rfl)) w)
                  ·
                    have w := w.2 h121
                    obtain ⟨c122, w⟩ := w
                    refine wk_b tt_237 4 (pc' := 111) (ls' := [(0, .inr (.inr (.ref 88))), (1, .inl (a1)), (2, .inl (a2)), (3, .inl (q1)), (4, .inl (q7)), (5, .inl (v68)), (6, .inl (v17)), (7, .inl (v18)), (8, .inl (v69)), (9, .inl (v93))]) (st' := [.inl ((v17 + v93)), .inr (.inr (.ref 88))]) (σ' := σ94) rfl ?_
                    refine wk_call tt_237 rfl rfl rfl rfl rfl tt_280 rfl (by decide) (w_list z σ94 ((v17 + v93)) _ c122 w) (fun u128 σ124 hq126 => ?_)
                    obtain ⟨rfl, hF125, w⟩ := hq126
                    have w := w hF125
                    obtain ⟨c129, w⟩ := w
                    refine wk_b tt_237 2 (pc' := 90) (ls' := [(9, .inl ((v93 + 1))), (0, .inr (.inr (.ref 88))), (1, .inl (a1)), (2, .inl (a2)), (3, .inl (q1)), (4, .inl (q7)), (5, .inl (v68)), (6, .inl (v17)), (7, .inl (v18)), (8, .inl (v69))]) (st' := []) (σ' := σ124) rfl ?_
                    obtain ⟨m130, hm130, w⟩ := w
                    exact wk_ls [(0, .inr (.inr (.ref 88))), (1, .inl (a1)), (2, .inl (a2)), (3, .inl (q1)), (4, .inl (q7)), (5, .inl (v68)), (6, .inl (v17)), (7, .inl (v18)), (8, .inl (v69)), (9, .inl ((v93 + 1)))] rfl ⟨rfl, rfl, rfl, rfl, rfl, rfl, rfl, rfl, rfl, rfl, trivial⟩ (ih100 m130 hm130 ((v93 + 1)) σ124 c129 (sg_F_t (sg_F_t (sg_F_r [143, 94088] σ90) (sg_F_m (L := [143, 94088]) hF95 rfl)) (sg_F_m (L := [143, 94088]) hF125 rfl)) w)
            exact wk_ls [(0, .inr (.inr (.ref 88))), (1, .inl (a1)), (2, .inl (a2)), (3, .inl (q1)), (4, .inl (q7)), (5, .inl (v68)), (6, .inl (v17)), (7, .inl (v18)), (8, .inl (v69)), (9, .inl (0))] rfl ⟨rfl, rfl, rfl, rfl, rfl, rfl, rfl, rfl, rfl, rfl, trivial⟩ (lp102 μ97 (0) σ90 (by decide) (sg_F_r _ _) w103)
          refine wk_if2 tt_237 (tgt := 87) rfl rfl r77 (by decide) (fun (h87 : v69 ≤ 200) => ?_) (fun (h87 : 200 < v69) => ?_)
          ·
            have w := w.1 h87
            exact wk_ls [(0, .inr (.inr (.ref 88))), (1, .inl (a1)), (2, .inl (a2)), (3, .inl (q1)), (4, .inl (q7)), (5, .inl (v68)), (6, .inl (v17)), (7, .inl (v18)), (8, .inl (v69))] rfl ⟨rfl, rfl, rfl, rfl, rfl, rfl, rfl, rfl, rfl, trivial⟩ (jn88 σ19 (sg_F_r [103088, 104088] σ19) w)
          ·
            have w := w.2 h87
            refine wk_b tt_237 3 (pc' := 84) (ls' := [(0, .inr (.inr (.ref 88))), (1, .inl (a1)), (2, .inl (a2)), (3, .inl (q1)), (4, .inl (q7)), (5, .inl (v68)), (6, .inl (v17)), (7, .inl (v18)), (8, .inl (v69))]) (st' := [.inl (5), .inl (v18), .inr (.inr (.ref 88))]) (σ' := σ19) rfl ?_
            refine wk_call tt_237 rfl rfl rfl rfl rfl tt_276 rfl (by decide) (w_lacks z σ19 (v18) (5) _ r26 (by decide) w) (fun u136 σ132 hq134 => ?_)
            obtain ⟨rfl, hF133, w⟩ := hq134
            have w := w hF133
            exact wk_ls [(0, .inr (.inr (.ref 88))), (1, .inl (a1)), (2, .inl (a2)), (3, .inl (q1)), (4, .inl (q7)), (5, .inl (v68)), (6, .inl (v17)), (7, .inl (v18)), (8, .inl (v69))] rfl ⟨rfl, rfl, rfl, rfl, rfl, rfl, rfl, rfl, rfl, trivial⟩ (jn88 σ132 (sg_F_t (sg_F_r [103088, 104088] σ19) (sg_F_m (L := [103088, 104088]) hF133 rfl)) w)
        have lp81 : ∀ (n85 : Nat) (v68 : Int) (v69 : Int) (v70 : Int), sg_R v68 → sg_R v69 → sg_R v70 → I73 n85 v68 v69 v70 → wx z 3 237 39 [(0, .inr (.inr (.ref 88))), (1, .inl (a1)), (2, .inl (a2)), (3, .inl (q1)), (4, .inl (q7)), (5, .inl (v68)), (6, .inl (v17)), (7, .inl (v18)), (8, .inl (v69)), (9, .inl (v70))] [] σ19 (fun v σ' => ∃ q, v = some (.inl q) ∧ sg_R q ∧ sg_F [139, 140, 141, 142, 143, 144, 150, 74088, 85088, 86088, 88088, 92088, 94088, 103088, 104088] σ σ' ∧ Q q σ') := by
          intro n85
          induction n85 using Nat.strongRecOn with
          | _ n85 ih79 =>
            intro v68 v69 v70 r76 r77 r78 w
            have w := w83 n85 v68 v69 v70 r76 r77 r78 w
            refine wk_b tt_237 4 (pc' := 45) (ls' := [(0, .inr (.inr (.ref 88))), (1, .inl (a1)), (2, .inl (a2)), (3, .inl (q1)), (4, .inl (q7)), (5, .inl (v68)), (6, .inl (v17)), (7, .inl (v18)), (8, .inl (v69)), (9, .inl (v70))]) (st' := [.inl (v18), .inl (a1), .inr (.inr (.ref 88)), .inl (v70)]) (σ' := σ19) rfl ?_
            obtain ⟨c137, w⟩ := w
            have c137 : p_rowAt σ19 (a1) (v18) := by
              rw [pF_rowAt hF20 rfl rfl, pF_rowAt hF15 rfl rfl]; exact c137
            refine wk_callp tt_237 rfl rfl rfl rfl rfl tt_322 rfl (by decide) (w_rowAt z σ19 (a1) (v18) ra1 r26 c137) ?_
            rw [vF_rowAt hF20 rfl rfl, vF_rowAt hF15 rfl rfl]
            have r138 := vr_rowAt σ8  (a1) (v18) ra1 r26 (by have q := c137; rw [pF_rowAt hF20 rfl rfl, pF_rowAt hF15 rfl rfl] at q; exact q)
            refine wk_if2 tt_237 (tgt := 72) rfl rfl r78 r138 (fun (h139 : (v_rowAt σ8 (a1) (v18)) ≤ v70) => ?_) (fun (h139 : v70 < (v_rowAt σ8 (a1) (v18))) => ?_)
            ·
              have w := w.1 h139
              exact wk_ls [(0, .inr (.inr (.ref 88))), (1, .inl (a1)), (2, .inl (a2)), (3, .inl (q1)), (4, .inl (q7)), (5, .inl (v68)), (6, .inl (v17)), (7, .inl (v18)), (8, .inl (v69))] rfl ⟨rfl, rfl, rfl, rfl, rfl, rfl, rfl, rfl, rfl, trivial⟩ (ex86 (v68) (v69)  r76 r77  w)
            ·
              have w := w.2 h139
              refine wk_b tt_237 4 (pc' := 57) (ls' := [(0, .inr (.inr (.ref 88))), (1, .inl (a1)), (2, .inl (a2)), (3, .inl (q1)), (4, .inl (q7)), (5, .inl (v68)), (6, .inl (v17)), (7, .inl (v18)), (8, .inl (v69)), (9, .inl (v70))]) (st' := [.inl (v68), .inl (q1), .inr (.inr (.ref 88)), .inl (v69)]) (σ' := σ19) rfl ?_
              obtain ⟨c140, w⟩ := w
              have c140 : p_rowAt σ19 (q1) (v68) := by
                rw [pF_rowAt hF20 rfl rfl, pF_rowAt hF15 rfl rfl]; exact c140
              refine wk_callp tt_237 rfl rfl rfl rfl rfl tt_322 rfl (by decide) (w_rowAt z σ19 (q1) (v68) r5 r76 c140) ?_
              rw [vF_rowAt hF20 rfl rfl, vF_rowAt hF15 rfl rfl]
              have r141 := vr_rowAt σ8  (q1) (v68) r5 r76 (by have q := c140; rw [pF_rowAt hF20 rfl rfl, pF_rowAt hF15 rfl rfl] at q; exact q)
              obtain ⟨c142, w⟩ := w
              obtain ⟨c143, w⟩ := w
              obtain ⟨c144, w⟩ := w
              refine wk_b tt_237 5 (pc' := 39) (ls' := [(9, .inl ((v70 + 1))), (5, .inl ((v68 + 1))), (8, .inl ((v69 + (v_rowAt σ8 (q1) (v68))))), (0, .inr (.inr (.ref 88))), (1, .inl (a1)), (2, .inl (a2)), (3, .inl (q1)), (4, .inl (q7)), (6, .inl (v17)), (7, .inl (v18))]) (st' := []) (σ' := σ19) rfl ?_
              obtain ⟨m145, hm145, w⟩ := w
              exact wk_ls [(0, .inr (.inr (.ref 88))), (1, .inl (a1)), (2, .inl (a2)), (3, .inl (q1)), (4, .inl (q7)), (5, .inl ((v68 + 1))), (6, .inl (v17)), (7, .inl (v18)), (8, .inl ((v69 + (v_rowAt σ8 (q1) (v68))))), (9, .inl ((v70 + 1)))] rfl ⟨rfl, rfl, rfl, rfl, rfl, rfl, rfl, rfl, rfl, rfl, trivial⟩ (ih79 m145 hm145 ((v68 + 1)) ((v69 + (v_rowAt σ8 (q1) (v68)))) ((v70 + 1))  c143 c142 c144  w)
        exact wk_ls [(0, .inr (.inr (.ref 88))), (1, .inl (a1)), (2, .inl (a2)), (3, .inl (q1)), (4, .inl (q7)), (5, .inl (v16)), (6, .inl (v17)), (7, .inl (v18)), (8, .inl (0)), (9, .inl (0))] rfl ⟨rfl, rfl, rfl, rfl, rfl, rfl, rfl, rfl, rfl, rfl, trivial⟩ (lp81 μ74 (v16) (0) (0)  r24 (by decide) (by decide)  w82)
  exact wk_ls [(0, .inr (.inr (.ref 88))), (1, .inl (a1)), (2, .inl (a2)), (3, .inl (q1)), (4, .inl (q7)), (5, .inl (0)), (6, .inl (0)), (7, .inl (0))] rfl ⟨rfl, rfl, rfl, rfl, rfl, rfl, rfl, rfl, trivial⟩ (lp29 μ22 (0) (0) (0) σ13 (by decide) (by decide) (by decide) (sg_F_r _ _) w30)
-- NestedVectorsModel.flatWorked
def V_flatWorked_24 (σ : sg_S) (b3 : Int) (b4 : Int) (Q : Int → sg_S → Prop) : Prop := V_flatFlat σ (b4) (b3) (fun q1 σ2 => sg_R q1 → sg_F [139, 140, 141, 142, 143, 144, 150, 74088, 85088, 86088, 88088, 92088, 94088, 103088, 104088] σ σ2 → Q (q1) σ2)
set_option maxHeartbeats 4000000 in
set_option maxRecDepth 8000 in
theorem w_flatWorked_24 (z : Value) (σ : sg_S) (b3 : Int) (b4 : Int) (Q : Int → sg_S → Prop) (rb3 : sg_R b3) (rb4 : sg_R b4) (w : V_flatWorked_24 σ b3 b4 Q) : wx z 4 246 316 [(0, .inr (.inr (.ref 88))), (3, .inl (b3)), (4, .inl (b4))] [] σ (fun v σ' => ∃ q, v = some (.inl q) ∧ sg_R q ∧ sg_F [139, 140, 141, 142, 143, 144, 150, 74088, 85088, 86088, 88088, 92088, 94088, 103088, 104088] σ σ' ∧ Q q σ') := by
  unfold V_flatWorked_24 at w
  refine wk_b tt_246 3 (pc' := 320) (ls' := [(0, .inr (.inr (.ref 88))), (3, .inl (b3)), (4, .inl (b4))]) (st' := [.inl (b3), .inl (b4), .inr (.inr (.ref 88))]) (σ' := σ) rfl ?_
  refine wk_call tt_246 rfl rfl rfl rfl rfl tt_237 rfl (by decide) (w_flatFlat z σ (b4) (b3) _ rb4 rb3 w) (fun u6 σ2 hq4 => ?_)
  obtain ⟨q1, rfl, r5, hF3, w⟩ := hq4
  have w := w r5 hF3
  exact wk_rI tt_246 rfl rfl ⟨_, rfl, r5, (sg_F_t (sg_F_r [139, 140, 141, 142, 143, 144, 150, 74088, 85088, 86088, 88088, 92088, 94088, 103088, 104088] σ) (sg_F_m (L := [139, 140, 141, 142, 143, 144, 150, 74088, 85088, 86088, 88088, 92088, 94088, 103088, 104088]) hF3 rfl)), w⟩
-- NestedVectorsModel.flatChosen
def V_flatChosen (σ : sg_S) (a1 : Int) (a2 : Int) (a3 : Int) (a4 : Int) (Q : Int → sg_S → Prop) : Prop := V_inner σ (a2) (fun q1 σ2 => sg_R q1 → sg_F [139, 140, 141, 88088] σ σ2 → sg_R (4 * a3) ∧ sg_R ((4 * a3) + 1) ∧ (0 ≤ ((4 * a3) + 1) ∧ ((4 * a3) + 1) < 120000) ∧ ∀ σ10, σ10 = (sg_w σ2 88 93 (0)) → (∃ (I18 : Nat → Int → Int → Int → sg_S → Prop) (X20 : sg_S → Prop), (∃ n, I18 n (0) ((sg_g σ2 140 (((4 * a3) + 1)))) (0) σ10) ∧ (∀ (n30 : Nat) (v13 : Int) (v14 : Int) (v15 : Int) (σ16 : sg_S), sg_R v13 → sg_R v14 → sg_R v15 → sg_F [135, 143, 150, 94088, 103088, 104088] σ10 σ16 → I18 n30 v13 v14 v15 σ16 → ((a4 ≤ v15 → X20 σ16) ∧ (v15 < a4 → p_rowAt σ2 (a2) (v15) ∧ p_rowAt σ2 (a3) (v15) ∧ (∃ P71 : sg_S → Prop, (((v_rowAt σ2 (a3) (v15)) = (v_rowAt σ2 (a2) (v15)) → (0 ≤ a1 ∧ a1 < 210) ∧ ((¬ (sg_g σ 93 (a1)) = 25 → V_isOrder σ16 (v14) ((v_rowAt σ2 (a2) (v15))) (0) (fun q88 σ89 => (q88 = 0 ∨ q88 = 1) → sg_F [135] σ16 σ89 → ((¬ q88 = 0 → (∃ (I98 : Nat → Int → sg_S → Prop), (∃ n, I98 n (0) σ89) ∧ (∀ (n108 : Nat) (v95 : Int) (σ96 : sg_S), sg_R v95 → sg_F [143, 94088] σ89 σ96 → I98 n108 v95 σ96 → (((v_rowAt σ2 (a2) (v15)) ≤ v95 → P71 σ96) ∧ (v95 < (v_rowAt σ2 (a2) (v15)) → (0 ≤ v95 ∧ v95 < 210) ∧ sg_R (v13 + (sg_g σ89 135 (v95))) ∧ V_list σ96 ((v13 + (sg_g σ89 135 (v95)))) (fun σ114 => sg_F [143, 94088] σ96 σ114 → sg_R (v95 + 1) ∧ (∃ m, m < n108 ∧ I98 m ((v95 + 1)) σ114))))))) ∧ (q88 = 0 → V_lacks σ89 (v15) (6) (fun σ122 => sg_F [103088, 104088] σ89 σ122 → P71 σ122))))) ∧ ((sg_g σ 93 (a1)) = 25 → (∃ (I130 : Nat → Int → sg_S → Prop) (X132 : sg_S → Prop), (∃ n, I130 n (0) σ16) ∧ (∀ (n140 : Nat) (v127 : Int) (σ128 : sg_S), sg_R v127 → sg_F [143, 94088] σ16 σ128 → I130 n140 v127 σ128 → (((v_rowAt σ2 (a2) (v15)) ≤ v127 → X132 σ128) ∧ (v127 < (v_rowAt σ2 (a2) (v15)) → sg_R (v14 + v127) ∧ (0 ≤ (v14 + v127) ∧ (v14 + v127) < 60000) ∧ (∃ P147 : sg_S → Prop, (((sg_g σ 142 ((v14 + v127))) = 0 → P147 σ128) ∧ (¬ (sg_g σ 142 ((v14 + v127))) = 0 → sg_R (v13 + v127) ∧ V_list σ128 ((v13 + v127)) (fun σ155 => sg_F [143, 94088] σ128 σ155 → P147 σ155))) ∧ (∀ (σ148 : sg_S), sg_F [143, 94088] σ128 σ148 → P147 σ148 → sg_R (v127 + 1) ∧ (∃ m, m < n140 ∧ I130 m ((v127 + 1)) σ148)))))) ∧ (∀ (σ128 : sg_S), sg_F [143, 94088] σ16 σ128 → X132 σ128 → P71 σ128))))) ∧ (¬ (v_rowAt σ2 (a3) (v15)) = (v_rowAt σ2 (a2) (v15)) → V_lacks σ16 (v15) (3) (fun σ161 => sg_F [103088, 104088] σ16 σ161 → P71 σ161))) ∧ (∀ (σ72 : sg_S), sg_F [135, 143, 94088, 103088, 104088] σ16 σ72 → P71 σ72 → sg_R ((sg_g σ72 88 93) - (sg_g σ16 88 93)) ∧ (0 ≤ v15 ∧ v15 < 13000) ∧ ∀ σ77, σ77 = (sg_w σ72 150 (v15) (((sg_g σ72 88 93) - (sg_g σ16 88 93)))) → sg_R (v13 + (v_rowAt σ2 (a2) (v15))) ∧ p_rowAt σ2 (a3) (v15) ∧ sg_R (v14 + (v_rowAt σ2 (a3) (v15))) ∧ sg_R (v15 + 1) ∧ (∃ m, m < n30 ∧ I18 m ((v13 + (v_rowAt σ2 (a2) (v15)))) ((v14 + (v_rowAt σ2 (a3) (v15)))) ((v15 + 1)) σ77)))))) ∧ (∀ (σ16 : sg_S), sg_F [135, 143, 150, 94088, 103088, 104088] σ10 σ16 → X20 σ16 → V_extentOfLanes σ16 (q1) (fun q32 σ33 => sg_RL q32 → sg_F [144] σ16 σ33 → sg_RL (a4 + q32) ∧ V_stepped σ33 ((a4 + q32)) (fun q39 σ40 => (q39 = 0 ∨ q39 = 1) → sg_F [74088, 85088, 86088] σ33 σ40 → ((¬ q39 = 0 → V_gathered σ40 (q1) (fun q46 σ47 => sg_R q46 → sg_F [139, 140, 141, 142, 144, 88088, 92088] σ40 σ47 → V_putLens σ47 (a4) (fun q52 σ53 => sg_R q52 → sg_F [142, 92088] σ47 σ53 → V_outer σ53 (q52) (a4) (q46) (fun q58 σ59 => sg_R q58 → sg_F [139, 140, 141, 88088] σ53 σ59 → Q (q58) σ59)))) ∧ (q39 = 0 → Q (0) σ40)))))))
set_option maxHeartbeats 4000000 in
set_option maxRecDepth 8000 in
theorem w_flatChosen (z : Value) (σ : sg_S) (a1 : Int) (a2 : Int) (a3 : Int) (a4 : Int) (Q : Int → sg_S → Prop) (ra1 : sg_R a1) (ra2 : sg_R a2) (ra3 : sg_R a3) (ra4 : sg_R a4) (w : V_flatChosen σ a1 a2 a3 a4 Q) : wx z 3 234 0 [(0, .inr (.inr (.ref 88))), (1, .inl (a1)), (2, .inl (a2)), (3, .inl (a3)), (4, .inl (a4))] [] σ (fun v σ' => ∃ q, v = some (.inl q) ∧ sg_R q ∧ sg_F [135, 139, 140, 141, 142, 143, 144, 150, 74088, 85088, 86088, 88088, 92088, 94088, 103088, 104088] σ σ' ∧ Q q σ') := by
  unfold V_flatChosen at w
  refine wk_b tt_234 2 (pc' := 2) (ls' := [(0, .inr (.inr (.ref 88))), (1, .inl (a1)), (2, .inl (a2)), (3, .inl (a3)), (4, .inl (a4))]) (st' := [.inl (a2), .inr (.inr (.ref 88))]) (σ' := σ) rfl ?_
  refine wk_call tt_234 rfl rfl rfl rfl rfl tt_259 rfl (by decide) (w_inner z σ (a2) _ ra2 w) (fun u6 σ2 hq4 => ?_)
  obtain ⟨q1, rfl, r5, hF3, w⟩ := hq4
  have w := w r5 hF3
  obtain ⟨c7, w⟩ := w
  obtain ⟨c8, w⟩ := w
  refine wk_b tt_234 10 (pc' := 19) (ls' := [(6, .inl (0)), (5, .inl (q1)), (0, .inr (.inr (.ref 88))), (1, .inl (a1)), (2, .inl (a2)), (3, .inl (a3)), (4, .inl (a4))]) (st' := [.inl (((4 * a3) + 1)), .inr (.inr (.ref 140))]) (σ' := σ2) rfl ?_
  obtain ⟨c9, w⟩ := w
  refine wk_ia tt_234 rfl rfl c9.1 c9.2 c8 ?_
  refine wk_b tt_234 4 (pc' := 27) (ls' := [(7, .inl ((sg_g σ2 140 (((4 * a3) + 1))))), (6, .inl (0)), (5, .inl (q1)), (0, .inr (.inr (.ref 88))), (1, .inl (a1)), (2, .inl (a2)), (3, .inl (a3)), (4, .inl (a4))]) (st' := []) (σ' := (sg_w σ2 88 93 (0))) rfl ?_
  generalize hs11 : (sg_w σ2 88 93 (0)) = σ10
  have w := w σ10 hs11.symm
  have hF12 : sg_F [94088] σ2 σ10 := by rw [← hs11]; exact sg_F_w (sg_F_r _ _) rfl _
  refine wk_b tt_234 2 (pc' := 30) (ls' := [(8, .inl (0)), (7, .inl ((sg_g σ2 140 (((4 * a3) + 1))))), (6, .inl (0)), (5, .inl (q1)), (0, .inr (.inr (.ref 88))), (1, .inl (a1)), (2, .inl (a2)), (3, .inl (a3)), (4, .inl (a4))]) (st' := []) (σ' := σ10) rfl ?_
  obtain ⟨I18, X20, ⟨μ19, w27⟩, w28, w29⟩ := w
  have ex31 : ∀ (σ16 : sg_S), sg_F [135, 143, 150, 94088, 103088, 104088] σ10 σ16 → X20 σ16 → wx z 3 234 218 [(0, .inr (.inr (.ref 88))), (4, .inl (a4)), (5, .inl (q1))] [] σ16 (fun v σ' => ∃ q, v = some (.inl q) ∧ sg_R q ∧ sg_F [135, 139, 140, 141, 142, 143, 144, 150, 74088, 85088, 86088, 88088, 92088, 94088, 103088, 104088] σ σ' ∧ Q q σ') := by
    intro σ16 hF17 w
    have w := w29 σ16 hF17 w
    refine wk_b tt_234 5 (pc' := 225) (ls' := [(0, .inr (.inr (.ref 88))), (4, .inl (a4)), (5, .inl (q1))]) (st' := [.inl (q1), .inr (.inr (.ref 88)), .inr (.inl ((sg_n (a4)))), .inr (.inr (.ref 88))]) (σ' := σ16) rfl ?_
    rw [show (sg_n (a4)) = a4 from by rw [sg_id ra4]]
    refine wk_call tt_234 rfl rfl rfl rfl rfl tt_227 rfl (by decide) (w_extentOfLanes z σ16 (q1) _ r5 w) (fun u37 σ33 hq35 => ?_)
    obtain ⟨q32, rfl, r36, hF34, w⟩ := hq35
    have w := w r36 hF34
    obtain ⟨c38, w⟩ := w
    refine wk_b tt_234 1 (pc' := 229) (ls' := [(0, .inr (.inr (.ref 88))), (4, .inl (a4)), (5, .inl (q1))]) (st' := [.inr (.inl ((a4 + q32))), .inr (.inr (.ref 88))]) (σ' := σ33) rfl ?_
    refine wk_call tt_234 rfl rfl rfl rfl rfl tt_329 rfl (by decide) (w_stepped z σ33 ((a4 + q32)) _ c38 w) (fun u44 σ40 hq42 => ?_)
    obtain ⟨q39, rfl, r43, hF41, w⟩ := hq42
    have w := w r43 hF41
    refine wk_if tt_234 (tgt := 237) rfl rfl (sg_Rz r43) (fun (h45 : ¬ q39 = 0) => ?_) (fun (h45 : q39 = 0) => ?_)
    ·
      have w := w.1 h45
      refine wk_b tt_234 2 (pc' := 240) (ls' := [(0, .inr (.inr (.ref 88))), (4, .inl (a4)), (5, .inl (q1))]) (st' := [.inl (q1), .inr (.inr (.ref 88))]) (σ' := σ40) rfl ?_
      refine wk_call tt_234 rfl rfl rfl rfl rfl tt_249 rfl (by decide) (w_gathered z σ40 (q1) _ r5 w) (fun u51 σ47 hq49 => ?_)
      obtain ⟨q46, rfl, r50, hF48, w⟩ := hq49
      have w := w r50 hF48
      refine wk_b tt_234 3 (pc' := 248) (ls' := [(8, .inl (q46)), (0, .inr (.inr (.ref 88))), (4, .inl (a4)), (5, .inl (q1))]) (st' := [.inl (a4), .inr (.inr (.ref 88))]) (σ' := σ47) rfl ?_
      refine wk_call tt_234 rfl rfl rfl rfl rfl tt_309 rfl (by decide) (w_putLens z σ47 (a4) _ ra4 w) (fun u57 σ53 hq55 => ?_)
      obtain ⟨q52, rfl, r56, hF54, w⟩ := hq55
      have w := w r56 hF54
      refine wk_b tt_234 5 (pc' := 260) (ls' := [(9, .inl (q52)), (8, .inl (q46)), (0, .inr (.inr (.ref 88))), (4, .inl (a4)), (5, .inl (q1))]) (st' := [.inl (q46), .inl (a4), .inl (q52), .inr (.inr (.ref 88))]) (σ' := σ53) rfl ?_
      refine wk_call tt_234 rfl rfl rfl rfl rfl tt_300 rfl (by decide) (w_outer z σ53 (q52) (a4) (q46) _ r56 ra4 r50 w) (fun u63 σ59 hq61 => ?_)
      obtain ⟨q58, rfl, r62, hF60, w⟩ := hq61
      have w := w r62 hF60
      exact wk_rI tt_234 rfl rfl ⟨_, rfl, r62, (sg_F_t (sg_F_t (sg_F_t (sg_F_t (sg_F_t (sg_F_t (sg_F_t (sg_F_t (sg_F_r [135, 139, 140, 141, 142, 143, 144, 150, 74088, 85088, 86088, 88088, 92088, 94088, 103088, 104088] σ) (sg_F_m (L := [135, 139, 140, 141, 142, 143, 144, 150, 74088, 85088, 86088, 88088, 92088, 94088, 103088, 104088]) hF3 rfl)) (sg_F_m (L := [135, 139, 140, 141, 142, 143, 144, 150, 74088, 85088, 86088, 88088, 92088, 94088, 103088, 104088]) hF12 rfl)) (sg_F_m (L := [135, 139, 140, 141, 142, 143, 144, 150, 74088, 85088, 86088, 88088, 92088, 94088, 103088, 104088]) hF17 rfl)) (sg_F_m (L := [135, 139, 140, 141, 142, 143, 144, 150, 74088, 85088, 86088, 88088, 92088, 94088, 103088, 104088]) hF34 rfl)) (sg_F_m (L := [135, 139, 140, 141, 142, 143, 144, 150, 74088, 85088, 86088, 88088, 92088, 94088, 103088, 104088]) hF41 rfl)) (sg_F_m (L := [135, 139, 140, 141, 142, 143, 144, 150, 74088, 85088, 86088, 88088, 92088, 94088, 103088, 104088]) hF48 rfl)) (sg_F_m (L := [135, 139, 140, 141, 142, 143, 144, 150, 74088, 85088, 86088, 88088, 92088, 94088, 103088, 104088]) hF54 rfl)) (sg_F_m (L := [135, 139, 140, 141, 142, 143, 144, 150, 74088, 85088, 86088, 88088, 92088, 94088, 103088, 104088]) hF60 rfl)), w⟩
    ·
      have w := w.2 h45
      refine wk_b tt_234 1 (pc' := 236) (ls' := [(0, .inr (.inr (.ref 88))), (4, .inl (a4)), (5, .inl (q1))]) (st' := [.inl (0)]) (σ' := σ40) rfl ?_
      exact wk_rI tt_234 rfl rfl ⟨_, rfl, (by decide), (sg_F_t (sg_F_t (sg_F_t (sg_F_t (sg_F_t (sg_F_r [135, 139, 140, 141, 142, 143, 144, 150, 74088, 85088, 86088, 88088, 92088, 94088, 103088, 104088] σ) (sg_F_m (L := [135, 139, 140, 141, 142, 143, 144, 150, 74088, 85088, 86088, 88088, 92088, 94088, 103088, 104088]) hF3 rfl)) (sg_F_m (L := [135, 139, 140, 141, 142, 143, 144, 150, 74088, 85088, 86088, 88088, 92088, 94088, 103088, 104088]) hF12 rfl)) (sg_F_m (L := [135, 139, 140, 141, 142, 143, 144, 150, 74088, 85088, 86088, 88088, 92088, 94088, 103088, 104088]) hF17 rfl)) (sg_F_m (L := [135, 139, 140, 141, 142, 143, 144, 150, 74088, 85088, 86088, 88088, 92088, 94088, 103088, 104088]) hF34 rfl)) (sg_F_m (L := [135, 139, 140, 141, 142, 143, 144, 150, 74088, 85088, 86088, 88088, 92088, 94088, 103088, 104088]) hF41 rfl)), w⟩
  have lp26 : ∀ (n30 : Nat) (v13 : Int) (v14 : Int) (v15 : Int) (σ16 : sg_S), sg_R v13 → sg_R v14 → sg_R v15 → sg_F [135, 143, 150, 94088, 103088, 104088] σ10 σ16 → I18 n30 v13 v14 v15 σ16 → wx z 3 234 30 [(0, .inr (.inr (.ref 88))), (1, .inl (a1)), (2, .inl (a2)), (3, .inl (a3)), (4, .inl (a4)), (5, .inl (q1)), (6, .inl (v13)), (7, .inl (v14)), (8, .inl (v15))] [] σ16 (fun v σ' => ∃ q, v = some (.inl q) ∧ sg_R q ∧ sg_F [135, 139, 140, 141, 142, 143, 144, 150, 74088, 85088, 86088, 88088, 92088, 94088, 103088, 104088] σ σ' ∧ Q q σ') := by
    intro n30
    induction n30 using Nat.strongRecOn with
    | _ n30 ih24 =>
      intro v13 v14 v15 σ16 r21 r22 r23 hF17 w
      have w := w28 n30 v13 v14 v15 σ16 r21 r22 r23 hF17 w
      refine wk_b tt_234 2 (pc' := 34) (ls' := [(0, .inr (.inr (.ref 88))), (1, .inl (a1)), (2, .inl (a2)), (3, .inl (a3)), (4, .inl (a4)), (5, .inl (q1)), (6, .inl (v13)), (7, .inl (v14)), (8, .inl (v15))]) (st' := [.inl (a4), .inl (v15)]) (σ' := σ16) rfl ?_
      refine wk_if2 tt_234 (tgt := 218) rfl rfl r23 ra4 (fun (h64 : a4 ≤ v15) => ?_) (fun (h64 : v15 < a4) => ?_)
      ·
        have w := w.1 h64
        exact wk_ls [(0, .inr (.inr (.ref 88))), (4, .inl (a4)), (5, .inl (q1))] rfl ⟨rfl, rfl, rfl, trivial⟩ (ex31  σ16  (sg_F_t (sg_F_r [135, 143, 150, 94088, 103088, 104088] σ10) (sg_F_m (L := [135, 143, 150, 94088, 103088, 104088]) hF17 rfl)) w)
      ·
        have w := w.2 h64
        refine wk_b tt_234 3 (pc' := 41) (ls' := [(0, .inr (.inr (.ref 88))), (1, .inl (a1)), (2, .inl (a2)), (3, .inl (a3)), (4, .inl (a4)), (5, .inl (q1)), (6, .inl (v13)), (7, .inl (v14)), (8, .inl (v15))]) (st' := [.inl (v15), .inl (a2), .inr (.inr (.ref 88))]) (σ' := σ16) rfl ?_
        obtain ⟨c65, w⟩ := w
        have c65 : p_rowAt σ16 (a2) (v15) := by
          rw [pF_rowAt hF17 rfl rfl, pF_rowAt hF12 rfl rfl]; exact c65
        refine wk_callp tt_234 rfl rfl rfl rfl rfl tt_322 rfl (by decide) (w_rowAt z σ16 (a2) (v15) ra2 r23 c65) ?_
        rw [vF_rowAt hF17 rfl rfl, vF_rowAt hF12 rfl rfl]
        have r66 := vr_rowAt σ2  (a2) (v15) ra2 r23 (by have q := c65; rw [pF_rowAt hF17 rfl rfl, pF_rowAt hF12 rfl rfl] at q; exact q)
        refine wk_b tt_234 7 (pc' := 56) (ls' := [(10, .inl ((sg_g σ16 88 93))), (9, .inl ((v_rowAt σ2 (a2) (v15)))), (0, .inr (.inr (.ref 88))), (1, .inl (a1)), (2, .inl (a2)), (3, .inl (a3)), (4, .inl (a4)), (5, .inl (q1)), (6, .inl (v13)), (7, .inl (v14)), (8, .inl (v15))]) (st' := [.inl (v15), .inl (a3), .inr (.inr (.ref 88))]) (σ' := σ16) rfl ?_
        obtain ⟨c67, w⟩ := w
        have c67 : p_rowAt σ16 (a3) (v15) := by
          rw [pF_rowAt hF17 rfl rfl, pF_rowAt hF12 rfl rfl]; exact c67
        refine wk_callp tt_234 rfl rfl rfl rfl rfl tt_322 rfl (by decide) (w_rowAt z σ16 (a3) (v15) ra3 r23 c67) ?_
        rw [vF_rowAt hF17 rfl rfl, vF_rowAt hF12 rfl rfl]
        have r68 := vr_rowAt σ2  (a3) (v15) ra3 r23 (by have q := c67; rw [pF_rowAt hF17 rfl rfl, pF_rowAt hF12 rfl rfl] at q; exact q)
        refine wk_b tt_234 1 (pc' := 61) (ls' := [(10, .inl ((sg_g σ16 88 93))), (9, .inl ((v_rowAt σ2 (a2) (v15)))), (0, .inr (.inr (.ref 88))), (1, .inl (a1)), (2, .inl (a2)), (3, .inl (a3)), (4, .inl (a4)), (5, .inl (q1)), (6, .inl (v13)), (7, .inl (v14)), (8, .inl (v15))]) (st' := [.inl ((v_rowAt σ2 (a2) (v15))), .inl ((v_rowAt σ2 (a3) (v15)))]) (σ' := σ16) rfl ?_
        obtain ⟨P71, w, w74⟩ := w
        have jn70 : ∀ (σ72 : sg_S), sg_F [135, 143, 94088, 103088, 104088] σ16 σ72 → P71 σ72 → wx z 3 234 179 [(0, .inr (.inr (.ref 88))), (1, .inl (a1)), (2, .inl (a2)), (3, .inl (a3)), (4, .inl (a4)), (5, .inl (q1)), (6, .inl (v13)), (7, .inl (v14)), (8, .inl (v15)), (9, .inl ((v_rowAt σ2 (a2) (v15)))), (10, .inl ((sg_g σ16 88 93)))] [] σ72 (fun v σ' => ∃ q, v = some (.inl q) ∧ sg_R q ∧ sg_F [135, 139, 140, 141, 142, 143, 144, 150, 74088, 85088, 86088, 88088, 92088, 94088, 103088, 104088] σ σ' ∧ Q q σ') := by
          intro σ72 hF73 w
          have w := w74 σ72 hF73 w
          obtain ⟨c75, w⟩ := w
          refine wk_b tt_234 7 (pc' := 192) (ls' := [(0, .inr (.inr (.ref 88))), (1, .inl (a1)), (2, .inl (a2)), (3, .inl (a3)), (4, .inl (a4)), (5, .inl (q1)), (6, .inl (v13)), (7, .inl (v14)), (8, .inl (v15)), (9, .inl ((v_rowAt σ2 (a2) (v15)))), (10, .inl ((sg_g σ16 88 93)))]) (st' := [.inl (((sg_g σ72 88 93) - (sg_g σ16 88 93))), .inl (v15), .inr (.inr (.ref 150))]) (σ' := σ72) rfl ?_
          obtain ⟨c76, w⟩ := w
          refine wk_is tt_234 rfl rfl c76.1 c76.2 r23 ?_
          generalize hs78 : (sg_w σ72 150 (v15) (((sg_g σ72 88 93) - (sg_g σ16 88 93)))) = σ77
          have w := w σ77 hs78.symm
          have hF79 : sg_F [150] σ72 σ77 := by rw [← hs78]; exact sg_F_w (sg_F_r _ _) rfl _
          obtain ⟨c80, w⟩ := w
          refine wk_b tt_234 8 (pc' := 206) (ls' := [(6, .inl ((v13 + (v_rowAt σ2 (a2) (v15))))), (0, .inr (.inr (.ref 88))), (1, .inl (a1)), (2, .inl (a2)), (3, .inl (a3)), (4, .inl (a4)), (5, .inl (q1)), (7, .inl (v14)), (8, .inl (v15)), (9, .inl ((v_rowAt σ2 (a2) (v15)))), (10, .inl ((sg_g σ16 88 93)))]) (st' := [.inl (v15), .inl (a3), .inr (.inr (.ref 88)), .inl (v14)]) (σ' := σ77) rfl ?_
          obtain ⟨c81, w⟩ := w
          have c81 : p_rowAt σ77 (a3) (v15) := by
            rw [pF_rowAt hF79 rfl rfl, pF_rowAt hF73 rfl rfl, pF_rowAt hF17 rfl rfl, pF_rowAt hF12 rfl rfl]; exact c81
          refine wk_callp tt_234 rfl rfl rfl rfl rfl tt_322 rfl (by decide) (w_rowAt z σ77 (a3) (v15) ra3 r23 c81) ?_
          rw [vF_rowAt hF79 rfl rfl, vF_rowAt hF73 rfl rfl, vF_rowAt hF17 rfl rfl, vF_rowAt hF12 rfl rfl]
          have r82 := vr_rowAt σ2  (a3) (v15) ra3 r23 (by have q := c81; rw [pF_rowAt hF79 rfl rfl, pF_rowAt hF73 rfl rfl, pF_rowAt hF17 rfl rfl, pF_rowAt hF12 rfl rfl] at q; exact q)
          obtain ⟨c83, w⟩ := w
          obtain ⟨c84, w⟩ := w
          refine wk_b tt_234 4 (pc' := 30) (ls' := [(8, .inl ((v15 + 1))), (7, .inl ((v14 + (v_rowAt σ2 (a3) (v15))))), (6, .inl ((v13 + (v_rowAt σ2 (a2) (v15))))), (0, .inr (.inr (.ref 88))), (1, .inl (a1)), (2, .inl (a2)), (3, .inl (a3)), (4, .inl (a4)), (5, .inl (q1)), (9, .inl ((v_rowAt σ2 (a2) (v15)))), (10, .inl ((sg_g σ16 88 93)))]) (st' := []) (σ' := σ77) rfl ?_
          obtain ⟨m85, hm85, w⟩ := w
          exact wk_ls [(0, .inr (.inr (.ref 88))), (1, .inl (a1)), (2, .inl (a2)), (3, .inl (a3)), (4, .inl (a4)), (5, .inl (q1)), (6, .inl ((v13 + (v_rowAt σ2 (a2) (v15))))), (7, .inl ((v14 + (v_rowAt σ2 (a3) (v15))))), (8, .inl ((v15 + 1)))] rfl ⟨rfl, rfl, rfl, rfl, rfl, rfl, rfl, rfl, rfl, trivial⟩ (ih24 m85 hm85 ((v13 + (v_rowAt σ2 (a2) (v15)))) ((v14 + (v_rowAt σ2 (a3) (v15)))) ((v15 + 1)) σ77 c80 c83 c84 (sg_F_t (sg_F_t (sg_F_t (sg_F_r [135, 143, 150, 94088, 103088, 104088] σ10) (sg_F_m (L := [135, 143, 150, 94088, 103088, 104088]) hF17 rfl)) (sg_F_m (L := [135, 143, 150, 94088, 103088, 104088]) hF73 rfl)) (sg_F_m (L := [135, 143, 150, 94088, 103088, 104088]) hF79 rfl)) w)
        refine wk_if2 tt_234 (tgt := 74) rfl rfl r68 r66 (fun (h69 : (v_rowAt σ2 (a3) (v15)) = (v_rowAt σ2 (a2) (v15))) => ?_) (fun (h69 : ¬ (v_rowAt σ2 (a3) (v15)) = (v_rowAt σ2 (a2) (v15))) => ?_)
        ·
          have w := w.1 h69
          refine wk_b tt_234 3 (pc' := 79) (ls' := [(10, .inl ((sg_g σ16 88 93))), (9, .inl ((v_rowAt σ2 (a2) (v15)))), (0, .inr (.inr (.ref 88))), (1, .inl (a1)), (2, .inl (a2)), (3, .inl (a3)), (4, .inl (a4)), (5, .inl (q1)), (6, .inl (v13)), (7, .inl (v14)), (8, .inl (v15))]) (st' := [.inl (a1), .inr (.inr (.ref 93))]) (σ' := σ16) rfl ?_
          obtain ⟨c86, w⟩ := w
          refine wk_ia tt_234 rfl rfl c86.1 c86.2 ra1 ?_
          rw [show (sg_g σ16 93 (a1)) = (sg_g σ 93 (a1)) from by rw [sg_F_ga hF17 rfl, sg_F_ga hF12 rfl, sg_F_ga hF3 rfl]]
          refine wk_b tt_234 1 (pc' := 82) (ls' := [(10, .inl ((sg_g σ16 88 93))), (9, .inl ((v_rowAt σ2 (a2) (v15)))), (0, .inr (.inr (.ref 88))), (1, .inl (a1)), (2, .inl (a2)), (3, .inl (a3)), (4, .inl (a4)), (5, .inl (q1)), (6, .inl (v13)), (7, .inl (v14)), (8, .inl (v15))]) (st' := [.inl (25), .inl ((sg_g σ 93 (a1)))]) (σ' := σ16) rfl ?_
          refine wk_if2 tt_234 (tgt := 126) rfl rfl (sg_Rg _ _ _) (by decide) (fun (h87 : ¬ (sg_g σ 93 (a1)) = 25) => ?_) (fun (h87 : (sg_g σ 93 (a1)) = 25) => ?_)
          ·
            have w := w.1 h87
            refine wk_b tt_234 4 (pc' := 132) (ls' := [(10, .inl ((sg_g σ16 88 93))), (9, .inl ((v_rowAt σ2 (a2) (v15)))), (0, .inr (.inr (.ref 88))), (1, .inl (a1)), (2, .inl (a2)), (3, .inl (a3)), (4, .inl (a4)), (5, .inl (q1)), (6, .inl (v13)), (7, .inl (v14)), (8, .inl (v15))]) (st' := [.inl (0), .inl ((v_rowAt σ2 (a2) (v15))), .inl (v14), .inr (.inr (.ref 88))]) (σ' := σ16) rfl ?_
            refine wk_call tt_234 rfl rfl rfl rfl rfl tt_265 rfl (by decide) (w_isOrder z σ16 (v14) ((v_rowAt σ2 (a2) (v15))) (0) _ r22 r66 (by decide) w) (fun u93 σ89 hq91 => ?_)
            obtain ⟨q88, rfl, r92, hF90, w⟩ := hq91
            have w := w r92 hF90
            refine wk_if tt_234 (tgt := 149) rfl rfl (sg_Rz r92) (fun (h94 : ¬ q88 = 0) => ?_) (fun (h94 : q88 = 0) => ?_)
            ·
              have w := w.1 h94
              refine wk_b tt_234 2 (pc' := 152) (ls' := [(11, .inl (0)), (10, .inl ((sg_g σ16 88 93))), (9, .inl ((v_rowAt σ2 (a2) (v15)))), (0, .inr (.inr (.ref 88))), (1, .inl (a1)), (2, .inl (a2)), (3, .inl (a3)), (4, .inl (a4)), (5, .inl (q1)), (6, .inl (v13)), (7, .inl (v14)), (8, .inl (v15))]) (st' := []) (σ' := σ89) rfl ?_
              obtain ⟨I98, ⟨μ99, w105⟩, w106⟩ := w
              have lp104 : ∀ (n108 : Nat) (v95 : Int) (σ96 : sg_S), sg_R v95 → sg_F [143, 94088] σ89 σ96 → I98 n108 v95 σ96 → wx z 3 234 152 [(0, .inr (.inr (.ref 88))), (1, .inl (a1)), (2, .inl (a2)), (3, .inl (a3)), (4, .inl (a4)), (5, .inl (q1)), (6, .inl (v13)), (7, .inl (v14)), (8, .inl (v15)), (9, .inl ((v_rowAt σ2 (a2) (v15)))), (10, .inl ((sg_g σ16 88 93))), (11, .inl (v95))] [] σ96 (fun v σ' => ∃ q, v = some (.inl q) ∧ sg_R q ∧ sg_F [135, 139, 140, 141, 142, 143, 144, 150, 74088, 85088, 86088, 88088, 92088, 94088, 103088, 104088] σ σ' ∧ Q q σ') := by
                intro n108
                induction n108 using Nat.strongRecOn with
                | _ n108 ih102 =>
                  intro v95 σ96 r101 hF97 w
                  have w := w106 n108 v95 σ96 r101 hF97 w
                  refine wk_b tt_234 2 (pc' := 156) (ls' := [(0, .inr (.inr (.ref 88))), (1, .inl (a1)), (2, .inl (a2)), (3, .inl (a3)), (4, .inl (a4)), (5, .inl (q1)), (6, .inl (v13)), (7, .inl (v14)), (8, .inl (v15)), (9, .inl ((v_rowAt σ2 (a2) (v15)))), (10, .inl ((sg_g σ16 88 93))), (11, .inl (v95))]) (st' := [.inl ((v_rowAt σ2 (a2) (v15))), .inl (v95)]) (σ' := σ96) rfl ?_
                  refine wk_if2 tt_234 (tgt := 179) rfl rfl r101 r66 (fun (h110 : (v_rowAt σ2 (a2) (v15)) ≤ v95) => ?_) (fun (h110 : v95 < (v_rowAt σ2 (a2) (v15))) => ?_)
                  ·
                    have w := w.1 h110
                    exact wk_ls [(0, .inr (.inr (.ref 88))), (1, .inl (a1)), (2, .inl (a2)), (3, .inl (a3)), (4, .inl (a4)), (5, .inl (q1)), (6, .inl (v13)), (7, .inl (v14)), (8, .inl (v15)), (9, .inl ((v_rowAt σ2 (a2) (v15)))), (10, .inl ((sg_g σ16 88 93)))] rfl ⟨rfl, rfl, rfl, rfl, rfl, rfl, rfl, rfl, rfl, rfl, rfl, trivial⟩ (jn70 σ96 (sg_F_t (sg_F_t (sg_F_r [135, 143, 94088, 103088, 104088] σ16) (sg_F_m (L := [135, 143, 94088, 103088, 104088]) hF90 rfl)) (sg_F_m (L := [135, 143, 94088, 103088, 104088]) hF97 rfl)) w)
                  ·
                    have w := w.2 h110
                    refine wk_b tt_234 5 (pc' := 168) (ls' := [(0, .inr (.inr (.ref 88))), (1, .inl (a1)), (2, .inl (a2)), (3, .inl (a3)), (4, .inl (a4)), (5, .inl (q1)), (6, .inl (v13)), (7, .inl (v14)), (8, .inl (v15)), (9, .inl ((v_rowAt σ2 (a2) (v15)))), (10, .inl ((sg_g σ16 88 93))), (11, .inl (v95))]) (st' := [.inl (v95), .inr (.inr (.ref 135)), .inl (v13), .inr (.inr (.ref 88))]) (σ' := σ96) rfl ?_
                    obtain ⟨c111, w⟩ := w
                    refine wk_ia tt_234 rfl rfl c111.1 c111.2 r101 ?_
                    rw [show (sg_g σ96 135 (v95)) = (sg_g σ89 135 (v95)) from by rw [sg_F_ga hF97 rfl]]
                    obtain ⟨c112, w⟩ := w
                    refine wk_b tt_234 1 (pc' := 170) (ls' := [(0, .inr (.inr (.ref 88))), (1, .inl (a1)), (2, .inl (a2)), (3, .inl (a3)), (4, .inl (a4)), (5, .inl (q1)), (6, .inl (v13)), (7, .inl (v14)), (8, .inl (v15)), (9, .inl ((v_rowAt σ2 (a2) (v15)))), (10, .inl ((sg_g σ16 88 93))), (11, .inl (v95))]) (st' := [.inl ((v13 + (sg_g σ89 135 (v95)))), .inr (.inr (.ref 88))]) (σ' := σ96) rfl ?_
                    refine wk_call tt_234 rfl rfl rfl rfl rfl tt_280 rfl (by decide) (w_list z σ96 ((v13 + (sg_g σ89 135 (v95)))) _ c112 w) (fun u118 σ114 hq116 => ?_)
                    obtain ⟨rfl, hF115, w⟩ := hq116
                    have w := w hF115
                    obtain ⟨c119, w⟩ := w
                    refine wk_b tt_234 2 (pc' := 152) (ls' := [(11, .inl ((v95 + 1))), (0, .inr (.inr (.ref 88))), (1, .inl (a1)), (2, .inl (a2)), (3, .inl (a3)), (4, .inl (a4)), (5, .inl (q1)), (6, .inl (v13)), (7, .inl (v14)), (8, .inl (v15)), (9, .inl ((v_rowAt σ2 (a2) (v15)))), (10, .inl ((sg_g σ16 88 93)))]) (st' := []) (σ' := σ114) rfl ?_
                    obtain ⟨m120, hm120, w⟩ := w
                    exact wk_ls [(0, .inr (.inr (.ref 88))), (1, .inl (a1)), (2, .inl (a2)), (3, .inl (a3)), (4, .inl (a4)), (5, .inl (q1)), (6, .inl (v13)), (7, .inl (v14)), (8, .inl (v15)), (9, .inl ((v_rowAt σ2 (a2) (v15)))), (10, .inl ((sg_g σ16 88 93))), (11, .inl ((v95 + 1)))] rfl ⟨rfl, rfl, rfl, rfl, rfl, rfl, rfl, rfl, rfl, rfl, rfl, rfl, trivial⟩ (ih102 m120 hm120 ((v95 + 1)) σ114 c119 (sg_F_t (sg_F_t (sg_F_r [143, 94088] σ89) (sg_F_m (L := [143, 94088]) hF97 rfl)) (sg_F_m (L := [143, 94088]) hF115 rfl)) w)
              exact wk_ls [(0, .inr (.inr (.ref 88))), (1, .inl (a1)), (2, .inl (a2)), (3, .inl (a3)), (4, .inl (a4)), (5, .inl (q1)), (6, .inl (v13)), (7, .inl (v14)), (8, .inl (v15)), (9, .inl ((v_rowAt σ2 (a2) (v15)))), (10, .inl ((sg_g σ16 88 93))), (11, .inl (0))] rfl ⟨rfl, rfl, rfl, rfl, rfl, rfl, rfl, rfl, rfl, rfl, rfl, rfl, trivial⟩ (lp104 μ99 (0) σ89 (by decide) (sg_F_r _ _) w105)
            ·
              have w := w.2 h94
              refine wk_b tt_234 3 (pc' := 143) (ls' := [(10, .inl ((sg_g σ16 88 93))), (9, .inl ((v_rowAt σ2 (a2) (v15)))), (0, .inr (.inr (.ref 88))), (1, .inl (a1)), (2, .inl (a2)), (3, .inl (a3)), (4, .inl (a4)), (5, .inl (q1)), (6, .inl (v13)), (7, .inl (v14)), (8, .inl (v15))]) (st' := [.inl (6), .inl (v15), .inr (.inr (.ref 88))]) (σ' := σ89) rfl ?_
              refine wk_call tt_234 rfl rfl rfl rfl rfl tt_276 rfl (by decide) (w_lacks z σ89 (v15) (6) _ r23 (by decide) w) (fun u126 σ122 hq124 => ?_)
              obtain ⟨rfl, hF123, w⟩ := hq124
              have w := w hF123
              refine wk_b tt_234 1 (pc' := 179) (ls' := [(10, .inl ((sg_g σ16 88 93))), (9, .inl ((v_rowAt σ2 (a2) (v15)))), (0, .inr (.inr (.ref 88))), (1, .inl (a1)), (2, .inl (a2)), (3, .inl (a3)), (4, .inl (a4)), (5, .inl (q1)), (6, .inl (v13)), (7, .inl (v14)), (8, .inl (v15))]) (st' := []) (σ' := σ122) rfl ?_
              exact wk_ls [(0, .inr (.inr (.ref 88))), (1, .inl (a1)), (2, .inl (a2)), (3, .inl (a3)), (4, .inl (a4)), (5, .inl (q1)), (6, .inl (v13)), (7, .inl (v14)), (8, .inl (v15)), (9, .inl ((v_rowAt σ2 (a2) (v15)))), (10, .inl ((sg_g σ16 88 93)))] rfl ⟨rfl, rfl, rfl, rfl, rfl, rfl, rfl, rfl, rfl, rfl, rfl, trivial⟩ (jn70 σ122 (sg_F_t (sg_F_t (sg_F_r [135, 143, 94088, 103088, 104088] σ16) (sg_F_m (L := [135, 143, 94088, 103088, 104088]) hF90 rfl)) (sg_F_m (L := [135, 143, 94088, 103088, 104088]) hF123 rfl)) w)
          ·
            have w := w.2 h87
            refine wk_b tt_234 2 (pc' := 88) (ls' := [(11, .inl (0)), (10, .inl ((sg_g σ16 88 93))), (9, .inl ((v_rowAt σ2 (a2) (v15)))), (0, .inr (.inr (.ref 88))), (1, .inl (a1)), (2, .inl (a2)), (3, .inl (a3)), (4, .inl (a4)), (5, .inl (q1)), (6, .inl (v13)), (7, .inl (v14)), (8, .inl (v15))]) (st' := []) (σ' := σ16) rfl ?_
            obtain ⟨I130, X132, ⟨μ131, w137⟩, w138, w139⟩ := w
            have ex141 : ∀ (σ128 : sg_S), sg_F [143, 94088] σ16 σ128 → X132 σ128 → wx z 3 234 123 [(0, .inr (.inr (.ref 88))), (1, .inl (a1)), (2, .inl (a2)), (3, .inl (a3)), (4, .inl (a4)), (5, .inl (q1)), (6, .inl (v13)), (7, .inl (v14)), (8, .inl (v15)), (9, .inl ((v_rowAt σ2 (a2) (v15)))), (10, .inl ((sg_g σ16 88 93)))] [] σ128 (fun v σ' => ∃ q, v = some (.inl q) ∧ sg_R q ∧ sg_F [135, 139, 140, 141, 142, 143, 144, 150, 74088, 85088, 86088, 88088, 92088, 94088, 103088, 104088] σ σ' ∧ Q q σ') := by
              intro σ128 hF129 w
              have w := w139 σ128 hF129 w
              refine wk_b tt_234 1 (pc' := 179) (ls' := [(0, .inr (.inr (.ref 88))), (1, .inl (a1)), (2, .inl (a2)), (3, .inl (a3)), (4, .inl (a4)), (5, .inl (q1)), (6, .inl (v13)), (7, .inl (v14)), (8, .inl (v15)), (9, .inl ((v_rowAt σ2 (a2) (v15)))), (10, .inl ((sg_g σ16 88 93)))]) (st' := []) (σ' := σ128) rfl ?_
              exact wk_ls [(0, .inr (.inr (.ref 88))), (1, .inl (a1)), (2, .inl (a2)), (3, .inl (a3)), (4, .inl (a4)), (5, .inl (q1)), (6, .inl (v13)), (7, .inl (v14)), (8, .inl (v15)), (9, .inl ((v_rowAt σ2 (a2) (v15)))), (10, .inl ((sg_g σ16 88 93)))] rfl ⟨rfl, rfl, rfl, rfl, rfl, rfl, rfl, rfl, rfl, rfl, rfl, trivial⟩ (jn70 σ128 (sg_F_t (sg_F_r [135, 143, 94088, 103088, 104088] σ16) (sg_F_m (L := [135, 143, 94088, 103088, 104088]) hF129 rfl)) w)
            have lp136 : ∀ (n140 : Nat) (v127 : Int) (σ128 : sg_S), sg_R v127 → sg_F [143, 94088] σ16 σ128 → I130 n140 v127 σ128 → wx z 3 234 88 [(0, .inr (.inr (.ref 88))), (1, .inl (a1)), (2, .inl (a2)), (3, .inl (a3)), (4, .inl (a4)), (5, .inl (q1)), (6, .inl (v13)), (7, .inl (v14)), (8, .inl (v15)), (9, .inl ((v_rowAt σ2 (a2) (v15)))), (10, .inl ((sg_g σ16 88 93))), (11, .inl (v127))] [] σ128 (fun v σ' => ∃ q, v = some (.inl q) ∧ sg_R q ∧ sg_F [135, 139, 140, 141, 142, 143, 144, 150, 74088, 85088, 86088, 88088, 92088, 94088, 103088, 104088] σ σ' ∧ Q q σ') := by
              intro n140
              induction n140 using Nat.strongRecOn with
              | _ n140 ih134 =>
                intro v127 σ128 r133 hF129 w
                have w := w138 n140 v127 σ128 r133 hF129 w
                refine wk_b tt_234 2 (pc' := 92) (ls' := [(0, .inr (.inr (.ref 88))), (1, .inl (a1)), (2, .inl (a2)), (3, .inl (a3)), (4, .inl (a4)), (5, .inl (q1)), (6, .inl (v13)), (7, .inl (v14)), (8, .inl (v15)), (9, .inl ((v_rowAt σ2 (a2) (v15)))), (10, .inl ((sg_g σ16 88 93))), (11, .inl (v127))]) (st' := [.inl ((v_rowAt σ2 (a2) (v15))), .inl (v127)]) (σ' := σ128) rfl ?_
                refine wk_if2 tt_234 (tgt := 123) rfl rfl r133 r66 (fun (h142 : (v_rowAt σ2 (a2) (v15)) ≤ v127) => ?_) (fun (h142 : v127 < (v_rowAt σ2 (a2) (v15))) => ?_)
                ·
                  have w := w.1 h142
                  exact wk_ls [(0, .inr (.inr (.ref 88))), (1, .inl (a1)), (2, .inl (a2)), (3, .inl (a3)), (4, .inl (a4)), (5, .inl (q1)), (6, .inl (v13)), (7, .inl (v14)), (8, .inl (v15)), (9, .inl ((v_rowAt σ2 (a2) (v15)))), (10, .inl ((sg_g σ16 88 93)))] rfl ⟨rfl, rfl, rfl, rfl, rfl, rfl, rfl, rfl, rfl, rfl, rfl, trivial⟩ (ex141  σ128  (sg_F_t (sg_F_r [143, 94088] σ16) (sg_F_m (L := [143, 94088]) hF129 rfl)) w)
                ·
                  have w := w.2 h142
                  obtain ⟨c143, w⟩ := w
                  refine wk_b tt_234 5 (pc' := 104) (ls' := [(0, .inr (.inr (.ref 88))), (1, .inl (a1)), (2, .inl (a2)), (3, .inl (a3)), (4, .inl (a4)), (5, .inl (q1)), (6, .inl (v13)), (7, .inl (v14)), (8, .inl (v15)), (9, .inl ((v_rowAt σ2 (a2) (v15)))), (10, .inl ((sg_g σ16 88 93))), (11, .inl (v127))]) (st' := [.inl ((v14 + v127)), .inr (.inr (.ref 142))]) (σ' := σ128) rfl ?_
                  obtain ⟨c144, w⟩ := w
                  refine wk_ia tt_234 rfl rfl c144.1 c144.2 c143 ?_
                  rw [show (sg_g σ128 142 ((v14 + v127))) = (sg_g σ 142 ((v14 + v127))) from by rw [sg_F_ga hF129 rfl, sg_F_ga hF17 rfl, sg_F_ga hF12 rfl, sg_F_ga hF3 rfl]]
                  obtain ⟨P147, w, w150⟩ := w
                  have jn146 : ∀ (σ148 : sg_S), sg_F [143, 94088] σ128 σ148 → P147 σ148 → wx z 3 234 117 [(0, .inr (.inr (.ref 88))), (1, .inl (a1)), (2, .inl (a2)), (3, .inl (a3)), (4, .inl (a4)), (5, .inl (q1)), (6, .inl (v13)), (7, .inl (v14)), (8, .inl (v15)), (9, .inl ((v_rowAt σ2 (a2) (v15)))), (10, .inl ((sg_g σ16 88 93))), (11, .inl (v127))] [] σ148 (fun v σ' => ∃ q, v = some (.inl q) ∧ sg_R q ∧ sg_F [135, 139, 140, 141, 142, 143, 144, 150, 74088, 85088, 86088, 88088, 92088, 94088, 103088, 104088] σ σ' ∧ Q q σ') := by
                    intro σ148 hF149 w
                    have w := w150 σ148 hF149 w
                    obtain ⟨c151, w⟩ := w
                    refine wk_b tt_234 2 (pc' := 88) (ls' := [(11, .inl ((v127 + 1))), (0, .inr (.inr (.ref 88))), (1, .inl (a1)), (2, .inl (a2)), (3, .inl (a3)), (4, .inl (a4)), (5, .inl (q1)), (6, .inl (v13)), (7, .inl (v14)), (8, .inl (v15)), (9, .inl ((v_rowAt σ2 (a2) (v15)))), (10, .inl ((sg_g σ16 88 93)))]) (st' := []) (σ' := σ148) rfl ?_
                    obtain ⟨m152, hm152, w⟩ := w
                    exact wk_ls [(0, .inr (.inr (.ref 88))), (1, .inl (a1)), (2, .inl (a2)), (3, .inl (a3)), (4, .inl (a4)), (5, .inl (q1)), (6, .inl (v13)), (7, .inl (v14)), (8, .inl (v15)), (9, .inl ((v_rowAt σ2 (a2) (v15)))), (10, .inl ((sg_g σ16 88 93))), (11, .inl ((v127 + 1)))] rfl ⟨rfl, rfl, rfl, rfl, rfl, rfl, rfl, rfl, rfl, rfl, rfl, rfl, trivial⟩ (ih134 m152 hm152 ((v127 + 1)) σ148 c151 (sg_F_t (sg_F_t (sg_F_r [143, 94088] σ16) (sg_F_m (L := [143, 94088]) hF129 rfl)) (sg_F_m (L := [143, 94088]) hF149 rfl)) w)
                  refine wk_if tt_234 (tgt := 117) rfl rfl (sg_Rg _ _ _) (fun (h145 : (sg_g σ 142 ((v14 + v127))) = 0) => ?_) (fun (h145 : ¬ (sg_g σ 142 ((v14 + v127))) = 0) => ?_)
                  ·
                    have w := w.1 h145
                    exact wk_ls [(0, .inr (.inr (.ref 88))), (1, .inl (a1)), (2, .inl (a2)), (3, .inl (a3)), (4, .inl (a4)), (5, .inl (q1)), (6, .inl (v13)), (7, .inl (v14)), (8, .inl (v15)), (9, .inl ((v_rowAt σ2 (a2) (v15)))), (10, .inl ((sg_g σ16 88 93))), (11, .inl (v127))] rfl ⟨rfl, rfl, rfl, rfl, rfl, rfl, rfl, rfl, rfl, rfl, rfl, rfl, trivial⟩ (jn146 σ128 (sg_F_r [143, 94088] σ128) w)
                  ·
                    have w := w.2 h145
                    obtain ⟨c153, w⟩ := w
                    refine wk_b tt_234 4 (pc' := 114) (ls' := [(0, .inr (.inr (.ref 88))), (1, .inl (a1)), (2, .inl (a2)), (3, .inl (a3)), (4, .inl (a4)), (5, .inl (q1)), (6, .inl (v13)), (7, .inl (v14)), (8, .inl (v15)), (9, .inl ((v_rowAt σ2 (a2) (v15)))), (10, .inl ((sg_g σ16 88 93))), (11, .inl (v127))]) (st' := [.inl ((v13 + v127)), .inr (.inr (.ref 88))]) (σ' := σ128) rfl ?_
                    refine wk_call tt_234 rfl rfl rfl rfl rfl tt_280 rfl (by decide) (w_list z σ128 ((v13 + v127)) _ c153 w) (fun u159 σ155 hq157 => ?_)
                    obtain ⟨rfl, hF156, w⟩ := hq157
                    have w := w hF156
                    exact wk_ls [(0, .inr (.inr (.ref 88))), (1, .inl (a1)), (2, .inl (a2)), (3, .inl (a3)), (4, .inl (a4)), (5, .inl (q1)), (6, .inl (v13)), (7, .inl (v14)), (8, .inl (v15)), (9, .inl ((v_rowAt σ2 (a2) (v15)))), (10, .inl ((sg_g σ16 88 93))), (11, .inl (v127))] rfl ⟨rfl, rfl, rfl, rfl, rfl, rfl, rfl, rfl, rfl, rfl, rfl, rfl, trivial⟩ (jn146 σ155 (sg_F_t (sg_F_r [143, 94088] σ128) (sg_F_m (L := [143, 94088]) hF156 rfl)) w)
            exact wk_ls [(0, .inr (.inr (.ref 88))), (1, .inl (a1)), (2, .inl (a2)), (3, .inl (a3)), (4, .inl (a4)), (5, .inl (q1)), (6, .inl (v13)), (7, .inl (v14)), (8, .inl (v15)), (9, .inl ((v_rowAt σ2 (a2) (v15)))), (10, .inl ((sg_g σ16 88 93))), (11, .inl (0))] rfl ⟨rfl, rfl, rfl, rfl, rfl, rfl, rfl, rfl, rfl, rfl, rfl, rfl, trivial⟩ (lp136 μ131 (0) σ16 (by decide) (sg_F_r _ _) w137)
        ·
          have w := w.2 h69
          refine wk_b tt_234 3 (pc' := 68) (ls' := [(10, .inl ((sg_g σ16 88 93))), (9, .inl ((v_rowAt σ2 (a2) (v15)))), (0, .inr (.inr (.ref 88))), (1, .inl (a1)), (2, .inl (a2)), (3, .inl (a3)), (4, .inl (a4)), (5, .inl (q1)), (6, .inl (v13)), (7, .inl (v14)), (8, .inl (v15))]) (st' := [.inl (3), .inl (v15), .inr (.inr (.ref 88))]) (σ' := σ16) rfl ?_
          refine wk_call tt_234 rfl rfl rfl rfl rfl tt_276 rfl (by decide) (w_lacks z σ16 (v15) (3) _ r23 (by decide) w) (fun u165 σ161 hq163 => ?_)
          obtain ⟨rfl, hF162, w⟩ := hq163
          have w := w hF162
          refine wk_b tt_234 1 (pc' := 179) (ls' := [(10, .inl ((sg_g σ16 88 93))), (9, .inl ((v_rowAt σ2 (a2) (v15)))), (0, .inr (.inr (.ref 88))), (1, .inl (a1)), (2, .inl (a2)), (3, .inl (a3)), (4, .inl (a4)), (5, .inl (q1)), (6, .inl (v13)), (7, .inl (v14)), (8, .inl (v15))]) (st' := []) (σ' := σ161) rfl ?_
          exact wk_ls [(0, .inr (.inr (.ref 88))), (1, .inl (a1)), (2, .inl (a2)), (3, .inl (a3)), (4, .inl (a4)), (5, .inl (q1)), (6, .inl (v13)), (7, .inl (v14)), (8, .inl (v15)), (9, .inl ((v_rowAt σ2 (a2) (v15)))), (10, .inl ((sg_g σ16 88 93)))] rfl ⟨rfl, rfl, rfl, rfl, rfl, rfl, rfl, rfl, rfl, rfl, rfl, trivial⟩ (jn70 σ161 (sg_F_t (sg_F_r [135, 143, 94088, 103088, 104088] σ16) (sg_F_m (L := [135, 143, 94088, 103088, 104088]) hF162 rfl)) w)
  exact wk_ls [(0, .inr (.inr (.ref 88))), (1, .inl (a1)), (2, .inl (a2)), (3, .inl (a3)), (4, .inl (a4)), (5, .inl (q1)), (6, .inl (0)), (7, .inl ((sg_g σ2 140 (((4 * a3) + 1))))), (8, .inl (0))] rfl ⟨rfl, rfl, rfl, rfl, rfl, rfl, rfl, rfl, rfl, trivial⟩ (lp26 μ19 (0) ((sg_g σ2 140 (((4 * a3) + 1)))) (0) σ10 (by decide) (sg_Rg _ _ _) (by decide) (sg_F_r _ _) w27)
