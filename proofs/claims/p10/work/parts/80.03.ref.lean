/-! Conditions of the reference's methods, by program (3). -/
-- NestedVectorsModel.add
def V_add (σ : sg_S) (a1 : Int) (Q : sg_S → Prop) : Prop := (0 ≤ (sg_g σ 88 60) ∧ (sg_g σ 88 60) < 12000) ∧ ∀ σ2, σ2 = (sg_w σ 125 ((sg_g σ 88 60)) (a1)) → sg_R ((sg_g σ 88 60) + 1) ∧ ∀ σ6, σ6 = (sg_w σ2 88 60 (((sg_g σ 88 60) + 1))) → Q σ6
set_option maxHeartbeats 4000000 in
set_option maxRecDepth 8000 in
theorem w_add (z : Value) (σ : sg_S) (a1 : Int) (Q : sg_S → Prop) (ra1 : sg_R a1) (w : V_add σ a1 Q) : wx z 0 212 0 [(0, .inr (.inr (.ref 88))), (1, .inl (a1))] [] σ (fun v σ' => v = none ∧ sg_F [125, 61088] σ σ' ∧ Q σ') := by
  unfold V_add at w
  refine wk_b tt_212 5 (pc' := 9) (ls' := [(0, .inr (.inr (.ref 88))), (1, .inl (a1))]) (st' := [.inl (a1), .inl ((sg_g σ 88 60)), .inr (.inr (.ref 125))]) (σ' := σ) rfl ?_
  obtain ⟨c1, w⟩ := w
  refine wk_is tt_212 rfl rfl c1.1 c1.2 (sg_Rg _ _ _) ?_
  generalize hs3 : (sg_w σ 125 ((sg_g σ 88 60)) (a1)) = σ2
  have w := w σ2 hs3.symm
  have hF4 : sg_F [125] σ σ2 := by rw [← hs3]; exact sg_F_w (sg_F_r _ _) rfl _
  obtain ⟨c5, w⟩ := w
  refine wk_b tt_212 6 (pc' := 20) (ls' := [(0, .inr (.inr (.ref 88))), (1, .inl (a1))]) (st' := []) (σ' := (sg_w σ2 88 60 (((sg_g σ2 88 60) + 1)))) rfl ?_
  rw [show (sg_g σ2 88 60) = (sg_g σ 88 60) from by rw [sg_F_ga hF4 rfl]]
  generalize hs7 : (sg_w σ2 88 60 (((sg_g σ 88 60) + 1))) = σ6
  have w := w σ6 hs7.symm
  have hF8 : sg_F [61088] σ2 σ6 := by rw [← hs7]; exact sg_F_w (sg_F_r _ _) rfl _
  exact wk_rV tt_212 rfl rfl ⟨rfl, (sg_F_t (sg_F_t (sg_F_r [125, 61088] σ) (sg_F_m (L := [125, 61088]) hF4 rfl)) (sg_F_m (L := [125, 61088]) hF8 rfl)), w⟩
-- NestedVectorsModel.seq
def V_seq (σ : sg_S) (a1 : Int) (a2 : Int) (a3 : Int) (Q : Int → sg_S → Prop) : Prop := (0 ≤ (sg_g σ 88 56) ∧ (sg_g σ 88 56) < 9000) ∧ ∀ σ2, σ2 = (sg_w σ 122 ((sg_g σ 88 56)) (a1)) → ∀ σ5, σ5 = (sg_w σ2 123 ((sg_g σ 88 56)) (a2)) → (∃ (I12 : Nat → Int → Int → Prop) (X14 : Int → Prop), (∃ n, I12 n (a2) (a1)) ∧ (∀ (n23 : Nat) (v8 : Int) (v9 : Int), sg_RL v8 → sg_R v9 → I12 n23 v8 v9 → sg_R (a1 + a2) ∧ (((a1 + a2) ≤ v9 → X14 (v8)) ∧ (v9 < (a1 + a2) → ((a3 ≤ 1 → X14 (v8)) ∧ (1 < a3 → (0 ≤ v9 ∧ v9 < 12000) ∧ (0 ≤ (sg_g σ 125 (v9)) ∧ (sg_g σ 125 (v9)) < 9000) ∧ sg_RL (v8 + (sg_gl σ 124 ((sg_g σ 125 (v9))))) ∧ sg_R (v9 + 1) ∧ (∃ m, m < n23 ∧ I12 m ((v8 + (sg_gl σ 124 ((sg_g σ 125 (v9)))))) ((v9 + 1)))))))) ∧ (∀ (v8 : Int), sg_RL v8 → X14 v8 → ∀ σ25, σ25 = (sg_wl σ5 124 ((sg_g σ 88 56)) (v8)) → sg_R ((sg_g σ 88 56) + 1) ∧ ∀ σ29, σ29 = (sg_w σ25 88 56 (((sg_g σ 88 56) + 1))) → sg_R (((sg_g σ 88 56) + 1) - 1) ∧ Q ((((sg_g σ 88 56) + 1) - 1)) σ29))
set_option maxHeartbeats 4000000 in
set_option maxRecDepth 8000 in
theorem w_seq (z : Value) (σ : sg_S) (a1 : Int) (a2 : Int) (a3 : Int) (Q : Int → sg_S → Prop) (ra1 : sg_R a1) (ra2 : sg_R a2) (ra3 : sg_R a3) (w : V_seq σ a1 a2 a3 Q) : wx z 0 323 0 [(0, .inr (.inr (.ref 88))), (1, .inl (a1)), (2, .inl (a2)), (3, .inl (a3))] [] σ (fun v σ' => ∃ q, v = some (.inl q) ∧ sg_R q ∧ sg_F [122, 123, 124, 57088] σ σ' ∧ Q q σ') := by
  unfold V_seq at w
  refine wk_b tt_323 5 (pc' := 9) (ls' := [(0, .inr (.inr (.ref 88))), (1, .inl (a1)), (2, .inl (a2)), (3, .inl (a3))]) (st' := [.inl (a1), .inl ((sg_g σ 88 56)), .inr (.inr (.ref 122))]) (σ' := σ) rfl ?_
  obtain ⟨c1, w⟩ := w
  refine wk_is tt_323 rfl rfl c1.1 c1.2 (sg_Rg _ _ _) ?_
  generalize hs3 : (sg_w σ 122 ((sg_g σ 88 56)) (a1)) = σ2
  have w := w σ2 hs3.symm
  have hF4 : sg_F [122] σ σ2 := by rw [← hs3]; exact sg_F_w (sg_F_r _ _) rfl _
  refine wk_b tt_323 5 (pc' := 19) (ls' := [(0, .inr (.inr (.ref 88))), (1, .inl (a1)), (2, .inl (a2)), (3, .inl (a3))]) (st' := [.inl (a2), .inl ((sg_g σ2 88 56)), .inr (.inr (.ref 123))]) (σ' := σ2) rfl ?_
  rw [show (sg_g σ2 88 56) = (sg_g σ 88 56) from by rw [sg_F_ga hF4 rfl]]
  refine wk_is tt_323 rfl rfl c1.1 c1.2 (sg_Rg _ _ _) ?_
  generalize hs6 : (sg_w σ2 123 ((sg_g σ 88 56)) (a2)) = σ5
  have w := w σ5 hs6.symm
  have hF7 : sg_F [123] σ2 σ5 := by rw [← hs6]; exact sg_F_w (sg_F_r _ _) rfl _
  refine wk_b tt_323 5 (pc' := 27) (ls' := [(6, .inl (a1)), (4, .inr (.inl ((sg_n (a2))))), (0, .inr (.inr (.ref 88))), (1, .inl (a1)), (2, .inl (a2)), (3, .inl (a3))]) (st' := []) (σ' := σ5) rfl ?_
  rw [show (sg_n (a2)) = a2 from by rw [sg_id ra2]]
  obtain ⟨I12, X14, ⟨μ13, w20⟩, w21, w22⟩ := w
  have ex24 : ∀ (v8 : Int), sg_RL v8 → X14 v8 → wx z 0 323 63 [(0, .inr (.inr (.ref 88))), (4, .inr (.inl (v8)))] [] σ5 (fun v σ' => ∃ q, v = some (.inl q) ∧ sg_R q ∧ sg_F [122, 123, 124, 57088] σ σ' ∧ Q q σ') := by
    intro v8 r15 w
    have w := w22 v8 r15 w
    refine wk_b tt_323 5 (pc' := 73) (ls' := [(0, .inr (.inr (.ref 88))), (4, .inr (.inl (v8)))]) (st' := [.inr (.inl (v8)), .inl ((sg_g σ5 88 56)), .inr (.inr (.ref 124))]) (σ' := σ5) rfl ?_
    rw [show (sg_g σ5 88 56) = (sg_g σ 88 56) from by rw [sg_F_ga hF7 rfl, sg_F_ga hF4 rfl]]
    refine wk_lS tt_323 rfl rfl c1.1 c1.2 (sg_Rg _ _ _) ?_
    generalize hs26 : (sg_wl σ5 124 ((sg_g σ 88 56)) (v8)) = σ25
    have w := w σ25 hs26.symm
    have hF27 : sg_F [124] σ5 σ25 := by rw [← hs26]; exact sg_F_wl (sg_F_r _ _) rfl _
    obtain ⟨c28, w⟩ := w
    refine wk_b tt_323 6 (pc' := 84) (ls' := [(0, .inr (.inr (.ref 88))), (4, .inr (.inl (v8)))]) (st' := []) (σ' := (sg_w σ25 88 56 (((sg_g σ25 88 56) + 1)))) rfl ?_
    rw [show (sg_g σ25 88 56) = (sg_g σ 88 56) from by rw [sg_F_ga hF27 rfl, sg_F_ga hF7 rfl, sg_F_ga hF4 rfl]]
    generalize hs30 : (sg_w σ25 88 56 (((sg_g σ 88 56) + 1))) = σ29
    have w := w σ29 hs30.symm
    have hF31 : sg_F [57088] σ25 σ29 := by rw [← hs30]; exact sg_F_w (sg_F_r _ _) rfl _
    obtain ⟨c32, w⟩ := w
    refine wk_b tt_323 4 (pc' := 90) (ls' := [(0, .inr (.inr (.ref 88))), (4, .inr (.inl (v8)))]) (st' := [.inl (((sg_g σ29 88 56) - 1))]) (σ' := σ29) rfl ?_
    rw [show (sg_g σ29 88 56) = ((sg_g σ 88 56) + 1) from by rw [(show sg_g σ29 88 56 = ((sg_g σ 88 56) + 1) from by rw [← hs30]; exact sg_gw_e _ _ _ _ c28)]]
    exact wk_rI tt_323 rfl rfl ⟨_, rfl, c32, (sg_F_t (sg_F_t (sg_F_t (sg_F_t (sg_F_r [122, 123, 124, 57088] σ) (sg_F_m (L := [122, 123, 124, 57088]) hF4 rfl)) (sg_F_m (L := [122, 123, 124, 57088]) hF7 rfl)) (sg_F_m (L := [122, 123, 124, 57088]) hF27 rfl)) (sg_F_m (L := [122, 123, 124, 57088]) hF31 rfl)), w⟩
  have lp19 : ∀ (n23 : Nat) (v8 : Int) (v9 : Int), sg_RL v8 → sg_R v9 → I12 n23 v8 v9 → wx z 0 323 27 [(0, .inr (.inr (.ref 88))), (1, .inl (a1)), (2, .inl (a2)), (3, .inl (a3)), (4, .inr (.inl (v8))), (6, .inl (v9))] [] σ5 (fun v σ' => ∃ q, v = some (.inl q) ∧ sg_R q ∧ sg_F [122, 123, 124, 57088] σ σ' ∧ Q q σ') := by
    intro n23
    induction n23 using Nat.strongRecOn with
    | _ n23 ih17 =>
      intro v8 v9 r15 r16 w
      have w := w21 n23 v8 v9 r15 r16 w
      obtain ⟨c33, w⟩ := w
      refine wk_b tt_323 4 (pc' := 32) (ls' := [(0, .inr (.inr (.ref 88))), (1, .inl (a1)), (2, .inl (a2)), (3, .inl (a3)), (4, .inr (.inl (v8))), (6, .inl (v9))]) (st' := [.inl ((a1 + a2)), .inl (v9)]) (σ' := σ5) rfl ?_
      refine wk_if2 tt_323 (tgt := 63) rfl rfl r16 c33 (fun (h34 : (a1 + a2) ≤ v9) => ?_) (fun (h34 : v9 < (a1 + a2)) => ?_)
      ·
        have w := w.1 h34
        exact wk_ls [(0, .inr (.inr (.ref 88))), (4, .inr (.inl (v8)))] rfl ⟨rfl, rfl, trivial⟩ (ex24 (v8)  r15  w)
      ·
        have w := w.2 h34
        refine wk_b tt_323 2 (pc' := 37) (ls' := [(0, .inr (.inr (.ref 88))), (1, .inl (a1)), (2, .inl (a2)), (3, .inl (a3)), (4, .inr (.inl (v8))), (6, .inl (v9))]) (st' := [.inl (1), .inl (a3)]) (σ' := σ5) rfl ?_
        refine wk_if2 tt_323 (tgt := 63) rfl rfl ra3 (by decide) (fun (h35 : a3 ≤ 1) => ?_) (fun (h35 : 1 < a3) => ?_)
        ·
          have w := w.1 h35
          exact wk_ls [(0, .inr (.inr (.ref 88))), (4, .inr (.inl (v8)))] rfl ⟨rfl, rfl, trivial⟩ (ex24 (v8)  r15  w)
        ·
          have w := w.2 h35
          refine wk_b tt_323 6 (pc' := 52) (ls' := [(0, .inr (.inr (.ref 88))), (1, .inl (a1)), (2, .inl (a2)), (3, .inl (a3)), (4, .inr (.inl (v8))), (6, .inl (v9))]) (st' := [.inl (v9), .inr (.inr (.ref 125)), .inr (.inr (.ref 124)), .inr (.inl (v8))]) (σ' := σ5) rfl ?_
          obtain ⟨c36, w⟩ := w
          refine wk_ia tt_323 rfl rfl c36.1 c36.2 r16 ?_
          rw [show (sg_g σ5 125 (v9)) = (sg_g σ 125 (v9)) from by rw [sg_F_ga hF7 rfl, sg_F_ga hF4 rfl]]
          obtain ⟨c37, w⟩ := w
          refine wk_la tt_323 rfl rfl c37.1 c37.2 (sg_Rg _ _ _) ?_
          rw [show (sg_gl σ5 124 ((sg_g σ 125 (v9)))) = (sg_gl σ 124 ((sg_g σ 125 (v9)))) from by rw [sg_F_gal hF7 rfl, sg_F_gal hF4 rfl]]
          obtain ⟨c38, w⟩ := w
          obtain ⟨c39, w⟩ := w
          refine wk_b tt_323 4 (pc' := 27) (ls' := [(6, .inl ((v9 + 1))), (4, .inr (.inl ((v8 + (sg_gl σ 124 ((sg_g σ 125 (v9)))))))), (0, .inr (.inr (.ref 88))), (1, .inl (a1)), (2, .inl (a2)), (3, .inl (a3))]) (st' := []) (σ' := σ5) rfl ?_
          obtain ⟨m40, hm40, w⟩ := w
          exact wk_ls [(0, .inr (.inr (.ref 88))), (1, .inl (a1)), (2, .inl (a2)), (3, .inl (a3)), (4, .inr (.inl ((v8 + (sg_gl σ 124 ((sg_g σ 125 (v9)))))))), (6, .inl ((v9 + 1)))] rfl ⟨rfl, rfl, rfl, rfl, rfl, rfl, trivial⟩ (ih17 m40 hm40 ((v8 + (sg_gl σ 124 ((sg_g σ 125 (v9)))))) ((v9 + 1))  c38 c39  w)
  exact wk_ls [(0, .inr (.inr (.ref 88))), (1, .inl (a1)), (2, .inl (a2)), (3, .inl (a3)), (4, .inr (.inl (a2))), (6, .inl (a1))] rfl ⟨rfl, rfl, rfl, rfl, rfl, rfl, trivial⟩ (lp19 μ13 (a2) (a1)  (sg_Rgl2 ra2) ra1  w20)
-- NestedVectorsModel.ends
def V_ends (σ : sg_S) (a1 : Int) (Q : sg_S → Prop) : Prop := ((¬ (sg_g σ 88 73) = 0 → ∀ σ2, σ2 = (sg_w σ 88 73 ((sg_g σ 88 73))) → Q σ2) ∧ ((sg_g σ 88 73) = 0 → ∀ σ5, σ5 = (sg_w σ 88 73 (a1)) → Q σ5))
set_option maxHeartbeats 4000000 in
set_option maxRecDepth 8000 in
theorem w_ends (z : Value) (σ : sg_S) (a1 : Int) (Q : sg_S → Prop) (ra1 : sg_R a1) (w : V_ends σ a1 Q) : wx z 0 224 0 [(0, .inr (.inr (.ref 88))), (1, .inl (a1))] [] σ (fun v σ' => v = none ∧ sg_F [74088] σ σ' ∧ Q σ') := by
  unfold V_ends at w
  refine wk_b tt_224 3 (pc' := 5) (ls' := [(0, .inr (.inr (.ref 88))), (1, .inl (a1))]) (st' := [.inl ((sg_g σ 88 73)), .inr (.inr (.ref 88))]) (σ' := σ) rfl ?_
  refine wk_if tt_224 (tgt := 12) rfl rfl (sg_Rg _ _ _) (fun (h1 : ¬ (sg_g σ 88 73) = 0) => ?_) (fun (h1 : (sg_g σ 88 73) = 0) => ?_)
  ·
    have w := w.1 h1
    refine wk_b tt_224 3 (pc' := 19) (ls' := [(0, .inr (.inr (.ref 88))), (1, .inl (a1))]) (st' := []) (σ' := (sg_w σ 88 73 ((sg_g σ 88 73)))) rfl ?_
    generalize hs3 : (sg_w σ 88 73 ((sg_g σ 88 73))) = σ2
    have w := w σ2 hs3.symm
    have hF4 : sg_F [74088] σ σ2 := by rw [← hs3]; exact sg_F_w (sg_F_r _ _) rfl _
    exact wk_rV tt_224 rfl rfl ⟨rfl, (sg_F_t (sg_F_r [74088] σ) (sg_F_m (L := [74088]) hF4 rfl)), w⟩
  ·
    have w := w.2 h1
    refine wk_b tt_224 3 (pc' := 19) (ls' := [(0, .inr (.inr (.ref 88))), (1, .inl (a1))]) (st' := []) (σ' := (sg_w σ 88 73 (a1))) rfl ?_
    generalize hs6 : (sg_w σ 88 73 (a1)) = σ5
    have w := w σ5 hs6.symm
    have hF7 : sg_F [74088] σ σ5 := by rw [← hs6]; exact sg_F_w (sg_F_r _ _) rfl _
    exact wk_rV tt_224 rfl rfl ⟨rfl, (sg_F_t (sg_F_r [74088] σ) (sg_F_m (L := [74088]) hF7 rfl)), w⟩
-- NestedVectorsModel.acted
def V_acted_16 (σ : sg_S) (b2 : Int) (b4 : Int) (Q : Int → sg_S → Prop) : Prop := ((¬ (v_in (b2) (0) (200)) = 0 → (∃ (I5 : Nat → Int → sg_S → Prop) (X7 : sg_S → Prop), (∃ n, I5 n (0) σ) ∧ (∀ (n15 : Nat) (v2 : Int) (σ3 : sg_S), sg_R v2 → sg_F [125, 61088] σ σ3 → I5 n15 v2 σ3 → ((b2 ≤ v2 → X7 σ3) ∧ (v2 < b2 → V_add σ3 (v2) (fun σ25 => sg_F [125, 61088] σ3 σ25 → sg_R (v2 + 1) ∧ (∃ m, m < n15 ∧ I5 m ((v2 + 1)) σ25))))) ∧ (∀ (σ3 : sg_S), sg_F [125, 61088] σ σ3 → X7 σ3 → V_seq σ3 (b4) (b2) (1) (fun q17 σ18 => sg_R q17 → sg_F [122, 123, 124, 57088] σ3 σ18 → Q (q17) σ18)))) ∧ ((v_in (b2) (0) (200)) = 0 → V_ends σ (5) (fun σ33 => sg_F [74088] σ σ33 → Q (0) σ33)))
set_option maxHeartbeats 4000000 in
set_option maxRecDepth 8000 in
theorem w_acted_16 (z : Value) (σ : sg_S) (b2 : Int) (b4 : Int) (Q : Int → sg_S → Prop) (rb2 : sg_R b2) (rb4 : sg_R b4) (w : V_acted_16 σ b2 b4 Q) : wx z 1 211 72 [(0, .inr (.inr (.ref 88))), (2, .inl (b2)), (4, .inl (b4))] [] σ (fun v σ' => ∃ q, v = some (.inl q) ∧ sg_R q ∧ sg_F [122, 123, 124, 125, 57088, 61088, 74088] σ σ' ∧ Q q σ') := by
  unfold V_acted_16 at w
  refine wk_b tt_211 4 (pc' := 78) (ls' := [(0, .inr (.inr (.ref 88))), (2, .inl (b2)), (4, .inl (b4))]) (st' := [.inr (.inl (200)), .inr (.inl (0)), .inr (.inl ((sg_n (b2))))]) (σ' := σ) rfl ?_
  rw [show (sg_n (b2)) = b2 from by rw [sg_id rb2]]
  refine wk_callp tt_211 rfl rfl rfl rfl rfl tt_258 rfl (by decide) (w_in z σ (b2) (0) (200) (sg_Rgl2 rb2) (by decide) (by decide) ) ?_
  refine wk_if tt_211 (tgt := 91) rfl rfl (sg_Rz (vz_in ..)) (fun (h1 : ¬ (v_in (b2) (0) (200)) = 0) => ?_) (fun (h1 : (v_in (b2) (0) (200)) = 0) => ?_)
  ·
    have w := w.1 h1
    refine wk_b tt_211 2 (pc' := 94) (ls' := [(6, .inl (0)), (0, .inr (.inr (.ref 88))), (2, .inl (b2)), (4, .inl (b4))]) (st' := []) (σ' := σ) rfl ?_
    obtain ⟨I5, X7, ⟨μ6, w12⟩, w13, w14⟩ := w
    have ex16 : ∀ (σ3 : sg_S), sg_F [125, 61088] σ σ3 → X7 σ3 → wx z 1 211 112 [(0, .inr (.inr (.ref 88))), (2, .inl (b2)), (4, .inl (b4))] [] σ3 (fun v σ' => ∃ q, v = some (.inl q) ∧ sg_R q ∧ sg_F [122, 123, 124, 125, 57088, 61088, 74088] σ σ' ∧ Q q σ') := by
      intro σ3 hF4 w
      have w := w14 σ3 hF4 w
      refine wk_b tt_211 4 (pc' := 117) (ls' := [(0, .inr (.inr (.ref 88))), (2, .inl (b2)), (4, .inl (b4))]) (st' := [.inl (1), .inl (b2), .inl (b4), .inr (.inr (.ref 88))]) (σ' := σ3) rfl ?_
      refine wk_call tt_211 rfl rfl rfl rfl rfl tt_323 rfl (by decide) (w_seq z σ3 (b4) (b2) (1) _ rb4 rb2 (by decide) w) (fun u22 σ18 hq20 => ?_)
      obtain ⟨q17, rfl, r21, hF19, w⟩ := hq20
      have w := w r21 hF19
      exact wk_rI tt_211 rfl rfl ⟨_, rfl, r21, (sg_F_t (sg_F_t (sg_F_r [122, 123, 124, 125, 57088, 61088, 74088] σ) (sg_F_m (L := [122, 123, 124, 125, 57088, 61088, 74088]) hF4 rfl)) (sg_F_m (L := [122, 123, 124, 125, 57088, 61088, 74088]) hF19 rfl)), w⟩
    have lp11 : ∀ (n15 : Nat) (v2 : Int) (σ3 : sg_S), sg_R v2 → sg_F [125, 61088] σ σ3 → I5 n15 v2 σ3 → wx z 1 211 94 [(0, .inr (.inr (.ref 88))), (2, .inl (b2)), (4, .inl (b4)), (6, .inl (v2))] [] σ3 (fun v σ' => ∃ q, v = some (.inl q) ∧ sg_R q ∧ sg_F [122, 123, 124, 125, 57088, 61088, 74088] σ σ' ∧ Q q σ') := by
      intro n15
      induction n15 using Nat.strongRecOn with
      | _ n15 ih9 =>
        intro v2 σ3 r8 hF4 w
        have w := w13 n15 v2 σ3 r8 hF4 w
        refine wk_b tt_211 2 (pc' := 97) (ls' := [(0, .inr (.inr (.ref 88))), (2, .inl (b2)), (4, .inl (b4)), (6, .inl (v2))]) (st' := [.inl (b2), .inl (v2)]) (σ' := σ3) rfl ?_
        refine wk_if2 tt_211 (tgt := 112) rfl rfl r8 rb2 (fun (h23 : b2 ≤ v2) => ?_) (fun (h23 : v2 < b2) => ?_)
        ·
          have w := w.1 h23
          exact wk_ls [(0, .inr (.inr (.ref 88))), (2, .inl (b2)), (4, .inl (b4))] rfl ⟨rfl, rfl, rfl, trivial⟩ (ex16  σ3  (sg_F_t (sg_F_r [125, 61088] σ) (sg_F_m (L := [125, 61088]) hF4 rfl)) w)
        ·
          have w := w.2 h23
          refine wk_b tt_211 2 (pc' := 103) (ls' := [(0, .inr (.inr (.ref 88))), (2, .inl (b2)), (4, .inl (b4)), (6, .inl (v2))]) (st' := [.inl (v2), .inr (.inr (.ref 88))]) (σ' := σ3) rfl ?_
          refine wk_call tt_211 rfl rfl rfl rfl rfl tt_212 rfl (by decide) (w_add z σ3 (v2) _ r8 w) (fun u29 σ25 hq27 => ?_)
          obtain ⟨rfl, hF26, w⟩ := hq27
          have w := w hF26
          obtain ⟨c30, w⟩ := w
          refine wk_b tt_211 2 (pc' := 94) (ls' := [(6, .inl ((v2 + 1))), (0, .inr (.inr (.ref 88))), (2, .inl (b2)), (4, .inl (b4))]) (st' := []) (σ' := σ25) rfl ?_
          obtain ⟨m31, hm31, w⟩ := w
          exact wk_ls [(0, .inr (.inr (.ref 88))), (2, .inl (b2)), (4, .inl (b4)), (6, .inl ((v2 + 1)))] rfl ⟨rfl, rfl, rfl, rfl, trivial⟩ (ih9 m31 hm31 ((v2 + 1)) σ25 c30 (sg_F_t (sg_F_t (sg_F_r [125, 61088] σ) (sg_F_m (L := [125, 61088]) hF4 rfl)) (sg_F_m (L := [125, 61088]) hF26 rfl)) w)
    exact wk_ls [(0, .inr (.inr (.ref 88))), (2, .inl (b2)), (4, .inl (b4)), (6, .inl (0))] rfl ⟨rfl, rfl, rfl, rfl, trivial⟩ (lp11 μ6 (0) σ (by decide) (sg_F_r _ _) w12)
  ·
    have w := w.2 h1
    refine wk_b tt_211 2 (pc' := 86) (ls' := [(0, .inr (.inr (.ref 88))), (2, .inl (b2)), (4, .inl (b4))]) (st' := [.inl (5), .inr (.inr (.ref 88))]) (σ' := σ) rfl ?_
    refine wk_call tt_211 rfl rfl rfl rfl rfl tt_224 rfl (by decide) (w_ends z σ (5) _ (by decide) w) (fun u37 σ33 hq35 => ?_)
    obtain ⟨rfl, hF34, w⟩ := hq35
    have w := w hF34
    refine wk_b tt_211 1 (pc' := 90) (ls' := [(0, .inr (.inr (.ref 88))), (2, .inl (b2)), (4, .inl (b4))]) (st' := [.inl (0)]) (σ' := σ33) rfl ?_
    exact wk_rI tt_211 rfl rfl ⟨_, rfl, (by decide), (sg_F_t (sg_F_r [122, 123, 124, 125, 57088, 61088, 74088] σ) (sg_F_m (L := [122, 123, 124, 125, 57088, 61088, 74088]) hF34 rfl)), w⟩
-- NestedVectorsModel.acted
def V_acted_17 (σ : sg_S) (b1 : Int) (b2 : Int) (b3 : Int) (b4 : Int) (Q : Int → sg_S → Prop) : Prop := ((¬ (v_in (b3) (0) (200)) = 0 → (∃ (I5 : Nat → Int → sg_S → Prop) (X7 : sg_S → Prop), (∃ n, I5 n (0) σ) ∧ (∀ (n15 : Nat) (v2 : Int) (σ3 : sg_S), sg_R v2 → sg_F [125, 61088] σ σ3 → I5 n15 v2 σ3 → ((b3 ≤ v2 → X7 σ3) ∧ (v2 < b3 → V_add σ3 (b2) (fun σ26 => sg_F [125, 61088] σ3 σ26 → sg_R (v2 + 1) ∧ (∃ m, m < n15 ∧ I5 m ((v2 + 1)) σ26))))) ∧ (∀ (σ3 : sg_S), sg_F [125, 61088] σ σ3 → X7 σ3 → (0 ≤ b1 ∧ b1 < 210) ∧ V_seq σ3 (b4) (b3) ((sg_g σ 101 (b1))) (fun q18 σ19 => sg_R q18 → sg_F [122, 123, 124, 57088] σ3 σ19 → Q (q18) σ19)))) ∧ ((v_in (b3) (0) (200)) = 0 → V_ends σ (5) (fun σ34 => sg_F [74088] σ σ34 → Q (0) σ34)))
set_option maxHeartbeats 4000000 in
set_option maxRecDepth 8000 in
theorem w_acted_17 (z : Value) (σ : sg_S) (b1 : Int) (b2 : Int) (b3 : Int) (b4 : Int) (Q : Int → sg_S → Prop) (rb1 : sg_R b1) (rb2 : sg_R b2) (rb3 : sg_R b3) (rb4 : sg_R b4) (w : V_acted_17 σ b1 b2 b3 b4 Q) : wx z 1 211 121 [(0, .inr (.inr (.ref 88))), (1, .inl (b1)), (2, .inl (b2)), (3, .inl (b3)), (4, .inl (b4))] [] σ (fun v σ' => ∃ q, v = some (.inl q) ∧ sg_R q ∧ sg_F [122, 123, 124, 125, 57088, 61088, 74088] σ σ' ∧ Q q σ') := by
  unfold V_acted_17 at w
  refine wk_b tt_211 4 (pc' := 127) (ls' := [(0, .inr (.inr (.ref 88))), (1, .inl (b1)), (2, .inl (b2)), (3, .inl (b3)), (4, .inl (b4))]) (st' := [.inr (.inl (200)), .inr (.inl (0)), .inr (.inl ((sg_n (b3))))]) (σ' := σ) rfl ?_
  rw [show (sg_n (b3)) = b3 from by rw [sg_id rb3]]
  refine wk_callp tt_211 rfl rfl rfl rfl rfl tt_258 rfl (by decide) (w_in z σ (b3) (0) (200) (sg_Rgl2 rb3) (by decide) (by decide) ) ?_
  refine wk_if tt_211 (tgt := 140) rfl rfl (sg_Rz (vz_in ..)) (fun (h1 : ¬ (v_in (b3) (0) (200)) = 0) => ?_) (fun (h1 : (v_in (b3) (0) (200)) = 0) => ?_)
  ·
    have w := w.1 h1
    refine wk_b tt_211 2 (pc' := 143) (ls' := [(6, .inl (0)), (0, .inr (.inr (.ref 88))), (1, .inl (b1)), (2, .inl (b2)), (3, .inl (b3)), (4, .inl (b4))]) (st' := []) (σ' := σ) rfl ?_
    obtain ⟨I5, X7, ⟨μ6, w12⟩, w13, w14⟩ := w
    have ex16 : ∀ (σ3 : sg_S), sg_F [125, 61088] σ σ3 → X7 σ3 → wx z 1 211 160 [(0, .inr (.inr (.ref 88))), (1, .inl (b1)), (3, .inl (b3)), (4, .inl (b4))] [] σ3 (fun v σ' => ∃ q, v = some (.inl q) ∧ sg_R q ∧ sg_F [122, 123, 124, 125, 57088, 61088, 74088] σ σ' ∧ Q q σ') := by
      intro σ3 hF4 w
      have w := w14 σ3 hF4 w
      refine wk_b tt_211 6 (pc' := 169) (ls' := [(0, .inr (.inr (.ref 88))), (1, .inl (b1)), (3, .inl (b3)), (4, .inl (b4))]) (st' := [.inl (b1), .inr (.inr (.ref 101)), .inl (b3), .inl (b4), .inr (.inr (.ref 88))]) (σ' := σ3) rfl ?_
      obtain ⟨c17, w⟩ := w
      refine wk_ia tt_211 rfl rfl c17.1 c17.2 rb1 ?_
      rw [show (sg_g σ3 101 (b1)) = (sg_g σ 101 (b1)) from by rw [sg_F_ga hF4 rfl]]
      refine wk_call tt_211 rfl rfl rfl rfl rfl tt_323 rfl (by decide) (w_seq z σ3 (b4) (b3) ((sg_g σ 101 (b1))) _ rb4 rb3 (sg_Rg _ _ _) w) (fun u23 σ19 hq21 => ?_)
      obtain ⟨q18, rfl, r22, hF20, w⟩ := hq21
      have w := w r22 hF20
      exact wk_rI tt_211 rfl rfl ⟨_, rfl, r22, (sg_F_t (sg_F_t (sg_F_r [122, 123, 124, 125, 57088, 61088, 74088] σ) (sg_F_m (L := [122, 123, 124, 125, 57088, 61088, 74088]) hF4 rfl)) (sg_F_m (L := [122, 123, 124, 125, 57088, 61088, 74088]) hF20 rfl)), w⟩
    have lp11 : ∀ (n15 : Nat) (v2 : Int) (σ3 : sg_S), sg_R v2 → sg_F [125, 61088] σ σ3 → I5 n15 v2 σ3 → wx z 1 211 143 [(0, .inr (.inr (.ref 88))), (1, .inl (b1)), (2, .inl (b2)), (3, .inl (b3)), (4, .inl (b4)), (6, .inl (v2))] [] σ3 (fun v σ' => ∃ q, v = some (.inl q) ∧ sg_R q ∧ sg_F [122, 123, 124, 125, 57088, 61088, 74088] σ σ' ∧ Q q σ') := by
      intro n15
      induction n15 using Nat.strongRecOn with
      | _ n15 ih9 =>
        intro v2 σ3 r8 hF4 w
        have w := w13 n15 v2 σ3 r8 hF4 w
        refine wk_b tt_211 2 (pc' := 146) (ls' := [(0, .inr (.inr (.ref 88))), (1, .inl (b1)), (2, .inl (b2)), (3, .inl (b3)), (4, .inl (b4)), (6, .inl (v2))]) (st' := [.inl (b3), .inl (v2)]) (σ' := σ3) rfl ?_
        refine wk_if2 tt_211 (tgt := 160) rfl rfl r8 rb3 (fun (h24 : b3 ≤ v2) => ?_) (fun (h24 : v2 < b3) => ?_)
        ·
          have w := w.1 h24
          exact wk_ls [(0, .inr (.inr (.ref 88))), (1, .inl (b1)), (3, .inl (b3)), (4, .inl (b4))] rfl ⟨rfl, rfl, rfl, rfl, trivial⟩ (ex16  σ3  (sg_F_t (sg_F_r [125, 61088] σ) (sg_F_m (L := [125, 61088]) hF4 rfl)) w)
        ·
          have w := w.2 h24
          refine wk_b tt_211 2 (pc' := 151) (ls' := [(0, .inr (.inr (.ref 88))), (1, .inl (b1)), (2, .inl (b2)), (3, .inl (b3)), (4, .inl (b4)), (6, .inl (v2))]) (st' := [.inl (b2), .inr (.inr (.ref 88))]) (σ' := σ3) rfl ?_
          refine wk_call tt_211 rfl rfl rfl rfl rfl tt_212 rfl (by decide) (w_add z σ3 (b2) _ rb2 w) (fun u30 σ26 hq28 => ?_)
          obtain ⟨rfl, hF27, w⟩ := hq28
          have w := w hF27
          obtain ⟨c31, w⟩ := w
          refine wk_b tt_211 2 (pc' := 143) (ls' := [(6, .inl ((v2 + 1))), (0, .inr (.inr (.ref 88))), (1, .inl (b1)), (2, .inl (b2)), (3, .inl (b3)), (4, .inl (b4))]) (st' := []) (σ' := σ26) rfl ?_
          obtain ⟨m32, hm32, w⟩ := w
          exact wk_ls [(0, .inr (.inr (.ref 88))), (1, .inl (b1)), (2, .inl (b2)), (3, .inl (b3)), (4, .inl (b4)), (6, .inl ((v2 + 1)))] rfl ⟨rfl, rfl, rfl, rfl, rfl, rfl, trivial⟩ (ih9 m32 hm32 ((v2 + 1)) σ26 c31 (sg_F_t (sg_F_t (sg_F_r [125, 61088] σ) (sg_F_m (L := [125, 61088]) hF4 rfl)) (sg_F_m (L := [125, 61088]) hF27 rfl)) w)
    exact wk_ls [(0, .inr (.inr (.ref 88))), (1, .inl (b1)), (2, .inl (b2)), (3, .inl (b3)), (4, .inl (b4)), (6, .inl (0))] rfl ⟨rfl, rfl, rfl, rfl, rfl, rfl, trivial⟩ (lp11 μ6 (0) σ (by decide) (sg_F_r _ _) w12)
  ·
    have w := w.2 h1
    refine wk_b tt_211 2 (pc' := 135) (ls' := [(0, .inr (.inr (.ref 88))), (1, .inl (b1)), (2, .inl (b2)), (3, .inl (b3)), (4, .inl (b4))]) (st' := [.inl (5), .inr (.inr (.ref 88))]) (σ' := σ) rfl ?_
    refine wk_call tt_211 rfl rfl rfl rfl rfl tt_224 rfl (by decide) (w_ends z σ (5) _ (by decide) w) (fun u38 σ34 hq36 => ?_)
    obtain ⟨rfl, hF35, w⟩ := hq36
    have w := w hF35
    refine wk_b tt_211 1 (pc' := 139) (ls' := [(0, .inr (.inr (.ref 88))), (1, .inl (b1)), (2, .inl (b2)), (3, .inl (b3)), (4, .inl (b4))]) (st' := [.inl (0)]) (σ' := σ34) rfl ?_
    exact wk_rI tt_211 rfl rfl ⟨_, rfl, (by decide), (sg_F_t (sg_F_r [122, 123, 124, 125, 57088, 61088, 74088] σ) (sg_F_m (L := [122, 123, 124, 125, 57088, 61088, 74088]) hF35 rfl)), w⟩
-- NestedVectorsModel.itemAt
def v_itemAt (σ : sg_S) (a1 : Int) (a2 : Int) : Int := (sg_g σ 125 (((sg_g σ 122 (a1)) + a2)))
def p_itemAt (σ : sg_S) (a1 : Int) (a2 : Int) : Prop := (0 ≤ a1 ∧ a1 < 9000) ∧ sg_R ((sg_g σ 122 (a1)) + a2) ∧ (0 ≤ ((sg_g σ 122 (a1)) + a2) ∧ ((sg_g σ 122 (a1)) + a2) < 12000) ∧ True
set_option maxHeartbeats 4000000 in
set_option maxRecDepth 8000 in
theorem w_itemAt (z : Value) (σ : sg_S) (a1 : Int) (a2 : Int) (ra1 : sg_R a1) (ra2 : sg_R a2) (w : p_itemAt σ a1 a2) : wx z 0 270 0 [(0, .inr (.inr (.ref 88))), (1, .inl (a1)), (2, .inl (a2))] [] σ (fun v σ' => v = some (.inl (v_itemAt σ a1 a2)) ∧ σ' = σ) := by
  unfold p_itemAt at w
  refine wk_b tt_270 5 (pc' := 9) (ls' := [(0, .inr (.inr (.ref 88))), (1, .inl (a1)), (2, .inl (a2))]) (st' := [.inl (a1), .inr (.inr (.ref 122)), .inr (.inr (.ref 125))]) (σ' := σ) rfl ?_
  obtain ⟨c1, w⟩ := w
  refine wk_ia tt_270 rfl rfl c1.1 c1.2 ra1 ?_
  obtain ⟨c2, w⟩ := w
  refine wk_b tt_270 2 (pc' := 12) (ls' := [(0, .inr (.inr (.ref 88))), (1, .inl (a1)), (2, .inl (a2))]) (st' := [.inl (((sg_g σ 122 (a1)) + a2)), .inr (.inr (.ref 125))]) (σ' := σ) rfl ?_
  obtain ⟨c3, w⟩ := w
  refine wk_ia tt_270 rfl rfl c3.1 c3.2 c2 ?_
  exact wk_rI tt_270 rfl rfl ⟨by rw [v_itemAt], rfl⟩
theorem vF_itemAt {L : List Nat} {σ σ' : sg_S} {a1 : Int} {a2 : Int} (hF : sg_F L σ σ') (h0 : sg_ca L 122 = true) (h1 : sg_ca L 125 = true) : v_itemAt σ' a1 a2 = v_itemAt σ a1 a2 := by
  unfold v_itemAt
  simp only [sg_F_ga (k := _) hF h0, sg_F_gal (k := _) hF h0, sg_F_ga (k := _) hF h1, sg_F_gal (k := _) hF h1]
theorem pF_itemAt {L : List Nat} {σ σ' : sg_S} {a1 : Int} {a2 : Int} (hF : sg_F L σ σ') (h0 : sg_ca L 122 = true) (h1 : sg_ca L 125 = true) : p_itemAt σ' a1 a2 = p_itemAt σ a1 a2 := by
  unfold p_itemAt
  simp only [sg_F_ga (k := _) hF h0, sg_F_gal (k := _) hF h0, sg_F_ga (k := _) hF h1, sg_F_gal (k := _) hF h1]
theorem vr_itemAt (σ : sg_S) (a1 : Int) (a2 : Int) (ra1 : sg_R a1) (ra2 : sg_R a2) (w : p_itemAt σ a1 a2) : sg_R (v_itemAt σ a1 a2) := by
  unfold v_itemAt
  unfold p_itemAt at w
  first | exact w.1 | exact w.2.1 | exact w.2.2.1 | exact sg_Rg _ _ _ | exact sg_Rgl _ _ _ | exact sg_Rr _ | exact sg_RLr _ | assumption | omega | (constructor <;> omega)
-- NestedVectorsModel.acted
def V_acted_18 (σ : sg_S) (b2 : Int) (Q : Int → sg_S → Prop) : Prop := (∃ (I5 : Nat → Int → Int → Prop) (X7 : Int → Prop), (∃ n, I5 n (0) (0)) ∧ (∀ (n16 : Nat) (v1 : Int) (v2 : Int), sg_R v1 → sg_R v2 → I5 n16 v1 v2 → (0 ≤ b2 ∧ b2 < 9000) ∧ (((sg_g σ 123 (b2)) ≤ v2 → X7 (v1)) ∧ (v2 < (sg_g σ 123 (b2)) → p_itemAt σ (b2) (v2) ∧ sg_R (v2 + 1) ∧ (∃ m, m < n16 ∧ I5 m ((sg_n (v1 + (v_itemAt σ (b2) (v2))))) ((v2 + 1)))))) ∧ (∀ (v1 : Int), sg_R v1 → X7 v1 → Q (v1) σ))
set_option maxHeartbeats 4000000 in
set_option maxRecDepth 8000 in
theorem w_acted_18 (z : Value) (σ : sg_S) (b2 : Int) (Q : Int → sg_S → Prop) (rb2 : sg_R b2) (w : V_acted_18 σ b2 Q) : wx z 1 211 174 [(0, .inr (.inr (.ref 88))), (2, .inl (b2)), (5, .inl (0))] [] σ (fun v σ' => ∃ q, v = some (.inl q) ∧ sg_R q ∧ σ = σ' ∧ Q q σ') := by
  unfold V_acted_18 at w
  refine wk_b tt_211 2 (pc' := 177) (ls' := [(6, .inl (0)), (0, .inr (.inr (.ref 88))), (2, .inl (b2)), (5, .inl (0))]) (st' := []) (σ' := σ) rfl ?_
  obtain ⟨I5, X7, ⟨μ6, w13⟩, w14, w15⟩ := w
  have ex17 : ∀ (v1 : Int), sg_R v1 → X7 v1 → wx z 1 211 206 [(5, .inl (v1))] [] σ (fun v σ' => ∃ q, v = some (.inl q) ∧ sg_R q ∧ σ = σ' ∧ Q q σ') := by
    intro v1 r8 w
    have w := w15 v1 r8 w
    refine wk_b tt_211 1 (pc' := 208) (ls' := [(5, .inl (v1))]) (st' := [.inl (v1)]) (σ' := σ) rfl ?_
    exact wk_rI tt_211 rfl rfl ⟨_, rfl, r8, rfl, w⟩
  have lp12 : ∀ (n16 : Nat) (v1 : Int) (v2 : Int), sg_R v1 → sg_R v2 → I5 n16 v1 v2 → wx z 1 211 177 [(0, .inr (.inr (.ref 88))), (2, .inl (b2)), (5, .inl (v1)), (6, .inl (v2))] [] σ (fun v σ' => ∃ q, v = some (.inl q) ∧ sg_R q ∧ σ = σ' ∧ Q q σ') := by
    intro n16
    induction n16 using Nat.strongRecOn with
    | _ n16 ih10 =>
      intro v1 v2 r8 r9 w
      have w := w14 n16 v1 v2 r8 r9 w
      refine wk_b tt_211 4 (pc' := 184) (ls' := [(0, .inr (.inr (.ref 88))), (2, .inl (b2)), (5, .inl (v1)), (6, .inl (v2))]) (st' := [.inl (b2), .inr (.inr (.ref 123)), .inl (v2)]) (σ' := σ) rfl ?_
      obtain ⟨c18, w⟩ := w
      refine wk_ia tt_211 rfl rfl c18.1 c18.2 rb2 ?_
      refine wk_if2 tt_211 (tgt := 206) rfl rfl r9 (sg_Rg _ _ _) (fun (h19 : (sg_g σ 123 (b2)) ≤ v2) => ?_) (fun (h19 : v2 < (sg_g σ 123 (b2))) => ?_)
      ·
        have w := w.1 h19
        exact wk_ls [(5, .inl (v1))] rfl ⟨rfl, trivial⟩ (ex17 (v1)  r8  w)
      ·
        have w := w.2 h19
        refine wk_b tt_211 4 (pc' := 194) (ls' := [(0, .inr (.inr (.ref 88))), (2, .inl (b2)), (5, .inl (v1)), (6, .inl (v2))]) (st' := [.inl (v2), .inl (b2), .inr (.inr (.ref 88)), .inl (v1)]) (σ' := σ) rfl ?_
        obtain ⟨c20, w⟩ := w
        refine wk_callp tt_211 rfl rfl rfl rfl rfl tt_270 rfl (by decide) (w_itemAt z σ (b2) (v2) rb2 r9 c20) ?_
        have r21 := vr_itemAt σ  (b2) (v2) rb2 r9 c20
        refine wk_b tt_211 1 (pc' := 198) (ls' := [(0, .inr (.inr (.ref 88))), (2, .inl (b2)), (5, .inl (v1)), (6, .inl (v2))]) (st' := [.inl ((v1 + (v_itemAt σ (b2) (v2))))]) (σ' := σ) rfl ?_
        refine wk_n ?_
        obtain ⟨c22, w⟩ := w
        refine wk_b tt_211 3 (pc' := 177) (ls' := [(6, .inl ((v2 + 1))), (5, .inl ((sg_n (v1 + (v_itemAt σ (b2) (v2)))))), (0, .inr (.inr (.ref 88))), (2, .inl (b2))]) (st' := []) (σ' := σ) rfl ?_
        obtain ⟨m23, hm23, w⟩ := w
        exact wk_ls [(0, .inr (.inr (.ref 88))), (2, .inl (b2)), (5, .inl ((sg_n (v1 + (v_itemAt σ (b2) (v2)))))), (6, .inl ((v2 + 1)))] rfl ⟨rfl, rfl, rfl, rfl, trivial⟩ (ih10 m23 hm23 ((sg_n (v1 + (v_itemAt σ (b2) (v2))))) ((v2 + 1))  (sg_Rn _) c22  w)
  exact wk_ls [(0, .inr (.inr (.ref 88))), (2, .inl (b2)), (5, .inl (0)), (6, .inl (0))] rfl ⟨rfl, rfl, rfl, rfl, trivial⟩ (lp12 μ6 (0) (0)  (by decide) (by decide)  w13)
-- NestedVectorsModel.acted
def V_acted_19 (σ : sg_S) (b1 : Int) (b2 : Int) (Q : Int → sg_S → Prop) : Prop := (0 ≤ b2 ∧ b2 < 9000) ∧ ((¬ (sg_g σ 123 (b2)) = 0 → p_itemAt σ (b2) (0) ∧ (∃ (I9 : Nat → Int → Int → Prop) (X11 : Int → Prop), (∃ n, I9 n ((v_itemAt σ (b2) (0))) (1)) ∧ (∀ (n20 : Nat) (v5 : Int) (v6 : Int), sg_R v5 → sg_R v6 → I9 n20 v5 v6 → (((sg_g σ 123 (b2)) ≤ v6 → X11 (v5)) ∧ (v6 < (sg_g σ 123 (b2)) → p_itemAt σ (b2) (v6) ∧ (0 ≤ b1 ∧ b1 < 210) ∧ ((¬ (sg_g σ 93 (b1)) = 19 → ((v5 ≤ (v_itemAt σ (b2) (v6)) → True) ∧ ((v_itemAt σ (b2) (v6)) < v5 → True))) ∧ ((sg_g σ 93 (b1)) = 19 → (((v_itemAt σ (b2) (v6)) ≤ v5 → True) ∧ (v5 < (v_itemAt σ (b2) (v6)) → True)))) ∧ ∀ v28 : Int, v28 = (if ¬ (sg_g σ 93 (b1)) = 19 then (if v5 ≤ (v_itemAt σ (b2) (v6)) then v5 else (v_itemAt σ (b2) (v6))) else (if (v_itemAt σ (b2) (v6)) ≤ v5 then v5 else (v_itemAt σ (b2) (v6)))) → sg_R v28 → sg_R (v6 + 1) ∧ (∃ m, m < n20 ∧ I9 m (v28) ((v6 + 1)))))) ∧ (∀ (v5 : Int), sg_R v5 → X11 v5 → Q (v5) σ))) ∧ ((sg_g σ 123 (b2)) = 0 → V_ends σ (4) (fun σ36 => sg_F [74088] σ σ36 → Q (0) σ36)))
set_option maxHeartbeats 4000000 in
set_option maxRecDepth 8000 in
theorem w_acted_19 (z : Value) (σ : sg_S) (b1 : Int) (b2 : Int) (Q : Int → sg_S → Prop) (rb1 : sg_R b1) (rb2 : sg_R b2) (w : V_acted_19 σ b1 b2 Q) : wx z 1 211 209 [(0, .inr (.inr (.ref 88))), (1, .inl (b1)), (2, .inl (b2))] [] σ (fun v σ' => ∃ q, v = some (.inl q) ∧ sg_R q ∧ sg_F [74088] σ σ' ∧ Q q σ') := by
  unfold V_acted_19 at w
  refine wk_b tt_211 3 (pc' := 214) (ls' := [(0, .inr (.inr (.ref 88))), (1, .inl (b1)), (2, .inl (b2))]) (st' := [.inl (b2), .inr (.inr (.ref 123))]) (σ' := σ) rfl ?_
  obtain ⟨c1, w⟩ := w
  refine wk_ia tt_211 rfl rfl c1.1 c1.2 rb2 ?_
  refine wk_if tt_211 (tgt := 225) rfl rfl (sg_Rg _ _ _) (fun (h2 : ¬ (sg_g σ 123 (b2)) = 0) => ?_) (fun (h2 : (sg_g σ 123 (b2)) = 0) => ?_)
  ·
    have w := w.1 h2
    refine wk_b tt_211 3 (pc' := 228) (ls' := [(0, .inr (.inr (.ref 88))), (1, .inl (b1)), (2, .inl (b2))]) (st' := [.inl (0), .inl (b2), .inr (.inr (.ref 88))]) (σ' := σ) rfl ?_
    obtain ⟨c3, w⟩ := w
    refine wk_callp tt_211 rfl rfl rfl rfl rfl tt_270 rfl (by decide) (w_itemAt z σ (b2) (0) rb2 (by decide) c3) ?_
    have r4 := vr_itemAt σ  (b2) (0) rb2 (by decide) c3
    refine wk_b tt_211 3 (pc' := 236) (ls' := [(6, .inl (1)), (5, .inl ((v_itemAt σ (b2) (0)))), (0, .inr (.inr (.ref 88))), (1, .inl (b1)), (2, .inl (b2))]) (st' := []) (σ' := σ) rfl ?_
    obtain ⟨I9, X11, ⟨μ10, w17⟩, w18, w19⟩ := w
    have ex21 : ∀ (v5 : Int), sg_R v5 → X11 v5 → wx z 1 211 306 [(5, .inl (v5))] [] σ (fun v σ' => ∃ q, v = some (.inl q) ∧ sg_R q ∧ sg_F [74088] σ σ' ∧ Q q σ') := by
      intro v5 r12 w
      have w := w19 v5 r12 w
      refine wk_b tt_211 1 (pc' := 308) (ls' := [(5, .inl (v5))]) (st' := [.inl (v5)]) (σ' := σ) rfl ?_
      exact wk_rI tt_211 rfl rfl ⟨_, rfl, r12, (sg_F_r [74088] σ), w⟩
    have lp16 : ∀ (n20 : Nat) (v5 : Int) (v6 : Int), sg_R v5 → sg_R v6 → I9 n20 v5 v6 → wx z 1 211 236 [(0, .inr (.inr (.ref 88))), (1, .inl (b1)), (2, .inl (b2)), (5, .inl (v5)), (6, .inl (v6))] [] σ (fun v σ' => ∃ q, v = some (.inl q) ∧ sg_R q ∧ sg_F [74088] σ σ' ∧ Q q σ') := by
      intro n20
      induction n20 using Nat.strongRecOn with
      | _ n20 ih14 =>
        intro v5 v6 r12 r13 w
        have w := w18 n20 v5 v6 r12 r13 w
        refine wk_b tt_211 4 (pc' := 243) (ls' := [(0, .inr (.inr (.ref 88))), (1, .inl (b1)), (2, .inl (b2)), (5, .inl (v5)), (6, .inl (v6))]) (st' := [.inl (b2), .inr (.inr (.ref 123)), .inl (v6)]) (σ' := σ) rfl ?_
        refine wk_ia tt_211 rfl rfl c1.1 c1.2 rb2 ?_
        refine wk_if2 tt_211 (tgt := 306) rfl rfl r13 (sg_Rg _ _ _) (fun (h22 : (sg_g σ 123 (b2)) ≤ v6) => ?_) (fun (h22 : v6 < (sg_g σ 123 (b2))) => ?_)
        ·
          have w := w.1 h22
          exact wk_ls [(5, .inl (v5))] rfl ⟨rfl, trivial⟩ (ex21 (v5)  r12  w)
        ·
          have w := w.2 h22
          refine wk_b tt_211 3 (pc' := 251) (ls' := [(0, .inr (.inr (.ref 88))), (1, .inl (b1)), (2, .inl (b2)), (5, .inl (v5)), (6, .inl (v6))]) (st' := [.inl (v6), .inl (b2), .inr (.inr (.ref 88))]) (σ' := σ) rfl ?_
          obtain ⟨c23, w⟩ := w
          refine wk_callp tt_211 rfl rfl rfl rfl rfl tt_270 rfl (by decide) (w_itemAt z σ (b2) (v6) rb2 r13 c23) ?_
          have r24 := vr_itemAt σ  (b2) (v6) rb2 r13 c23
          refine wk_b tt_211 4 (pc' := 261) (ls' := [(7, .inl ((v_itemAt σ (b2) (v6)))), (0, .inr (.inr (.ref 88))), (1, .inl (b1)), (2, .inl (b2)), (5, .inl (v5)), (6, .inl (v6))]) (st' := [.inl (b1), .inr (.inr (.ref 93))]) (σ' := σ) rfl ?_
          obtain ⟨c25, w⟩ := w
          refine wk_ia tt_211 rfl rfl c25.1 c25.2 rb1 ?_
          refine wk_b tt_211 1 (pc' := 264) (ls' := [(7, .inl ((v_itemAt σ (b2) (v6)))), (0, .inr (.inr (.ref 88))), (1, .inl (b1)), (2, .inl (b2)), (5, .inl (v5)), (6, .inl (v6))]) (st' := [.inl (19), .inl ((sg_g σ 93 (b1)))]) (σ' := σ) rfl ?_
          obtain ⟨wp, w⟩ := w
          have jn27 : ∀ v28 : Int, v28 = (if ¬ (sg_g σ 93 (b1)) = 19 then (if v5 ≤ (v_itemAt σ (b2) (v6)) then v5 else (v_itemAt σ (b2) (v6))) else (if (v_itemAt σ (b2) (v6)) ≤ v5 then v5 else (v_itemAt σ (b2) (v6)))) → sg_R v28 → wx z 1 211 298 [(0, .inr (.inr (.ref 88))), (1, .inl (b1)), (2, .inl (b2)), (6, .inl (v6))] [.inl (v28)] σ (fun v σ' => ∃ q, v = some (.inl q) ∧ sg_R q ∧ sg_F [74088] σ σ' ∧ Q q σ') := by
            intro v28 e30 r29
            have w := w v28 e30 r29
            obtain ⟨c31, w⟩ := w
            refine wk_b tt_211 3 (pc' := 236) (ls' := [(6, .inl ((v6 + 1))), (5, .inl (v28)), (0, .inr (.inr (.ref 88))), (1, .inl (b1)), (2, .inl (b2))]) (st' := []) (σ' := σ) rfl ?_
            obtain ⟨m32, hm32, w⟩ := w
            exact wk_ls [(0, .inr (.inr (.ref 88))), (1, .inl (b1)), (2, .inl (b2)), (5, .inl (v28)), (6, .inl ((v6 + 1)))] rfl ⟨rfl, rfl, rfl, rfl, rfl, trivial⟩ (ih14 m32 hm32 (v28) ((v6 + 1))  r29 c31  w)
          have w := wp
          refine wk_if2 tt_211 (tgt := 284) rfl rfl (sg_Rg _ _ _) (by decide) (fun (h26 : ¬ (sg_g σ 93 (b1)) = 19) => ?_) (fun (h26 : (sg_g σ 93 (b1)) = 19) => ?_)
          ·
            have w := w.1 h26
            refine wk_b tt_211 2 (pc' := 288) (ls' := [(7, .inl ((v_itemAt σ (b2) (v6)))), (0, .inr (.inr (.ref 88))), (1, .inl (b1)), (2, .inl (b2)), (5, .inl (v5)), (6, .inl (v6))]) (st' := [.inl (v5), .inl ((v_itemAt σ (b2) (v6)))]) (σ' := σ) rfl ?_
            refine wk_if2 tt_211 (tgt := 296) rfl rfl r24 r12 (fun (h33 : v5 ≤ (v_itemAt σ (b2) (v6))) => ?_) (fun (h33 : (v_itemAt σ (b2) (v6)) < v5) => ?_)
            ·
              have w := w.1 h33
              refine wk_b tt_211 1 (pc' := 298) (ls' := [(7, .inl ((v_itemAt σ (b2) (v6)))), (0, .inr (.inr (.ref 88))), (1, .inl (b1)), (2, .inl (b2)), (5, .inl (v5)), (6, .inl (v6))]) (st' := [.inl (v5)]) (σ' := σ) rfl ?_
              exact wk_ls [(0, .inr (.inr (.ref 88))), (1, .inl (b1)), (2, .inl (b2)), (6, .inl (v6))] rfl ⟨rfl, rfl, rfl, rfl, trivial⟩ (jn27 (v5) (by simp only [if_pos h26, if_pos h33]) r12)
            ·
              have w := w.2 h33
              refine wk_b tt_211 2 (pc' := 298) (ls' := [(7, .inl ((v_itemAt σ (b2) (v6)))), (0, .inr (.inr (.ref 88))), (1, .inl (b1)), (2, .inl (b2)), (5, .inl (v5)), (6, .inl (v6))]) (st' := [.inl ((v_itemAt σ (b2) (v6)))]) (σ' := σ) rfl ?_
              exact wk_ls [(0, .inr (.inr (.ref 88))), (1, .inl (b1)), (2, .inl (b2)), (6, .inl (v6))] rfl ⟨rfl, rfl, rfl, rfl, trivial⟩ (jn27 ((v_itemAt σ (b2) (v6))) (by simp only [if_pos h26, if_neg (show ¬ (v5 ≤ (v_itemAt σ (b2) (v6))) by omega)]) r24)
          ·
            have w := w.2 h26
            refine wk_b tt_211 2 (pc' := 271) (ls' := [(7, .inl ((v_itemAt σ (b2) (v6)))), (0, .inr (.inr (.ref 88))), (1, .inl (b1)), (2, .inl (b2)), (5, .inl (v5)), (6, .inl (v6))]) (st' := [.inl (v5), .inl ((v_itemAt σ (b2) (v6)))]) (σ' := σ) rfl ?_
            refine wk_if2 tt_211 (tgt := 279) rfl rfl r24 r12 (fun (h34 : (v_itemAt σ (b2) (v6)) ≤ v5) => ?_) (fun (h34 : v5 < (v_itemAt σ (b2) (v6))) => ?_)
            ·
              have w := w.1 h34
              refine wk_b tt_211 2 (pc' := 298) (ls' := [(7, .inl ((v_itemAt σ (b2) (v6)))), (0, .inr (.inr (.ref 88))), (1, .inl (b1)), (2, .inl (b2)), (5, .inl (v5)), (6, .inl (v6))]) (st' := [.inl (v5)]) (σ' := σ) rfl ?_
              exact wk_ls [(0, .inr (.inr (.ref 88))), (1, .inl (b1)), (2, .inl (b2)), (6, .inl (v6))] rfl ⟨rfl, rfl, rfl, rfl, trivial⟩ (jn27 (v5) (by simp only [if_neg (show ¬ (¬ (sg_g σ 93 (b1)) = 19) by omega), if_pos h34]) r12)
            ·
              have w := w.2 h34
              refine wk_b tt_211 2 (pc' := 298) (ls' := [(7, .inl ((v_itemAt σ (b2) (v6)))), (0, .inr (.inr (.ref 88))), (1, .inl (b1)), (2, .inl (b2)), (5, .inl (v5)), (6, .inl (v6))]) (st' := [.inl ((v_itemAt σ (b2) (v6)))]) (σ' := σ) rfl ?_
              exact wk_ls [(0, .inr (.inr (.ref 88))), (1, .inl (b1)), (2, .inl (b2)), (6, .inl (v6))] rfl ⟨rfl, rfl, rfl, rfl, trivial⟩ (jn27 ((v_itemAt σ (b2) (v6))) (by simp only [if_neg (show ¬ (¬ (sg_g σ 93 (b1)) = 19) by omega), if_neg (show ¬ ((v_itemAt σ (b2) (v6)) ≤ v5) by omega)]) r24)
    exact wk_ls [(0, .inr (.inr (.ref 88))), (1, .inl (b1)), (2, .inl (b2)), (5, .inl ((v_itemAt σ (b2) (0)))), (6, .inl (1))] rfl ⟨rfl, rfl, rfl, rfl, rfl, trivial⟩ (lp16 μ10 ((v_itemAt σ (b2) (0))) (1)  r4 (by decide)  w17)
  ·
    have w := w.2 h2
    refine wk_b tt_211 2 (pc' := 220) (ls' := [(0, .inr (.inr (.ref 88))), (1, .inl (b1)), (2, .inl (b2))]) (st' := [.inl (4), .inr (.inr (.ref 88))]) (σ' := σ) rfl ?_
    refine wk_call tt_211 rfl rfl rfl rfl rfl tt_224 rfl (by decide) (w_ends z σ (4) _ (by decide) w) (fun u40 σ36 hq38 => ?_)
    obtain ⟨rfl, hF37, w⟩ := hq38
    have w := w hF37
    refine wk_b tt_211 1 (pc' := 224) (ls' := [(0, .inr (.inr (.ref 88))), (1, .inl (b1)), (2, .inl (b2))]) (st' := [.inl (0)]) (σ' := σ36) rfl ?_
    exact wk_rI tt_211 rfl rfl ⟨_, rfl, (by decide), (sg_F_t (sg_F_r [74088] σ) (sg_F_m (L := [74088]) hF37 rfl)), w⟩
