/-! Conditions of the reference's methods, by program (4). -/
-- NestedVectorsModel.acted
def V_acted_21 (σ : sg_S) (b2 : Int) (b4 : Int) (Q : Int → sg_S → Prop) : Prop := (∃ (I5 : Nat → Int → Int → sg_S → Prop) (X7 : sg_S → Prop), (∃ n, I5 n (0) (0) σ) ∧ (∀ (n16 : Nat) (v1 : Int) (v2 : Int) (σ3 : sg_S), sg_R v1 → sg_R v2 → sg_F [125, 61088] σ σ3 → I5 n16 v1 v2 σ3 → (0 ≤ b2 ∧ b2 < 9000) ∧ (((sg_g σ 123 (b2)) ≤ v2 → X7 σ3) ∧ (v2 < (sg_g σ 123 (b2)) → V_add σ3 (v1) (fun σ28 => sg_F [125, 61088] σ3 σ28 → p_itemAt σ28 (b2) (v2) ∧ sg_R (v2 + 1) ∧ (∃ m, m < n16 ∧ I5 m ((sg_n (v1 + (v_itemAt σ28 (b2) (v2))))) ((v2 + 1)) σ28))))) ∧ (∀ (σ3 : sg_S), sg_F [125, 61088] σ σ3 → X7 σ3 → (0 ≤ b2 ∧ b2 < 9000) ∧ V_seq σ3 (b4) ((sg_g σ 123 (b2))) (1) (fun q19 σ20 => sg_R q19 → sg_F [122, 123, 124, 57088] σ3 σ20 → Q (q19) σ20)))
set_option maxHeartbeats 4000000 in
set_option maxRecDepth 8000 in
theorem w_acted_21 (z : Value) (σ : sg_S) (b2 : Int) (b4 : Int) (Q : Int → sg_S → Prop) (rb2 : sg_R b2) (rb4 : sg_R b4) (w : V_acted_21 σ b2 b4 Q) : wx z 1 211 309 [(0, .inr (.inr (.ref 88))), (2, .inl (b2)), (4, .inl (b4)), (5, .inl (0))] [] σ (fun v σ' => ∃ q, v = some (.inl q) ∧ sg_R q ∧ sg_F [122, 123, 124, 125, 57088, 61088] σ σ' ∧ Q q σ') := by
  unfold V_acted_21 at w
  refine wk_b tt_211 2 (pc' := 312) (ls' := [(6, .inl (0)), (0, .inr (.inr (.ref 88))), (2, .inl (b2)), (4, .inl (b4)), (5, .inl (0))]) (st' := []) (σ' := σ) rfl ?_
  obtain ⟨I5, X7, ⟨μ6, w13⟩, w14, w15⟩ := w
  have ex17 : ∀ (σ3 : sg_S), sg_F [125, 61088] σ σ3 → X7 σ3 → wx z 1 211 347 [(0, .inr (.inr (.ref 88))), (2, .inl (b2)), (4, .inl (b4))] [] σ3 (fun v σ' => ∃ q, v = some (.inl q) ∧ sg_R q ∧ sg_F [122, 123, 124, 125, 57088, 61088] σ σ' ∧ Q q σ') := by
    intro σ3 hF4 w
    have w := w15 σ3 hF4 w
    refine wk_b tt_211 5 (pc' := 355) (ls' := [(0, .inr (.inr (.ref 88))), (2, .inl (b2)), (4, .inl (b4))]) (st' := [.inl (b2), .inr (.inr (.ref 123)), .inl (b4), .inr (.inr (.ref 88))]) (σ' := σ3) rfl ?_
    obtain ⟨c18, w⟩ := w
    refine wk_ia tt_211 rfl rfl c18.1 c18.2 rb2 ?_
    rw [show (sg_g σ3 123 (b2)) = (sg_g σ 123 (b2)) from by rw [sg_F_ga hF4 rfl]]
    refine wk_b tt_211 1 (pc' := 357) (ls' := [(0, .inr (.inr (.ref 88))), (2, .inl (b2)), (4, .inl (b4))]) (st' := [.inl (1), .inl ((sg_g σ 123 (b2))), .inl (b4), .inr (.inr (.ref 88))]) (σ' := σ3) rfl ?_
    refine wk_call tt_211 rfl rfl rfl rfl rfl tt_323 rfl (by decide) (w_seq z σ3 (b4) ((sg_g σ 123 (b2))) (1) _ rb4 (sg_Rg _ _ _) (by decide) w) (fun u24 σ20 hq22 => ?_)
    obtain ⟨q19, rfl, r23, hF21, w⟩ := hq22
    have w := w r23 hF21
    exact wk_rI tt_211 rfl rfl ⟨_, rfl, r23, (sg_F_t (sg_F_t (sg_F_r [122, 123, 124, 125, 57088, 61088] σ) (sg_F_m (L := [122, 123, 124, 125, 57088, 61088]) hF4 rfl)) (sg_F_m (L := [122, 123, 124, 125, 57088, 61088]) hF21 rfl)), w⟩
  have lp12 : ∀ (n16 : Nat) (v1 : Int) (v2 : Int) (σ3 : sg_S), sg_R v1 → sg_R v2 → sg_F [125, 61088] σ σ3 → I5 n16 v1 v2 σ3 → wx z 1 211 312 [(0, .inr (.inr (.ref 88))), (2, .inl (b2)), (4, .inl (b4)), (5, .inl (v1)), (6, .inl (v2))] [] σ3 (fun v σ' => ∃ q, v = some (.inl q) ∧ sg_R q ∧ sg_F [122, 123, 124, 125, 57088, 61088] σ σ' ∧ Q q σ') := by
    intro n16
    induction n16 using Nat.strongRecOn with
    | _ n16 ih10 =>
      intro v1 v2 σ3 r8 r9 hF4 w
      have w := w14 n16 v1 v2 σ3 r8 r9 hF4 w
      refine wk_b tt_211 4 (pc' := 319) (ls' := [(0, .inr (.inr (.ref 88))), (2, .inl (b2)), (4, .inl (b4)), (5, .inl (v1)), (6, .inl (v2))]) (st' := [.inl (b2), .inr (.inr (.ref 123)), .inl (v2)]) (σ' := σ3) rfl ?_
      obtain ⟨c25, w⟩ := w
      refine wk_ia tt_211 rfl rfl c25.1 c25.2 rb2 ?_
      rw [show (sg_g σ3 123 (b2)) = (sg_g σ 123 (b2)) from by rw [sg_F_ga hF4 rfl]]
      refine wk_if2 tt_211 (tgt := 347) rfl rfl r9 (sg_Rg _ _ _) (fun (h26 : (sg_g σ 123 (b2)) ≤ v2) => ?_) (fun (h26 : v2 < (sg_g σ 123 (b2))) => ?_)
      ·
        have w := w.1 h26
        exact wk_ls [(0, .inr (.inr (.ref 88))), (2, .inl (b2)), (4, .inl (b4))] rfl ⟨rfl, rfl, rfl, trivial⟩ (ex17  σ3  (sg_F_t (sg_F_r [125, 61088] σ) (sg_F_m (L := [125, 61088]) hF4 rfl)) w)
      ·
        have w := w.2 h26
        refine wk_b tt_211 2 (pc' := 326) (ls' := [(0, .inr (.inr (.ref 88))), (2, .inl (b2)), (4, .inl (b4)), (5, .inl (v1)), (6, .inl (v2))]) (st' := [.inl (v1), .inr (.inr (.ref 88))]) (σ' := σ3) rfl ?_
        refine wk_call tt_211 rfl rfl rfl rfl rfl tt_212 rfl (by decide) (w_add z σ3 (v1) _ r8 w) (fun u32 σ28 hq30 => ?_)
        obtain ⟨rfl, hF29, w⟩ := hq30
        have w := w hF29
        refine wk_b tt_211 4 (pc' := 335) (ls' := [(0, .inr (.inr (.ref 88))), (2, .inl (b2)), (4, .inl (b4)), (5, .inl (v1)), (6, .inl (v2))]) (st' := [.inl (v2), .inl (b2), .inr (.inr (.ref 88)), .inl (v1)]) (σ' := σ28) rfl ?_
        obtain ⟨c33, w⟩ := w
        refine wk_callp tt_211 rfl rfl rfl rfl rfl tt_270 rfl (by decide) (w_itemAt z σ28 (b2) (v2) rb2 r9 c33) ?_
        have r34 := vr_itemAt σ28  (b2) (v2) rb2 r9 c33
        refine wk_b tt_211 1 (pc' := 339) (ls' := [(0, .inr (.inr (.ref 88))), (2, .inl (b2)), (4, .inl (b4)), (5, .inl (v1)), (6, .inl (v2))]) (st' := [.inl ((v1 + (v_itemAt σ28 (b2) (v2))))]) (σ' := σ28) rfl ?_
        refine wk_n ?_
        obtain ⟨c35, w⟩ := w
        refine wk_b tt_211 3 (pc' := 312) (ls' := [(6, .inl ((v2 + 1))), (5, .inl ((sg_n (v1 + (v_itemAt σ28 (b2) (v2)))))), (0, .inr (.inr (.ref 88))), (2, .inl (b2)), (4, .inl (b4))]) (st' := []) (σ' := σ28) rfl ?_
        obtain ⟨m36, hm36, w⟩ := w
        exact wk_ls [(0, .inr (.inr (.ref 88))), (2, .inl (b2)), (4, .inl (b4)), (5, .inl ((sg_n (v1 + (v_itemAt σ28 (b2) (v2)))))), (6, .inl ((v2 + 1)))] rfl ⟨rfl, rfl, rfl, rfl, rfl, trivial⟩ (ih10 m36 hm36 ((sg_n (v1 + (v_itemAt σ28 (b2) (v2))))) ((v2 + 1)) σ28 (sg_Rn _) c35 (sg_F_t (sg_F_t (sg_F_r [125, 61088] σ) (sg_F_m (L := [125, 61088]) hF4 rfl)) (sg_F_m (L := [125, 61088]) hF29 rfl)) w)
  exact wk_ls [(0, .inr (.inr (.ref 88))), (2, .inl (b2)), (4, .inl (b4)), (5, .inl (0)), (6, .inl (0))] rfl ⟨rfl, rfl, rfl, rfl, rfl, trivial⟩ (lp12 μ6 (0) (0) σ (by decide) (by decide) (sg_F_r _ _) w13)
-- NestedVectorsModel.acted
def V_acted_22 (σ : sg_S) (b1 : Int) (b2 : Int) (b4 : Int) (Q : Int → sg_S → Prop) : Prop := (0 ≤ b2 ∧ b2 < 9000) ∧ sg_R ((sg_g σ 123 (b2)) - 1) ∧ (∃ (I6 : Nat → Int → sg_S → Prop) (X8 : sg_S → Prop), (∃ n, I6 n (((sg_g σ 123 (b2)) - 1)) σ) ∧ (∀ (n16 : Nat) (v3 : Int) (σ4 : sg_S), sg_R v3 → sg_F [125, 61088] σ σ4 → I6 n16 v3 σ4 → ((v3 < 0 → X8 σ4) ∧ (0 ≤ v3 → p_itemAt σ4 (b2) (v3) ∧ V_add σ4 ((v_itemAt σ4 (b2) (v3))) (fun σ29 => sg_F [125, 61088] σ4 σ29 → sg_R (v3 + (-1)) ∧ (∃ m, m < n16 ∧ I6 m ((v3 + (-1))) σ29))))) ∧ (∀ (σ4 : sg_S), sg_F [125, 61088] σ σ4 → X8 σ4 → (0 ≤ b1 ∧ b1 < 210) ∧ V_seq σ4 (b4) ((sg_g σ 123 (b2))) ((sg_g σ 101 (b1))) (fun q19 σ20 => sg_R q19 → sg_F [122, 123, 124, 57088] σ4 σ20 → Q (q19) σ20)))
set_option maxHeartbeats 4000000 in
set_option maxRecDepth 8000 in
theorem w_acted_22 (z : Value) (σ : sg_S) (b1 : Int) (b2 : Int) (b4 : Int) (Q : Int → sg_S → Prop) (rb1 : sg_R b1) (rb2 : sg_R b2) (rb4 : sg_R b4) (w : V_acted_22 σ b1 b2 b4 Q) : wx z 1 211 361 [(0, .inr (.inr (.ref 88))), (1, .inl (b1)), (2, .inl (b2)), (4, .inl (b4))] [] σ (fun v σ' => ∃ q, v = some (.inl q) ∧ sg_R q ∧ sg_F [122, 123, 124, 125, 57088, 61088] σ σ' ∧ Q q σ') := by
  unfold V_acted_22 at w
  refine wk_b tt_211 3 (pc' := 366) (ls' := [(0, .inr (.inr (.ref 88))), (1, .inl (b1)), (2, .inl (b2)), (4, .inl (b4))]) (st' := [.inl (b2), .inr (.inr (.ref 123))]) (σ' := σ) rfl ?_
  obtain ⟨c1, w⟩ := w
  refine wk_ia tt_211 rfl rfl c1.1 c1.2 rb2 ?_
  obtain ⟨c2, w⟩ := w
  refine wk_b tt_211 3 (pc' := 371) (ls' := [(6, .inl (((sg_g σ 123 (b2)) - 1))), (0, .inr (.inr (.ref 88))), (1, .inl (b1)), (2, .inl (b2)), (4, .inl (b4))]) (st' := []) (σ' := σ) rfl ?_
  obtain ⟨I6, X8, ⟨μ7, w13⟩, w14, w15⟩ := w
  have ex17 : ∀ (σ4 : sg_S), sg_F [125, 61088] σ σ4 → X8 σ4 → wx z 1 211 393 [(0, .inr (.inr (.ref 88))), (1, .inl (b1)), (2, .inl (b2)), (4, .inl (b4))] [] σ4 (fun v σ' => ∃ q, v = some (.inl q) ∧ sg_R q ∧ sg_F [122, 123, 124, 125, 57088, 61088] σ σ' ∧ Q q σ') := by
    intro σ4 hF5 w
    have w := w15 σ4 hF5 w
    refine wk_b tt_211 5 (pc' := 401) (ls' := [(0, .inr (.inr (.ref 88))), (1, .inl (b1)), (2, .inl (b2)), (4, .inl (b4))]) (st' := [.inl (b2), .inr (.inr (.ref 123)), .inl (b4), .inr (.inr (.ref 88))]) (σ' := σ4) rfl ?_
    refine wk_ia tt_211 rfl rfl c1.1 c1.2 rb2 ?_
    rw [show (sg_g σ4 123 (b2)) = (sg_g σ 123 (b2)) from by rw [sg_F_ga hF5 rfl]]
    refine wk_b tt_211 3 (pc' := 407) (ls' := [(0, .inr (.inr (.ref 88))), (1, .inl (b1)), (2, .inl (b2)), (4, .inl (b4))]) (st' := [.inl (b1), .inr (.inr (.ref 101)), .inl ((sg_g σ 123 (b2))), .inl (b4), .inr (.inr (.ref 88))]) (σ' := σ4) rfl ?_
    obtain ⟨c18, w⟩ := w
    refine wk_ia tt_211 rfl rfl c18.1 c18.2 rb1 ?_
    rw [show (sg_g σ4 101 (b1)) = (sg_g σ 101 (b1)) from by rw [sg_F_ga hF5 rfl]]
    refine wk_call tt_211 rfl rfl rfl rfl rfl tt_323 rfl (by decide) (w_seq z σ4 (b4) ((sg_g σ 123 (b2))) ((sg_g σ 101 (b1))) _ rb4 (sg_Rg _ _ _) (sg_Rg _ _ _) w) (fun u24 σ20 hq22 => ?_)
    obtain ⟨q19, rfl, r23, hF21, w⟩ := hq22
    have w := w r23 hF21
    exact wk_rI tt_211 rfl rfl ⟨_, rfl, r23, (sg_F_t (sg_F_t (sg_F_r [122, 123, 124, 125, 57088, 61088] σ) (sg_F_m (L := [122, 123, 124, 125, 57088, 61088]) hF5 rfl)) (sg_F_m (L := [122, 123, 124, 125, 57088, 61088]) hF21 rfl)), w⟩
  have lp12 : ∀ (n16 : Nat) (v3 : Int) (σ4 : sg_S), sg_R v3 → sg_F [125, 61088] σ σ4 → I6 n16 v3 σ4 → wx z 1 211 371 [(0, .inr (.inr (.ref 88))), (1, .inl (b1)), (2, .inl (b2)), (4, .inl (b4)), (6, .inl (v3))] [] σ4 (fun v σ' => ∃ q, v = some (.inl q) ∧ sg_R q ∧ sg_F [122, 123, 124, 125, 57088, 61088] σ σ' ∧ Q q σ') := by
    intro n16
    induction n16 using Nat.strongRecOn with
    | _ n16 ih10 =>
      intro v3 σ4 r9 hF5 w
      have w := w14 n16 v3 σ4 r9 hF5 w
      refine wk_b tt_211 1 (pc' := 373) (ls' := [(0, .inr (.inr (.ref 88))), (1, .inl (b1)), (2, .inl (b2)), (4, .inl (b4)), (6, .inl (v3))]) (st' := [.inl (v3)]) (σ' := σ4) rfl ?_
      refine wk_if tt_211 (tgt := 393) rfl rfl r9 (fun (h25 : v3 < 0) => ?_) (fun (h25 : 0 ≤ v3) => ?_)
      ·
        have w := w.1 h25
        exact wk_ls [(0, .inr (.inr (.ref 88))), (1, .inl (b1)), (2, .inl (b2)), (4, .inl (b4))] rfl ⟨rfl, rfl, rfl, rfl, trivial⟩ (ex17  σ4  (sg_F_t (sg_F_r [125, 61088] σ) (sg_F_m (L := [125, 61088]) hF5 rfl)) w)
      ·
        have w := w.2 h25
        refine wk_b tt_211 4 (pc' := 381) (ls' := [(0, .inr (.inr (.ref 88))), (1, .inl (b1)), (2, .inl (b2)), (4, .inl (b4)), (6, .inl (v3))]) (st' := [.inl (v3), .inl (b2), .inr (.inr (.ref 88)), .inr (.inr (.ref 88))]) (σ' := σ4) rfl ?_
        obtain ⟨c26, w⟩ := w
        refine wk_callp tt_211 rfl rfl rfl rfl rfl tt_270 rfl (by decide) (w_itemAt z σ4 (b2) (v3) rb2 r9 c26) ?_
        have r27 := vr_itemAt σ4  (b2) (v3) rb2 r9 c26
        refine wk_call tt_211 rfl rfl rfl rfl rfl tt_212 rfl (by decide) (w_add z σ4 ((v_itemAt σ4 (b2) (v3))) _ r27 w) (fun u33 σ29 hq31 => ?_)
        obtain ⟨rfl, hF30, w⟩ := hq31
        have w := w hF30
        obtain ⟨c34, w⟩ := w
        refine wk_b tt_211 2 (pc' := 371) (ls' := [(6, .inl ((v3 + (-1)))), (0, .inr (.inr (.ref 88))), (1, .inl (b1)), (2, .inl (b2)), (4, .inl (b4))]) (st' := []) (σ' := σ29) rfl ?_
        obtain ⟨m35, hm35, w⟩ := w
        exact wk_ls [(0, .inr (.inr (.ref 88))), (1, .inl (b1)), (2, .inl (b2)), (4, .inl (b4)), (6, .inl ((v3 + (-1))))] rfl ⟨rfl, rfl, rfl, rfl, rfl, trivial⟩ (ih10 m35 hm35 ((v3 + (-1))) σ29 c34 (sg_F_t (sg_F_t (sg_F_r [125, 61088] σ) (sg_F_m (L := [125, 61088]) hF5 rfl)) (sg_F_m (L := [125, 61088]) hF30 rfl)) w)
  exact wk_ls [(0, .inr (.inr (.ref 88))), (1, .inl (b1)), (2, .inl (b2)), (4, .inl (b4)), (6, .inl (((sg_g σ 123 (b2)) - 1)))] rfl ⟨rfl, rfl, rfl, rfl, rfl, trivial⟩ (lp12 μ7 (((sg_g σ 123 (b2)) - 1)) σ c2 (sg_F_r _ _) w13)
-- NestedVectorsModel.acted
def V_acted_23 (σ : sg_S) (b1 : Int) (b2 : Int) (b3 : Int) (b4 : Int) (Q : Int → sg_S → Prop) : Prop := (0 ≤ b2 ∧ b2 < 9000) ∧ (0 ≤ b3 ∧ b3 < 9000) ∧ sg_R ((sg_g σ 123 (b2)) + (sg_g σ 123 (b3))) ∧ ((((sg_g σ 123 (b2)) + (sg_g σ 123 (b3))) ≤ 200 → (∃ (I8 : Nat → Int → sg_S → Prop) (X10 : sg_S → Prop), (∃ n, I8 n (0) σ) ∧ (∀ (n18 : Nat) (v5 : Int) (σ6 : sg_S), sg_R v5 → sg_F [125, 61088] σ σ6 → I8 n18 v5 σ6 → ((((sg_g σ 123 (b2)) + (sg_g σ 123 (b3))) ≤ v5 → X10 σ6) ∧ (v5 < ((sg_g σ 123 (b2)) + (sg_g σ 123 (b3))) → (((sg_g σ 123 (b2)) ≤ v5 → sg_R (v5 - (sg_g σ 123 (b2))) ∧ p_itemAt σ6 (b3) ((v5 - (sg_g σ 123 (b2)))) ∧ True) ∧ (v5 < (sg_g σ 123 (b2)) → p_itemAt σ6 (b2) (v5) ∧ True)) ∧ ∀ v30 : Int, v30 = (if (sg_g σ 123 (b2)) ≤ v5 then (v_itemAt σ6 (b3) ((v5 - (sg_g σ 123 (b2))))) else (v_itemAt σ6 (b2) (v5))) → sg_R v30 → V_add σ6 (v30) (fun σ34 => sg_F [125, 61088] σ6 σ34 → sg_R (v5 + 1) ∧ (∃ m, m < n18 ∧ I8 m ((v5 + 1)) σ34))))) ∧ (∀ (σ6 : sg_S), sg_F [125, 61088] σ σ6 → X10 σ6 → (0 ≤ b1 ∧ b1 < 210) ∧ V_seq σ6 (b4) (((sg_g σ 123 (b2)) + (sg_g σ 123 (b3)))) ((sg_g σ 101 (b1))) (fun q21 σ22 => sg_R q21 → sg_F [122, 123, 124, 57088] σ6 σ22 → Q (q21) σ22)))) ∧ (200 < ((sg_g σ 123 (b2)) + (sg_g σ 123 (b3))) → V_ends σ (5) (fun σ47 => sg_F [74088] σ σ47 → Q (0) σ47)))
set_option maxHeartbeats 4000000 in
set_option maxRecDepth 8000 in
theorem w_acted_23 (z : Value) (σ : sg_S) (b1 : Int) (b2 : Int) (b3 : Int) (b4 : Int) (Q : Int → sg_S → Prop) (rb1 : sg_R b1) (rb2 : sg_R b2) (rb3 : sg_R b3) (rb4 : sg_R b4) (w : V_acted_23 σ b1 b2 b3 b4 Q) : wx z 1 211 412 [(0, .inr (.inr (.ref 88))), (1, .inl (b1)), (2, .inl (b2)), (3, .inl (b3)), (4, .inl (b4))] [] σ (fun v σ' => ∃ q, v = some (.inl q) ∧ sg_R q ∧ sg_F [122, 123, 124, 125, 57088, 61088, 74088] σ σ' ∧ Q q σ') := by
  unfold V_acted_23 at w
  refine wk_b tt_211 3 (pc' := 417) (ls' := [(0, .inr (.inr (.ref 88))), (1, .inl (b1)), (2, .inl (b2)), (3, .inl (b3)), (4, .inl (b4))]) (st' := [.inl (b2), .inr (.inr (.ref 123))]) (σ' := σ) rfl ?_
  obtain ⟨c1, w⟩ := w
  refine wk_ia tt_211 rfl rfl c1.1 c1.2 rb2 ?_
  refine wk_b tt_211 3 (pc' := 423) (ls' := [(0, .inr (.inr (.ref 88))), (1, .inl (b1)), (2, .inl (b2)), (3, .inl (b3)), (4, .inl (b4))]) (st' := [.inl (b3), .inr (.inr (.ref 123)), .inl ((sg_g σ 123 (b2)))]) (σ' := σ) rfl ?_
  obtain ⟨c2, w⟩ := w
  refine wk_ia tt_211 rfl rfl c2.1 c2.2 rb3 ?_
  obtain ⟨c3, w⟩ := w
  refine wk_b tt_211 2 (pc' := 428) (ls' := [(0, .inr (.inr (.ref 88))), (1, .inl (b1)), (2, .inl (b2)), (3, .inl (b3)), (4, .inl (b4))]) (st' := [.inl (200), .inl (((sg_g σ 123 (b2)) + (sg_g σ 123 (b3))))]) (σ' := σ) rfl ?_
  refine wk_if2 tt_211 (tgt := 438) rfl rfl c3 (by decide) (fun (h4 : ((sg_g σ 123 (b2)) + (sg_g σ 123 (b3))) ≤ 200) => ?_) (fun (h4 : 200 < ((sg_g σ 123 (b2)) + (sg_g σ 123 (b3)))) => ?_)
  ·
    have w := w.1 h4
    refine wk_b tt_211 2 (pc' := 441) (ls' := [(6, .inl (0)), (0, .inr (.inr (.ref 88))), (1, .inl (b1)), (2, .inl (b2)), (3, .inl (b3)), (4, .inl (b4))]) (st' := []) (σ' := σ) rfl ?_
    obtain ⟨I8, X10, ⟨μ9, w15⟩, w16, w17⟩ := w
    have ex19 : ∀ (σ6 : sg_S), sg_F [125, 61088] σ σ6 → X10 σ6 → wx z 1 211 504 [(0, .inr (.inr (.ref 88))), (1, .inl (b1)), (2, .inl (b2)), (3, .inl (b3)), (4, .inl (b4))] [] σ6 (fun v σ' => ∃ q, v = some (.inl q) ∧ sg_R q ∧ sg_F [122, 123, 124, 125, 57088, 61088, 74088] σ σ' ∧ Q q σ') := by
      intro σ6 hF7 w
      have w := w17 σ6 hF7 w
      refine wk_b tt_211 5 (pc' := 512) (ls' := [(0, .inr (.inr (.ref 88))), (1, .inl (b1)), (2, .inl (b2)), (3, .inl (b3)), (4, .inl (b4))]) (st' := [.inl (b2), .inr (.inr (.ref 123)), .inl (b4), .inr (.inr (.ref 88))]) (σ' := σ6) rfl ?_
      refine wk_ia tt_211 rfl rfl c1.1 c1.2 rb2 ?_
      rw [show (sg_g σ6 123 (b2)) = (sg_g σ 123 (b2)) from by rw [sg_F_ga hF7 rfl]]
      refine wk_b tt_211 3 (pc' := 518) (ls' := [(0, .inr (.inr (.ref 88))), (1, .inl (b1)), (2, .inl (b2)), (3, .inl (b3)), (4, .inl (b4))]) (st' := [.inl (b3), .inr (.inr (.ref 123)), .inl ((sg_g σ 123 (b2))), .inl (b4), .inr (.inr (.ref 88))]) (σ' := σ6) rfl ?_
      refine wk_ia tt_211 rfl rfl c2.1 c2.2 rb3 ?_
      rw [show (sg_g σ6 123 (b3)) = (sg_g σ 123 (b3)) from by rw [sg_F_ga hF7 rfl]]
      refine wk_b tt_211 4 (pc' := 525) (ls' := [(0, .inr (.inr (.ref 88))), (1, .inl (b1)), (2, .inl (b2)), (3, .inl (b3)), (4, .inl (b4))]) (st' := [.inl (b1), .inr (.inr (.ref 101)), .inl (((sg_g σ 123 (b2)) + (sg_g σ 123 (b3)))), .inl (b4), .inr (.inr (.ref 88))]) (σ' := σ6) rfl ?_
      obtain ⟨c20, w⟩ := w
      refine wk_ia tt_211 rfl rfl c20.1 c20.2 rb1 ?_
      rw [show (sg_g σ6 101 (b1)) = (sg_g σ 101 (b1)) from by rw [sg_F_ga hF7 rfl]]
      refine wk_call tt_211 rfl rfl rfl rfl rfl tt_323 rfl (by decide) (w_seq z σ6 (b4) (((sg_g σ 123 (b2)) + (sg_g σ 123 (b3)))) ((sg_g σ 101 (b1))) _ rb4 c3 (sg_Rg _ _ _) w) (fun u26 σ22 hq24 => ?_)
      obtain ⟨q21, rfl, r25, hF23, w⟩ := hq24
      have w := w r25 hF23
      exact wk_rI tt_211 rfl rfl ⟨_, rfl, r25, (sg_F_t (sg_F_t (sg_F_r [122, 123, 124, 125, 57088, 61088, 74088] σ) (sg_F_m (L := [122, 123, 124, 125, 57088, 61088, 74088]) hF7 rfl)) (sg_F_m (L := [122, 123, 124, 125, 57088, 61088, 74088]) hF23 rfl)), w⟩
    have lp14 : ∀ (n18 : Nat) (v5 : Int) (σ6 : sg_S), sg_R v5 → sg_F [125, 61088] σ σ6 → I8 n18 v5 σ6 → wx z 1 211 441 [(0, .inr (.inr (.ref 88))), (1, .inl (b1)), (2, .inl (b2)), (3, .inl (b3)), (4, .inl (b4)), (6, .inl (v5))] [] σ6 (fun v σ' => ∃ q, v = some (.inl q) ∧ sg_R q ∧ sg_F [122, 123, 124, 125, 57088, 61088, 74088] σ σ' ∧ Q q σ') := by
      intro n18
      induction n18 using Nat.strongRecOn with
      | _ n18 ih12 =>
        intro v5 σ6 r11 hF7 w
        have w := w16 n18 v5 σ6 r11 hF7 w
        refine wk_b tt_211 4 (pc' := 448) (ls' := [(0, .inr (.inr (.ref 88))), (1, .inl (b1)), (2, .inl (b2)), (3, .inl (b3)), (4, .inl (b4)), (6, .inl (v5))]) (st' := [.inl (b2), .inr (.inr (.ref 123)), .inl (v5)]) (σ' := σ6) rfl ?_
        refine wk_ia tt_211 rfl rfl c1.1 c1.2 rb2 ?_
        rw [show (sg_g σ6 123 (b2)) = (sg_g σ 123 (b2)) from by rw [sg_F_ga hF7 rfl]]
        refine wk_b tt_211 3 (pc' := 454) (ls' := [(0, .inr (.inr (.ref 88))), (1, .inl (b1)), (2, .inl (b2)), (3, .inl (b3)), (4, .inl (b4)), (6, .inl (v5))]) (st' := [.inl (b3), .inr (.inr (.ref 123)), .inl ((sg_g σ 123 (b2))), .inl (v5)]) (σ' := σ6) rfl ?_
        refine wk_ia tt_211 rfl rfl c2.1 c2.2 rb3 ?_
        rw [show (sg_g σ6 123 (b3)) = (sg_g σ 123 (b3)) from by rw [sg_F_ga hF7 rfl]]
        refine wk_b tt_211 1 (pc' := 456) (ls' := [(0, .inr (.inr (.ref 88))), (1, .inl (b1)), (2, .inl (b2)), (3, .inl (b3)), (4, .inl (b4)), (6, .inl (v5))]) (st' := [.inl (((sg_g σ 123 (b2)) + (sg_g σ 123 (b3)))), .inl (v5)]) (σ' := σ6) rfl ?_
        refine wk_if2 tt_211 (tgt := 504) rfl rfl r11 c3 (fun (h27 : ((sg_g σ 123 (b2)) + (sg_g σ 123 (b3))) ≤ v5) => ?_) (fun (h27 : v5 < ((sg_g σ 123 (b2)) + (sg_g σ 123 (b3)))) => ?_)
        ·
          have w := w.1 h27
          exact wk_ls [(0, .inr (.inr (.ref 88))), (1, .inl (b1)), (2, .inl (b2)), (3, .inl (b3)), (4, .inl (b4))] rfl ⟨rfl, rfl, rfl, rfl, rfl, trivial⟩ (ex19  σ6  (sg_F_t (sg_F_r [125, 61088] σ) (sg_F_m (L := [125, 61088]) hF7 rfl)) w)
        ·
          have w := w.2 h27
          refine wk_b tt_211 5 (pc' := 467) (ls' := [(0, .inr (.inr (.ref 88))), (1, .inl (b1)), (2, .inl (b2)), (3, .inl (b3)), (4, .inl (b4)), (6, .inl (v5))]) (st' := [.inl (b2), .inr (.inr (.ref 123)), .inl (v5), .inr (.inr (.ref 88))]) (σ' := σ6) rfl ?_
          refine wk_ia tt_211 rfl rfl c1.1 c1.2 rb2 ?_
          rw [show (sg_g σ6 123 (b2)) = (sg_g σ 123 (b2)) from by rw [sg_F_ga hF7 rfl]]
          obtain ⟨wp, w⟩ := w
          have jn29 : ∀ v30 : Int, v30 = (if (sg_g σ 123 (b2)) ≤ v5 then (v_itemAt σ6 (b3) ((v5 - (sg_g σ 123 (b2))))) else (v_itemAt σ6 (b2) (v5))) → sg_R v30 → wx z 1 211 495 [(0, .inr (.inr (.ref 88))), (1, .inl (b1)), (2, .inl (b2)), (3, .inl (b3)), (4, .inl (b4)), (6, .inl (v5))] [.inl (v30), .inr (.inr (.ref 88))] σ6 (fun v σ' => ∃ q, v = some (.inl q) ∧ sg_R q ∧ sg_F [122, 123, 124, 125, 57088, 61088, 74088] σ σ' ∧ Q q σ') := by
            intro v30 e32 r31
            have w := w v30 e32 r31
            refine wk_call tt_211 rfl rfl rfl rfl rfl tt_212 rfl (by decide) (w_add z σ6 (v30) _ r31 w) (fun u38 σ34 hq36 => ?_)
            obtain ⟨rfl, hF35, w⟩ := hq36
            have w := w hF35
            obtain ⟨c39, w⟩ := w
            refine wk_b tt_211 2 (pc' := 441) (ls' := [(6, .inl ((v5 + 1))), (0, .inr (.inr (.ref 88))), (1, .inl (b1)), (2, .inl (b2)), (3, .inl (b3)), (4, .inl (b4))]) (st' := []) (σ' := σ34) rfl ?_
            obtain ⟨m40, hm40, w⟩ := w
            exact wk_ls [(0, .inr (.inr (.ref 88))), (1, .inl (b1)), (2, .inl (b2)), (3, .inl (b3)), (4, .inl (b4)), (6, .inl ((v5 + 1)))] rfl ⟨rfl, rfl, rfl, rfl, rfl, rfl, trivial⟩ (ih12 m40 hm40 ((v5 + 1)) σ34 c39 (sg_F_t (sg_F_t (sg_F_r [125, 61088] σ) (sg_F_m (L := [125, 61088]) hF7 rfl)) (sg_F_m (L := [125, 61088]) hF35 rfl)) w)
          have w := wp
          refine wk_if2 tt_211 (tgt := 481) rfl rfl r11 (sg_Rg _ _ _) (fun (h28 : (sg_g σ 123 (b2)) ≤ v5) => ?_) (fun (h28 : v5 < (sg_g σ 123 (b2))) => ?_)
          ·
            have w := w.1 h28
            refine wk_b tt_211 6 (pc' := 490) (ls' := [(0, .inr (.inr (.ref 88))), (1, .inl (b1)), (2, .inl (b2)), (3, .inl (b3)), (4, .inl (b4)), (6, .inl (v5))]) (st' := [.inl (b2), .inr (.inr (.ref 123)), .inl (v5), .inl (b3), .inr (.inr (.ref 88)), .inr (.inr (.ref 88))]) (σ' := σ6) rfl ?_
            refine wk_ia tt_211 rfl rfl c1.1 c1.2 rb2 ?_
            rw [show (sg_g σ6 123 (b2)) = (sg_g σ 123 (b2)) from by rw [sg_F_ga hF7 rfl]]
            obtain ⟨c41, w⟩ := w
            refine wk_b tt_211 1 (pc' := 492) (ls' := [(0, .inr (.inr (.ref 88))), (1, .inl (b1)), (2, .inl (b2)), (3, .inl (b3)), (4, .inl (b4)), (6, .inl (v5))]) (st' := [.inl ((v5 - (sg_g σ 123 (b2)))), .inl (b3), .inr (.inr (.ref 88)), .inr (.inr (.ref 88))]) (σ' := σ6) rfl ?_
            obtain ⟨c42, w⟩ := w
            refine wk_callp tt_211 rfl rfl rfl rfl rfl tt_270 rfl (by decide) (w_itemAt z σ6 (b3) ((v5 - (sg_g σ 123 (b2)))) rb3 c41 c42) ?_
            have r43 := vr_itemAt σ6  (b3) ((v5 - (sg_g σ 123 (b2)))) rb3 c41 c42
            exact wk_ls [(0, .inr (.inr (.ref 88))), (1, .inl (b1)), (2, .inl (b2)), (3, .inl (b3)), (4, .inl (b4)), (6, .inl (v5))] rfl ⟨rfl, rfl, rfl, rfl, rfl, rfl, trivial⟩ (jn29 ((v_itemAt σ6 (b3) ((v5 - (sg_g σ 123 (b2)))))) (by simp only [if_pos h28]) r43)
          ·
            have w := w.2 h28
            refine wk_b tt_211 3 (pc' := 475) (ls' := [(0, .inr (.inr (.ref 88))), (1, .inl (b1)), (2, .inl (b2)), (3, .inl (b3)), (4, .inl (b4)), (6, .inl (v5))]) (st' := [.inl (v5), .inl (b2), .inr (.inr (.ref 88)), .inr (.inr (.ref 88))]) (σ' := σ6) rfl ?_
            obtain ⟨c44, w⟩ := w
            refine wk_callp tt_211 rfl rfl rfl rfl rfl tt_270 rfl (by decide) (w_itemAt z σ6 (b2) (v5) rb2 r11 c44) ?_
            have r45 := vr_itemAt σ6  (b2) (v5) rb2 r11 c44
            refine wk_b tt_211 1 (pc' := 495) (ls' := [(0, .inr (.inr (.ref 88))), (1, .inl (b1)), (2, .inl (b2)), (3, .inl (b3)), (4, .inl (b4)), (6, .inl (v5))]) (st' := [.inl ((v_itemAt σ6 (b2) (v5))), .inr (.inr (.ref 88))]) (σ' := σ6) rfl ?_
            exact wk_ls [(0, .inr (.inr (.ref 88))), (1, .inl (b1)), (2, .inl (b2)), (3, .inl (b3)), (4, .inl (b4)), (6, .inl (v5))] rfl ⟨rfl, rfl, rfl, rfl, rfl, rfl, trivial⟩ (jn29 ((v_itemAt σ6 (b2) (v5))) (by simp only [if_neg (show ¬ ((sg_g σ 123 (b2)) ≤ v5) by omega)]) r45)
    exact wk_ls [(0, .inr (.inr (.ref 88))), (1, .inl (b1)), (2, .inl (b2)), (3, .inl (b3)), (4, .inl (b4)), (6, .inl (0))] rfl ⟨rfl, rfl, rfl, rfl, rfl, rfl, trivial⟩ (lp14 μ9 (0) σ (by decide) (sg_F_r _ _) w15)
  ·
    have w := w.2 h4
    refine wk_b tt_211 2 (pc' := 433) (ls' := [(0, .inr (.inr (.ref 88))), (1, .inl (b1)), (2, .inl (b2)), (3, .inl (b3)), (4, .inl (b4))]) (st' := [.inl (5), .inr (.inr (.ref 88))]) (σ' := σ) rfl ?_
    refine wk_call tt_211 rfl rfl rfl rfl rfl tt_224 rfl (by decide) (w_ends z σ (5) _ (by decide) w) (fun u51 σ47 hq49 => ?_)
    obtain ⟨rfl, hF48, w⟩ := hq49
    have w := w hF48
    refine wk_b tt_211 1 (pc' := 437) (ls' := [(0, .inr (.inr (.ref 88))), (1, .inl (b1)), (2, .inl (b2)), (3, .inl (b3)), (4, .inl (b4))]) (st' := [.inl (0)]) (σ' := σ47) rfl ?_
    exact wk_rI tt_211 rfl rfl ⟨_, rfl, (by decide), (sg_F_t (sg_F_r [122, 123, 124, 125, 57088, 61088, 74088] σ) (sg_F_m (L := [122, 123, 124, 125, 57088, 61088, 74088]) hF48 rfl)), w⟩
-- NestedVectorsModel.flattened
def V_flattened (σ : sg_S) (a1 : Int) (a2 : Int) (Q : Int → sg_S → Prop) : Prop := (∃ (I5 : Nat → Int → Int → Prop) (X7 : Int → Prop), (∃ n, I5 n (0) (0)) ∧ (∀ (n16 : Nat) (v1 : Int) (v2 : Int), sg_R v1 → sg_R v2 → I5 n16 v1 v2 → (0 ≤ a2 ∧ a2 < 9000) ∧ (((sg_g σ 123 (a2)) ≤ v2 → X7 (v1)) ∧ (v2 < (sg_g σ 123 (a2)) → p_itemAt σ (a2) (v2) ∧ (0 ≤ (v_itemAt σ (a2) (v2)) ∧ (v_itemAt σ (a2) (v2)) < 9000) ∧ sg_R (v1 + (sg_g σ 123 ((v_itemAt σ (a2) (v2))))) ∧ sg_R (v2 + 1) ∧ (∃ m, m < n16 ∧ I5 m ((v1 + (sg_g σ 123 ((v_itemAt σ (a2) (v2)))))) ((v2 + 1)))))) ∧ (∀ (v1 : Int), sg_R v1 → X7 v1 → ((v1 ≤ 200 → (∃ (I22 : Nat → Int → sg_S → Prop) (X24 : sg_S → Prop), (∃ n, I22 n (0) σ) ∧ (∀ (n32 : Nat) (v19 : Int) (σ20 : sg_S), sg_R v19 → sg_F [125, 61088] σ σ20 → I22 n32 v19 σ20 → (0 ≤ a2 ∧ a2 < 9000) ∧ (((sg_g σ 123 (a2)) ≤ v19 → X24 σ20) ∧ (v19 < (sg_g σ 123 (a2)) → p_itemAt σ20 (a2) (v19) ∧ (∃ (I48 : Nat → Int → sg_S → Prop) (X50 : sg_S → Prop), (∃ n, I48 n (0) σ20) ∧ (∀ (n58 : Nat) (v45 : Int) (σ46 : sg_S), sg_R v45 → sg_F [125, 61088] σ20 σ46 → I48 n58 v45 σ46 → (0 ≤ (v_itemAt σ20 (a2) (v19)) ∧ (v_itemAt σ20 (a2) (v19)) < 9000) ∧ (((sg_g σ 123 ((v_itemAt σ20 (a2) (v19)))) ≤ v45 → X50 σ46) ∧ (v45 < (sg_g σ 123 ((v_itemAt σ20 (a2) (v19)))) → p_itemAt σ46 ((v_itemAt σ20 (a2) (v19))) (v45) ∧ V_add σ46 ((v_itemAt σ46 ((v_itemAt σ20 (a2) (v19))) (v45))) (fun σ67 => sg_F [125, 61088] σ46 σ67 → sg_R (v45 + 1) ∧ (∃ m, m < n58 ∧ I48 m ((v45 + 1)) σ67))))) ∧ (∀ (σ46 : sg_S), sg_F [125, 61088] σ20 σ46 → X50 σ46 → sg_R (v19 + 1) ∧ (∃ m, m < n32 ∧ I22 m ((v19 + 1)) σ46)))))) ∧ (∀ (σ20 : sg_S), sg_F [125, 61088] σ σ20 → X24 σ20 → (0 ≤ a1 ∧ a1 < 210) ∧ V_seq σ20 ((sg_g σ 88 60)) (v1) ((sg_g σ 101 (a1))) (fun q35 σ36 => sg_R q35 → sg_F [122, 123, 124, 57088] σ20 σ36 → Q (q35) σ36)))) ∧ (200 < v1 → V_ends σ (5) (fun σ75 => sg_F [74088] σ σ75 → Q (0) σ75)))))
set_option maxHeartbeats 4000000 in
set_option maxRecDepth 8000 in
theorem w_flattened (z : Value) (σ : sg_S) (a1 : Int) (a2 : Int) (Q : Int → sg_S → Prop) (ra1 : sg_R a1) (ra2 : sg_R a2) (w : V_flattened σ a1 a2 Q) : wx z 1 247 0 [(0, .inr (.inr (.ref 88))), (1, .inl (a1)), (2, .inl (a2))] [] σ (fun v σ' => ∃ q, v = some (.inl q) ∧ sg_R q ∧ sg_F [122, 123, 124, 125, 57088, 61088, 74088] σ σ' ∧ Q q σ') := by
  unfold V_flattened at w
  refine wk_b tt_247 7 (pc' := 11) (ls' := [(5, .inl (0)), (4, .inl (0)), (3, .inl ((sg_g σ 88 60))), (0, .inr (.inr (.ref 88))), (1, .inl (a1)), (2, .inl (a2))]) (st' := []) (σ' := σ) rfl ?_
  obtain ⟨I5, X7, ⟨μ6, w13⟩, w14, w15⟩ := w
  have ex17 : ∀ (v1 : Int), sg_R v1 → X7 v1 → wx z 1 247 45 [(0, .inr (.inr (.ref 88))), (1, .inl (a1)), (2, .inl (a2)), (3, .inl ((sg_g σ 88 60))), (4, .inl (v1))] [] σ (fun v σ' => ∃ q, v = some (.inl q) ∧ sg_R q ∧ sg_F [122, 123, 124, 125, 57088, 61088, 74088] σ σ' ∧ Q q σ') := by
    intro v1 r8 w
    have w := w15 v1 r8 w
    refine wk_b tt_247 2 (pc' := 50) (ls' := [(0, .inr (.inr (.ref 88))), (1, .inl (a1)), (2, .inl (a2)), (3, .inl ((sg_g σ 88 60))), (4, .inl (v1))]) (st' := [.inl (200), .inl (v1)]) (σ' := σ) rfl ?_
    refine wk_if2 tt_247 (tgt := 60) rfl rfl r8 (by decide) (fun (h18 : v1 ≤ 200) => ?_) (fun (h18 : 200 < v1) => ?_)
    ·
      have w := w.1 h18
      refine wk_b tt_247 2 (pc' := 63) (ls' := [(5, .inl (0)), (0, .inr (.inr (.ref 88))), (1, .inl (a1)), (2, .inl (a2)), (3, .inl ((sg_g σ 88 60))), (4, .inl (v1))]) (st' := []) (σ' := σ) rfl ?_
      obtain ⟨I22, X24, ⟨μ23, w29⟩, w30, w31⟩ := w
      have ex33 : ∀ (σ20 : sg_S), sg_F [125, 61088] σ σ20 → X24 σ20 → wx z 1 247 122 [(0, .inr (.inr (.ref 88))), (1, .inl (a1)), (3, .inl ((sg_g σ 88 60))), (4, .inl (v1))] [] σ20 (fun v σ' => ∃ q, v = some (.inl q) ∧ sg_R q ∧ sg_F [122, 123, 124, 125, 57088, 61088, 74088] σ σ' ∧ Q q σ') := by
        intro σ20 hF21 w
        have w := w31 σ20 hF21 w
        refine wk_b tt_247 6 (pc' := 131) (ls' := [(0, .inr (.inr (.ref 88))), (1, .inl (a1)), (3, .inl ((sg_g σ 88 60))), (4, .inl (v1))]) (st' := [.inl (a1), .inr (.inr (.ref 101)), .inl (v1), .inl ((sg_g σ 88 60)), .inr (.inr (.ref 88))]) (σ' := σ20) rfl ?_
        obtain ⟨c34, w⟩ := w
        refine wk_ia tt_247 rfl rfl c34.1 c34.2 ra1 ?_
        rw [show (sg_g σ20 101 (a1)) = (sg_g σ 101 (a1)) from by rw [sg_F_ga hF21 rfl]]
        refine wk_call tt_247 rfl rfl rfl rfl rfl tt_323 rfl (by decide) (w_seq z σ20 ((sg_g σ 88 60)) (v1) ((sg_g σ 101 (a1))) _ (sg_Rg _ _ _) r8 (sg_Rg _ _ _) w) (fun u40 σ36 hq38 => ?_)
        obtain ⟨q35, rfl, r39, hF37, w⟩ := hq38
        have w := w r39 hF37
        exact wk_rI tt_247 rfl rfl ⟨_, rfl, r39, (sg_F_t (sg_F_t (sg_F_r [122, 123, 124, 125, 57088, 61088, 74088] σ) (sg_F_m (L := [122, 123, 124, 125, 57088, 61088, 74088]) hF21 rfl)) (sg_F_m (L := [122, 123, 124, 125, 57088, 61088, 74088]) hF37 rfl)), w⟩
      have lp28 : ∀ (n32 : Nat) (v19 : Int) (σ20 : sg_S), sg_R v19 → sg_F [125, 61088] σ σ20 → I22 n32 v19 σ20 → wx z 1 247 63 [(0, .inr (.inr (.ref 88))), (1, .inl (a1)), (2, .inl (a2)), (3, .inl ((sg_g σ 88 60))), (4, .inl (v1)), (5, .inl (v19))] [] σ20 (fun v σ' => ∃ q, v = some (.inl q) ∧ sg_R q ∧ sg_F [122, 123, 124, 125, 57088, 61088, 74088] σ σ' ∧ Q q σ') := by
        intro n32
        induction n32 using Nat.strongRecOn with
        | _ n32 ih26 =>
          intro v19 σ20 r25 hF21 w
          have w := w30 n32 v19 σ20 r25 hF21 w
          refine wk_b tt_247 4 (pc' := 70) (ls' := [(0, .inr (.inr (.ref 88))), (1, .inl (a1)), (2, .inl (a2)), (3, .inl ((sg_g σ 88 60))), (4, .inl (v1)), (5, .inl (v19))]) (st' := [.inl (a2), .inr (.inr (.ref 123)), .inl (v19)]) (σ' := σ20) rfl ?_
          obtain ⟨c41, w⟩ := w
          refine wk_ia tt_247 rfl rfl c41.1 c41.2 ra2 ?_
          rw [show (sg_g σ20 123 (a2)) = (sg_g σ 123 (a2)) from by rw [sg_F_ga hF21 rfl]]
          refine wk_if2 tt_247 (tgt := 122) rfl rfl r25 (sg_Rg _ _ _) (fun (h42 : (sg_g σ 123 (a2)) ≤ v19) => ?_) (fun (h42 : v19 < (sg_g σ 123 (a2))) => ?_)
          ·
            have w := w.1 h42
            exact wk_ls [(0, .inr (.inr (.ref 88))), (1, .inl (a1)), (3, .inl ((sg_g σ 88 60))), (4, .inl (v1))] rfl ⟨rfl, rfl, rfl, rfl, trivial⟩ (ex33  σ20  (sg_F_t (sg_F_r [125, 61088] σ) (sg_F_m (L := [125, 61088]) hF21 rfl)) w)
          ·
            have w := w.2 h42
            refine wk_b tt_247 3 (pc' := 78) (ls' := [(0, .inr (.inr (.ref 88))), (1, .inl (a1)), (2, .inl (a2)), (3, .inl ((sg_g σ 88 60))), (4, .inl (v1)), (5, .inl (v19))]) (st' := [.inl (v19), .inl (a2), .inr (.inr (.ref 88))]) (σ' := σ20) rfl ?_
            obtain ⟨c43, w⟩ := w
            refine wk_callp tt_247 rfl rfl rfl rfl rfl tt_270 rfl (by decide) (w_itemAt z σ20 (a2) (v19) ra2 r25 c43) ?_
            have r44 := vr_itemAt σ20  (a2) (v19) ra2 r25 c43
            refine wk_b tt_247 3 (pc' := 86) (ls' := [(7, .inl (0)), (6, .inl ((v_itemAt σ20 (a2) (v19)))), (0, .inr (.inr (.ref 88))), (1, .inl (a1)), (2, .inl (a2)), (3, .inl ((sg_g σ 88 60))), (4, .inl (v1)), (5, .inl (v19))]) (st' := []) (σ' := σ20) rfl ?_
            obtain ⟨I48, X50, ⟨μ49, w55⟩, w56, w57⟩ := w
            have ex59 : ∀ (σ46 : sg_S), sg_F [125, 61088] σ20 σ46 → X50 σ46 → wx z 1 247 116 [(0, .inr (.inr (.ref 88))), (1, .inl (a1)), (2, .inl (a2)), (3, .inl ((sg_g σ 88 60))), (4, .inl (v1)), (5, .inl (v19))] [] σ46 (fun v σ' => ∃ q, v = some (.inl q) ∧ sg_R q ∧ sg_F [122, 123, 124, 125, 57088, 61088, 74088] σ σ' ∧ Q q σ') := by
              intro σ46 hF47 w
              have w := w57 σ46 hF47 w
              obtain ⟨c60, w⟩ := w
              refine wk_b tt_247 2 (pc' := 63) (ls' := [(5, .inl ((v19 + 1))), (0, .inr (.inr (.ref 88))), (1, .inl (a1)), (2, .inl (a2)), (3, .inl ((sg_g σ 88 60))), (4, .inl (v1))]) (st' := []) (σ' := σ46) rfl ?_
              obtain ⟨m61, hm61, w⟩ := w
              exact wk_ls [(0, .inr (.inr (.ref 88))), (1, .inl (a1)), (2, .inl (a2)), (3, .inl ((sg_g σ 88 60))), (4, .inl (v1)), (5, .inl ((v19 + 1)))] rfl ⟨rfl, rfl, rfl, rfl, rfl, rfl, trivial⟩ (ih26 m61 hm61 ((v19 + 1)) σ46 c60 (sg_F_t (sg_F_t (sg_F_r [125, 61088] σ) (sg_F_m (L := [125, 61088]) hF21 rfl)) (sg_F_m (L := [125, 61088]) hF47 rfl)) w)
            have lp54 : ∀ (n58 : Nat) (v45 : Int) (σ46 : sg_S), sg_R v45 → sg_F [125, 61088] σ20 σ46 → I48 n58 v45 σ46 → wx z 1 247 86 [(0, .inr (.inr (.ref 88))), (1, .inl (a1)), (2, .inl (a2)), (3, .inl ((sg_g σ 88 60))), (4, .inl (v1)), (5, .inl (v19)), (6, .inl ((v_itemAt σ20 (a2) (v19)))), (7, .inl (v45))] [] σ46 (fun v σ' => ∃ q, v = some (.inl q) ∧ sg_R q ∧ sg_F [122, 123, 124, 125, 57088, 61088, 74088] σ σ' ∧ Q q σ') := by
              intro n58
              induction n58 using Nat.strongRecOn with
              | _ n58 ih52 =>
                intro v45 σ46 r51 hF47 w
                have w := w56 n58 v45 σ46 r51 hF47 w
                refine wk_b tt_247 4 (pc' := 94) (ls' := [(0, .inr (.inr (.ref 88))), (1, .inl (a1)), (2, .inl (a2)), (3, .inl ((sg_g σ 88 60))), (4, .inl (v1)), (5, .inl (v19)), (6, .inl ((v_itemAt σ20 (a2) (v19)))), (7, .inl (v45))]) (st' := [.inl ((v_itemAt σ20 (a2) (v19))), .inr (.inr (.ref 123)), .inl (v45)]) (σ' := σ46) rfl ?_
                obtain ⟨c62, w⟩ := w
                refine wk_ia tt_247 rfl rfl c62.1 c62.2 r44 ?_
                rw [show (sg_g σ46 123 ((v_itemAt σ20 (a2) (v19)))) = (sg_g σ 123 ((v_itemAt σ20 (a2) (v19)))) from by rw [sg_F_ga hF47 rfl, sg_F_ga hF21 rfl]]
                refine wk_if2 tt_247 (tgt := 116) rfl rfl r51 (sg_Rg _ _ _) (fun (h63 : (sg_g σ 123 ((v_itemAt σ20 (a2) (v19)))) ≤ v45) => ?_) (fun (h63 : v45 < (sg_g σ 123 ((v_itemAt σ20 (a2) (v19))))) => ?_)
                ·
                  have w := w.1 h63
                  exact wk_ls [(0, .inr (.inr (.ref 88))), (1, .inl (a1)), (2, .inl (a2)), (3, .inl ((sg_g σ 88 60))), (4, .inl (v1)), (5, .inl (v19))] rfl ⟨rfl, rfl, rfl, rfl, rfl, rfl, trivial⟩ (ex59  σ46  (sg_F_t (sg_F_r [125, 61088] σ20) (sg_F_m (L := [125, 61088]) hF47 rfl)) w)
                ·
                  have w := w.2 h63
                  refine wk_b tt_247 4 (pc' := 104) (ls' := [(0, .inr (.inr (.ref 88))), (1, .inl (a1)), (2, .inl (a2)), (3, .inl ((sg_g σ 88 60))), (4, .inl (v1)), (5, .inl (v19)), (6, .inl ((v_itemAt σ20 (a2) (v19)))), (7, .inl (v45))]) (st' := [.inl (v45), .inl ((v_itemAt σ20 (a2) (v19))), .inr (.inr (.ref 88)), .inr (.inr (.ref 88))]) (σ' := σ46) rfl ?_
                  obtain ⟨c64, w⟩ := w
                  refine wk_callp tt_247 rfl rfl rfl rfl rfl tt_270 rfl (by decide) (w_itemAt z σ46 ((v_itemAt σ20 (a2) (v19))) (v45) r44 r51 c64) ?_
                  have r65 := vr_itemAt σ46  ((v_itemAt σ20 (a2) (v19))) (v45) r44 r51 c64
                  refine wk_call tt_247 rfl rfl rfl rfl rfl tt_212 rfl (by decide) (w_add z σ46 ((v_itemAt σ46 ((v_itemAt σ20 (a2) (v19))) (v45))) _ r65 w) (fun u71 σ67 hq69 => ?_)
                  obtain ⟨rfl, hF68, w⟩ := hq69
                  have w := w hF68
                  obtain ⟨c72, w⟩ := w
                  refine wk_b tt_247 2 (pc' := 86) (ls' := [(7, .inl ((v45 + 1))), (0, .inr (.inr (.ref 88))), (1, .inl (a1)), (2, .inl (a2)), (3, .inl ((sg_g σ 88 60))), (4, .inl (v1)), (5, .inl (v19)), (6, .inl ((v_itemAt σ20 (a2) (v19))))]) (st' := []) (σ' := σ67) rfl ?_
                  obtain ⟨m73, hm73, w⟩ := w
                  exact wk_ls [(0, .inr (.inr (.ref 88))), (1, .inl (a1)), (2, .inl (a2)), (3, .inl ((sg_g σ 88 60))), (4, .inl (v1)), (5, .inl (v19)), (6, .inl ((v_itemAt σ20 (a2) (v19)))), (7, .inl ((v45 + 1)))] rfl ⟨rfl, rfl, rfl, rfl, rfl, rfl, rfl, rfl, trivial⟩ (ih52 m73 hm73 ((v45 + 1)) σ67 c72 (sg_F_t (sg_F_t (sg_F_r [125, 61088] σ20) (sg_F_m (L := [125, 61088]) hF47 rfl)) (sg_F_m (L := [125, 61088]) hF68 rfl)) w)
            exact wk_ls [(0, .inr (.inr (.ref 88))), (1, .inl (a1)), (2, .inl (a2)), (3, .inl ((sg_g σ 88 60))), (4, .inl (v1)), (5, .inl (v19)), (6, .inl ((v_itemAt σ20 (a2) (v19)))), (7, .inl (0))] rfl ⟨rfl, rfl, rfl, rfl, rfl, rfl, rfl, rfl, trivial⟩ (lp54 μ49 (0) σ20 (by decide) (sg_F_r _ _) w55)
      exact wk_ls [(0, .inr (.inr (.ref 88))), (1, .inl (a1)), (2, .inl (a2)), (3, .inl ((sg_g σ 88 60))), (4, .inl (v1)), (5, .inl (0))] rfl ⟨rfl, rfl, rfl, rfl, rfl, rfl, trivial⟩ (lp28 μ23 (0) σ (by decide) (sg_F_r _ _) w29)
    ·
      have w := w.2 h18
      refine wk_b tt_247 2 (pc' := 55) (ls' := [(0, .inr (.inr (.ref 88))), (1, .inl (a1)), (2, .inl (a2)), (3, .inl ((sg_g σ 88 60))), (4, .inl (v1))]) (st' := [.inl (5), .inr (.inr (.ref 88))]) (σ' := σ) rfl ?_
      refine wk_call tt_247 rfl rfl rfl rfl rfl tt_224 rfl (by decide) (w_ends z σ (5) _ (by decide) w) (fun u79 σ75 hq77 => ?_)
      obtain ⟨rfl, hF76, w⟩ := hq77
      have w := w hF76
      refine wk_b tt_247 1 (pc' := 59) (ls' := [(0, .inr (.inr (.ref 88))), (1, .inl (a1)), (2, .inl (a2)), (3, .inl ((sg_g σ 88 60))), (4, .inl (v1))]) (st' := [.inl (0)]) (σ' := σ75) rfl ?_
      exact wk_rI tt_247 rfl rfl ⟨_, rfl, (by decide), (sg_F_t (sg_F_r [122, 123, 124, 125, 57088, 61088, 74088] σ) (sg_F_m (L := [122, 123, 124, 125, 57088, 61088, 74088]) hF76 rfl)), w⟩
  have lp12 : ∀ (n16 : Nat) (v1 : Int) (v2 : Int), sg_R v1 → sg_R v2 → I5 n16 v1 v2 → wx z 1 247 11 [(0, .inr (.inr (.ref 88))), (1, .inl (a1)), (2, .inl (a2)), (3, .inl ((sg_g σ 88 60))), (4, .inl (v1)), (5, .inl (v2))] [] σ (fun v σ' => ∃ q, v = some (.inl q) ∧ sg_R q ∧ sg_F [122, 123, 124, 125, 57088, 61088, 74088] σ σ' ∧ Q q σ') := by
    intro n16
    induction n16 using Nat.strongRecOn with
    | _ n16 ih10 =>
      intro v1 v2 r8 r9 w
      have w := w14 n16 v1 v2 r8 r9 w
      refine wk_b tt_247 4 (pc' := 18) (ls' := [(0, .inr (.inr (.ref 88))), (1, .inl (a1)), (2, .inl (a2)), (3, .inl ((sg_g σ 88 60))), (4, .inl (v1)), (5, .inl (v2))]) (st' := [.inl (a2), .inr (.inr (.ref 123)), .inl (v2)]) (σ' := σ) rfl ?_
      obtain ⟨c80, w⟩ := w
      refine wk_ia tt_247 rfl rfl c80.1 c80.2 ra2 ?_
      refine wk_if2 tt_247 (tgt := 45) rfl rfl r9 (sg_Rg _ _ _) (fun (h81 : (sg_g σ 123 (a2)) ≤ v2) => ?_) (fun (h81 : v2 < (sg_g σ 123 (a2))) => ?_)
      ·
        have w := w.1 h81
        exact wk_ls [(0, .inr (.inr (.ref 88))), (1, .inl (a1)), (2, .inl (a2)), (3, .inl ((sg_g σ 88 60))), (4, .inl (v1))] rfl ⟨rfl, rfl, rfl, rfl, rfl, trivial⟩ (ex17 (v1)  r8  w)
      ·
        have w := w.2 h81
        refine wk_b tt_247 6 (pc' := 32) (ls' := [(0, .inr (.inr (.ref 88))), (1, .inl (a1)), (2, .inl (a2)), (3, .inl ((sg_g σ 88 60))), (4, .inl (v1)), (5, .inl (v2))]) (st' := [.inl (v2), .inl (a2), .inr (.inr (.ref 88)), .inr (.inr (.ref 123)), .inl (v1)]) (σ' := σ) rfl ?_
        obtain ⟨c82, w⟩ := w
        refine wk_callp tt_247 rfl rfl rfl rfl rfl tt_270 rfl (by decide) (w_itemAt z σ (a2) (v2) ra2 r9 c82) ?_
        have r83 := vr_itemAt σ  (a2) (v2) ra2 r9 c82
        obtain ⟨c84, w⟩ := w
        refine wk_ia tt_247 rfl rfl c84.1 c84.2 r83 ?_
        obtain ⟨c85, w⟩ := w
        obtain ⟨c86, w⟩ := w
        refine wk_b tt_247 4 (pc' := 11) (ls' := [(5, .inl ((v2 + 1))), (4, .inl ((v1 + (sg_g σ 123 ((v_itemAt σ (a2) (v2))))))), (0, .inr (.inr (.ref 88))), (1, .inl (a1)), (2, .inl (a2)), (3, .inl ((sg_g σ 88 60)))]) (st' := []) (σ' := σ) rfl ?_
        obtain ⟨m87, hm87, w⟩ := w
        exact wk_ls [(0, .inr (.inr (.ref 88))), (1, .inl (a1)), (2, .inl (a2)), (3, .inl ((sg_g σ 88 60))), (4, .inl ((v1 + (sg_g σ 123 ((v_itemAt σ (a2) (v2))))))), (5, .inl ((v2 + 1)))] rfl ⟨rfl, rfl, rfl, rfl, rfl, rfl, trivial⟩ (ih10 m87 hm87 ((v1 + (sg_g σ 123 ((v_itemAt σ (a2) (v2)))))) ((v2 + 1))  c85 c86  w)
  exact wk_ls [(0, .inr (.inr (.ref 88))), (1, .inl (a1)), (2, .inl (a2)), (3, .inl ((sg_g σ 88 60))), (4, .inl (0)), (5, .inl (0))] rfl ⟨rfl, rfl, rfl, rfl, rfl, rfl, trivial⟩ (lp12 μ6 (0) (0)  (by decide) (by decide)  w13)
-- NestedVectorsModel.acted
def V_acted_24 (σ : sg_S) (b1 : Int) (b2 : Int) (Q : Int → sg_S → Prop) : Prop := V_flattened σ (b1) (b2) (fun q1 σ2 => sg_R q1 → sg_F [122, 123, 124, 125, 57088, 61088, 74088] σ σ2 → Q (q1) σ2)
set_option maxHeartbeats 4000000 in
set_option maxRecDepth 8000 in
theorem w_acted_24 (z : Value) (σ : sg_S) (b1 : Int) (b2 : Int) (Q : Int → sg_S → Prop) (rb1 : sg_R b1) (rb2 : sg_R b2) (w : V_acted_24 σ b1 b2 Q) : wx z 2 211 530 [(0, .inr (.inr (.ref 88))), (1, .inl (b1)), (2, .inl (b2))] [] σ (fun v σ' => ∃ q, v = some (.inl q) ∧ sg_R q ∧ sg_F [122, 123, 124, 125, 57088, 61088, 74088] σ σ' ∧ Q q σ') := by
  unfold V_acted_24 at w
  refine wk_b tt_211 3 (pc' := 533) (ls' := [(0, .inr (.inr (.ref 88))), (1, .inl (b1)), (2, .inl (b2))]) (st' := [.inl (b2), .inl (b1), .inr (.inr (.ref 88))]) (σ' := σ) rfl ?_
  refine wk_call tt_211 rfl rfl rfl rfl rfl tt_247 rfl (by decide) (w_flattened z σ (b1) (b2) _ rb1 rb2 w) (fun u6 σ2 hq4 => ?_)
  obtain ⟨q1, rfl, r5, hF3, w⟩ := hq4
  have w := w r5 hF3
  exact wk_rI tt_211 rfl rfl ⟨_, rfl, r5, (sg_F_t (sg_F_r [122, 123, 124, 125, 57088, 61088, 74088] σ) (sg_F_m (L := [122, 123, 124, 125, 57088, 61088, 74088]) hF3 rfl)), w⟩
-- NestedVectorsModel.acted
def V_acted_25 (σ : sg_S) (b1 : Int) (b2 : Int) (b3 : Int) (b4 : Int) (Q : Int → sg_S → Prop) : Prop := (0 ≤ b2 ∧ b2 < 9000) ∧ (0 ≤ b3 ∧ b3 < 9000) ∧ (((sg_g σ 123 (b2)) = (sg_g σ 123 (b3)) → (∃ (I7 : Nat → Int → sg_S → Prop) (X9 : sg_S → Prop), (∃ n, I7 n (0) σ) ∧ (∀ (n17 : Nat) (v4 : Int) (σ5 : sg_S), sg_R v4 → sg_F [125, 61088] σ σ5 → I7 n17 v4 σ5 → (((sg_g σ 123 (b2)) ≤ v4 → X9 σ5) ∧ (v4 < (sg_g σ 123 (b2)) → p_itemAt σ5 (b3) (v4) ∧ (∃ P32 : sg_S → Prop, (((v_itemAt σ5 (b3) (v4)) = 0 → P32 σ5) ∧ (¬ (v_itemAt σ5 (b3) (v4)) = 0 → p_itemAt σ5 (b2) (v4) ∧ V_add σ5 ((v_itemAt σ5 (b2) (v4))) (fun σ41 => sg_F [125, 61088] σ5 σ41 → P32 σ41))) ∧ (∀ (σ33 : sg_S), sg_F [125, 61088] σ5 σ33 → P32 σ33 → sg_R (v4 + 1) ∧ (∃ m, m < n17 ∧ I7 m ((v4 + 1)) σ33)))))) ∧ (∀ (σ5 : sg_S), sg_F [125, 61088] σ σ5 → X9 σ5 → sg_R ((sg_g σ5 88 60) - b4) ∧ (0 ≤ b1 ∧ b1 < 210) ∧ V_seq σ5 (b4) (((sg_g σ5 88 60) - b4)) ((sg_g σ 101 (b1))) (fun q21 σ22 => sg_R q21 → sg_F [122, 123, 124, 57088] σ5 σ22 → Q (q21) σ22)))) ∧ (¬ (sg_g σ 123 (b2)) = (sg_g σ 123 (b3)) → V_ends σ (3) (fun σ47 => sg_F [74088] σ σ47 → Q (0) σ47)))
set_option maxHeartbeats 4000000 in
set_option maxRecDepth 8000 in
theorem w_acted_25 (z : Value) (σ : sg_S) (b1 : Int) (b2 : Int) (b3 : Int) (b4 : Int) (Q : Int → sg_S → Prop) (rb1 : sg_R b1) (rb2 : sg_R b2) (rb3 : sg_R b3) (rb4 : sg_R b4) (w : V_acted_25 σ b1 b2 b3 b4 Q) : wx z 1 211 537 [(0, .inr (.inr (.ref 88))), (1, .inl (b1)), (2, .inl (b2)), (3, .inl (b3)), (4, .inl (b4))] [] σ (fun v σ' => ∃ q, v = some (.inl q) ∧ sg_R q ∧ sg_F [122, 123, 124, 125, 57088, 61088, 74088] σ σ' ∧ Q q σ') := by
  unfold V_acted_25 at w
  refine wk_b tt_211 3 (pc' := 542) (ls' := [(0, .inr (.inr (.ref 88))), (1, .inl (b1)), (2, .inl (b2)), (3, .inl (b3)), (4, .inl (b4))]) (st' := [.inl (b2), .inr (.inr (.ref 123))]) (σ' := σ) rfl ?_
  obtain ⟨c1, w⟩ := w
  refine wk_ia tt_211 rfl rfl c1.1 c1.2 rb2 ?_
  refine wk_b tt_211 3 (pc' := 548) (ls' := [(0, .inr (.inr (.ref 88))), (1, .inl (b1)), (2, .inl (b2)), (3, .inl (b3)), (4, .inl (b4))]) (st' := [.inl (b3), .inr (.inr (.ref 123)), .inl ((sg_g σ 123 (b2)))]) (σ' := σ) rfl ?_
  obtain ⟨c2, w⟩ := w
  refine wk_ia tt_211 rfl rfl c2.1 c2.2 rb3 ?_
  refine wk_if2 tt_211 (tgt := 559) rfl rfl (sg_Rg _ _ _) (sg_Rg _ _ _) (fun (h3 : (sg_g σ 123 (b2)) = (sg_g σ 123 (b3))) => ?_) (fun (h3 : ¬ (sg_g σ 123 (b2)) = (sg_g σ 123 (b3))) => ?_)
  ·
    have w := w.1 h3
    refine wk_b tt_211 2 (pc' := 562) (ls' := [(6, .inl (0)), (0, .inr (.inr (.ref 88))), (1, .inl (b1)), (2, .inl (b2)), (3, .inl (b3)), (4, .inl (b4))]) (st' := []) (σ' := σ) rfl ?_
    obtain ⟨I7, X9, ⟨μ8, w14⟩, w15, w16⟩ := w
    have ex18 : ∀ (σ5 : sg_S), sg_F [125, 61088] σ σ5 → X9 σ5 → wx z 1 211 600 [(0, .inr (.inr (.ref 88))), (1, .inl (b1)), (4, .inl (b4))] [] σ5 (fun v σ' => ∃ q, v = some (.inl q) ∧ sg_R q ∧ sg_F [122, 123, 124, 125, 57088, 61088, 74088] σ σ' ∧ Q q σ') := by
      intro σ5 hF6 w
      have w := w16 σ5 hF6 w
      obtain ⟨c19, w⟩ := w
      refine wk_b tt_211 9 (pc' := 615) (ls' := [(0, .inr (.inr (.ref 88))), (1, .inl (b1)), (4, .inl (b4))]) (st' := [.inl (b1), .inr (.inr (.ref 101)), .inl (((sg_g σ5 88 60) - b4)), .inl (b4), .inr (.inr (.ref 88))]) (σ' := σ5) rfl ?_
      obtain ⟨c20, w⟩ := w
      refine wk_ia tt_211 rfl rfl c20.1 c20.2 rb1 ?_
      rw [show (sg_g σ5 101 (b1)) = (sg_g σ 101 (b1)) from by rw [sg_F_ga hF6 rfl]]
      refine wk_call tt_211 rfl rfl rfl rfl rfl tt_323 rfl (by decide) (w_seq z σ5 (b4) (((sg_g σ5 88 60) - b4)) ((sg_g σ 101 (b1))) _ rb4 c19 (sg_Rg _ _ _) w) (fun u26 σ22 hq24 => ?_)
      obtain ⟨q21, rfl, r25, hF23, w⟩ := hq24
      have w := w r25 hF23
      exact wk_rI tt_211 rfl rfl ⟨_, rfl, r25, (sg_F_t (sg_F_t (sg_F_r [122, 123, 124, 125, 57088, 61088, 74088] σ) (sg_F_m (L := [122, 123, 124, 125, 57088, 61088, 74088]) hF6 rfl)) (sg_F_m (L := [122, 123, 124, 125, 57088, 61088, 74088]) hF23 rfl)), w⟩
    have lp13 : ∀ (n17 : Nat) (v4 : Int) (σ5 : sg_S), sg_R v4 → sg_F [125, 61088] σ σ5 → I7 n17 v4 σ5 → wx z 1 211 562 [(0, .inr (.inr (.ref 88))), (1, .inl (b1)), (2, .inl (b2)), (3, .inl (b3)), (4, .inl (b4)), (6, .inl (v4))] [] σ5 (fun v σ' => ∃ q, v = some (.inl q) ∧ sg_R q ∧ sg_F [122, 123, 124, 125, 57088, 61088, 74088] σ σ' ∧ Q q σ') := by
      intro n17
      induction n17 using Nat.strongRecOn with
      | _ n17 ih11 =>
        intro v4 σ5 r10 hF6 w
        have w := w15 n17 v4 σ5 r10 hF6 w
        refine wk_b tt_211 4 (pc' := 569) (ls' := [(0, .inr (.inr (.ref 88))), (1, .inl (b1)), (2, .inl (b2)), (3, .inl (b3)), (4, .inl (b4)), (6, .inl (v4))]) (st' := [.inl (b2), .inr (.inr (.ref 123)), .inl (v4)]) (σ' := σ5) rfl ?_
        refine wk_ia tt_211 rfl rfl c1.1 c1.2 rb2 ?_
        rw [show (sg_g σ5 123 (b2)) = (sg_g σ 123 (b2)) from by rw [sg_F_ga hF6 rfl]]
        refine wk_if2 tt_211 (tgt := 600) rfl rfl r10 (sg_Rg _ _ _) (fun (h27 : (sg_g σ 123 (b2)) ≤ v4) => ?_) (fun (h27 : v4 < (sg_g σ 123 (b2))) => ?_)
        ·
          have w := w.1 h27
          exact wk_ls [(0, .inr (.inr (.ref 88))), (1, .inl (b1)), (4, .inl (b4))] rfl ⟨rfl, rfl, rfl, trivial⟩ (ex18  σ5  (sg_F_t (sg_F_r [125, 61088] σ) (sg_F_m (L := [125, 61088]) hF6 rfl)) w)
        ·
          have w := w.2 h27
          refine wk_b tt_211 3 (pc' := 577) (ls' := [(0, .inr (.inr (.ref 88))), (1, .inl (b1)), (2, .inl (b2)), (3, .inl (b3)), (4, .inl (b4)), (6, .inl (v4))]) (st' := [.inl (v4), .inl (b3), .inr (.inr (.ref 88))]) (σ' := σ5) rfl ?_
          obtain ⟨c28, w⟩ := w
          refine wk_callp tt_211 rfl rfl rfl rfl rfl tt_270 rfl (by decide) (w_itemAt z σ5 (b3) (v4) rb3 r10 c28) ?_
          have r29 := vr_itemAt σ5  (b3) (v4) rb3 r10 c28
          obtain ⟨P32, w, w35⟩ := w
          have jn31 : ∀ (σ33 : sg_S), sg_F [125, 61088] σ5 σ33 → P32 σ33 → wx z 1 211 594 [(0, .inr (.inr (.ref 88))), (1, .inl (b1)), (2, .inl (b2)), (3, .inl (b3)), (4, .inl (b4)), (6, .inl (v4))] [] σ33 (fun v σ' => ∃ q, v = some (.inl q) ∧ sg_R q ∧ sg_F [122, 123, 124, 125, 57088, 61088, 74088] σ σ' ∧ Q q σ') := by
            intro σ33 hF34 w
            have w := w35 σ33 hF34 w
            obtain ⟨c36, w⟩ := w
            refine wk_b tt_211 2 (pc' := 562) (ls' := [(6, .inl ((v4 + 1))), (0, .inr (.inr (.ref 88))), (1, .inl (b1)), (2, .inl (b2)), (3, .inl (b3)), (4, .inl (b4))]) (st' := []) (σ' := σ33) rfl ?_
            obtain ⟨m37, hm37, w⟩ := w
            exact wk_ls [(0, .inr (.inr (.ref 88))), (1, .inl (b1)), (2, .inl (b2)), (3, .inl (b3)), (4, .inl (b4)), (6, .inl ((v4 + 1)))] rfl ⟨rfl, rfl, rfl, rfl, rfl, rfl, trivial⟩ (ih11 m37 hm37 ((v4 + 1)) σ33 c36 (sg_F_t (sg_F_t (sg_F_r [125, 61088] σ) (sg_F_m (L := [125, 61088]) hF6 rfl)) (sg_F_m (L := [125, 61088]) hF34 rfl)) w)
          refine wk_if tt_211 (tgt := 594) rfl rfl r29 (fun (h30 : (v_itemAt σ5 (b3) (v4)) = 0) => ?_) (fun (h30 : ¬ (v_itemAt σ5 (b3) (v4)) = 0) => ?_)
          ·
            have w := w.1 h30
            exact wk_ls [(0, .inr (.inr (.ref 88))), (1, .inl (b1)), (2, .inl (b2)), (3, .inl (b3)), (4, .inl (b4)), (6, .inl (v4))] rfl ⟨rfl, rfl, rfl, rfl, rfl, rfl, trivial⟩ (jn31 σ5 (sg_F_r [125, 61088] σ5) w)
          ·
            have w := w.2 h30
            refine wk_b tt_211 4 (pc' := 588) (ls' := [(0, .inr (.inr (.ref 88))), (1, .inl (b1)), (2, .inl (b2)), (3, .inl (b3)), (4, .inl (b4)), (6, .inl (v4))]) (st' := [.inl (v4), .inl (b2), .inr (.inr (.ref 88)), .inr (.inr (.ref 88))]) (σ' := σ5) rfl ?_
            obtain ⟨c38, w⟩ := w
            refine wk_callp tt_211 rfl rfl rfl rfl rfl tt_270 rfl (by decide) (w_itemAt z σ5 (b2) (v4) rb2 r10 c38) ?_
            have r39 := vr_itemAt σ5  (b2) (v4) rb2 r10 c38
            refine wk_call tt_211 rfl rfl rfl rfl rfl tt_212 rfl (by decide) (w_add z σ5 ((v_itemAt σ5 (b2) (v4))) _ r39 w) (fun u45 σ41 hq43 => ?_)
            obtain ⟨rfl, hF42, w⟩ := hq43
            have w := w hF42
            exact wk_ls [(0, .inr (.inr (.ref 88))), (1, .inl (b1)), (2, .inl (b2)), (3, .inl (b3)), (4, .inl (b4)), (6, .inl (v4))] rfl ⟨rfl, rfl, rfl, rfl, rfl, rfl, trivial⟩ (jn31 σ41 (sg_F_t (sg_F_r [125, 61088] σ5) (sg_F_m (L := [125, 61088]) hF42 rfl)) w)
    exact wk_ls [(0, .inr (.inr (.ref 88))), (1, .inl (b1)), (2, .inl (b2)), (3, .inl (b3)), (4, .inl (b4)), (6, .inl (0))] rfl ⟨rfl, rfl, rfl, rfl, rfl, rfl, trivial⟩ (lp13 μ8 (0) σ (by decide) (sg_F_r _ _) w14)
  ·
    have w := w.2 h3
    refine wk_b tt_211 2 (pc' := 554) (ls' := [(0, .inr (.inr (.ref 88))), (1, .inl (b1)), (2, .inl (b2)), (3, .inl (b3)), (4, .inl (b4))]) (st' := [.inl (3), .inr (.inr (.ref 88))]) (σ' := σ) rfl ?_
    refine wk_call tt_211 rfl rfl rfl rfl rfl tt_224 rfl (by decide) (w_ends z σ (3) _ (by decide) w) (fun u51 σ47 hq49 => ?_)
    obtain ⟨rfl, hF48, w⟩ := hq49
    have w := w hF48
    refine wk_b tt_211 1 (pc' := 558) (ls' := [(0, .inr (.inr (.ref 88))), (1, .inl (b1)), (2, .inl (b2)), (3, .inl (b3)), (4, .inl (b4))]) (st' := [.inl (0)]) (σ' := σ47) rfl ?_
    exact wk_rI tt_211 rfl rfl ⟨_, rfl, (by decide), (sg_F_t (sg_F_r [122, 123, 124, 125, 57088, 61088, 74088] σ) (sg_F_m (L := [122, 123, 124, 125, 57088, 61088, 74088]) hF48 rfl)), w⟩
