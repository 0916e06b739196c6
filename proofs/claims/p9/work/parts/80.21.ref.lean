/-! Conditions of the reference's methods, by program (21). -/
-- NestedVectorsModel.isBoundInside
def V_isBoundInside (σ : sg_S) (a1 : Int) (Q : Int → sg_S → Prop) : Prop := ((210 ≤ a1 → ((1100 ≤ a1 → Q (0) σ) ∧ (a1 < 1100 → sg_R (a1 - 210) ∧ (0 ≤ ((sg_i ((a1 - 210)) / sg_i (4)).toInt) ∧ ((sg_i ((a1 - 210)) / sg_i (4)).toInt) < 210) ∧ (((sg_g σ 120 (((sg_i ((a1 - 210)) / sg_i (4)).toInt))) = 0 → Q (0) σ) ∧ (¬ (sg_g σ 120 (((sg_i ((a1 - 210)) / sg_i (4)).toInt))) = 0 → Q (1) σ))))) ∧ (a1 < 210 → (0 ≤ a1 ∧ a1 < 210) ∧ ((sg_g σ 120 (a1)) = 0 ∨ (sg_g σ 120 (a1)) = 1) ∧ Q ((sg_g σ 120 (a1))) σ))
set_option maxHeartbeats 4000000 in
set_option maxRecDepth 8000 in
theorem w_isBoundInside (z : Value) (σ : sg_S) (a1 : Int) (Q : Int → sg_S → Prop) (ra1 : sg_R a1) (w : V_isBoundInside σ a1 Q) : wx z 0 260 0 [(0, .inr (.inr (.ref 88))), (1, .inl (a1))] [] σ (fun v σ' => ∃ q, v = some (.inl q) ∧ (q = 0 ∨ q = 1) ∧ σ = σ' ∧ Q q σ') := by
  unfold V_isBoundInside at w
  refine wk_b tt_260 2 (pc' := 4) (ls' := [(0, .inr (.inr (.ref 88))), (1, .inl (a1))]) (st' := [.inl (210), .inl (a1)]) (σ' := σ) rfl ?_
  refine wk_if2 tt_260 (tgt := 16) rfl rfl ra1 (by decide) (fun (h1 : 210 ≤ a1) => ?_) (fun (h1 : a1 < 210) => ?_)
  ·
    have w := w.1 h1
    refine wk_b tt_260 2 (pc' := 20) (ls' := [(0, .inr (.inr (.ref 88))), (1, .inl (a1))]) (st' := [.inl (1100), .inl (a1)]) (σ' := σ) rfl ?_
    refine wk_if2 tt_260 (tgt := 42) rfl rfl ra1 (by decide) (fun (h2 : 1100 ≤ a1) => ?_) (fun (h2 : a1 < 1100) => ?_)
    ·
      have w := w.1 h2
      refine wk_b tt_260 1 (pc' := 43) (ls' := [(0, .inr (.inr (.ref 88))), (1, .inl (a1))]) (st' := [.inl (0)]) (σ' := σ) rfl ?_
      exact wk_rZ tt_260 rfl rfl (by decide) ⟨_, rfl, (by decide), rfl, w⟩
    ·
      have w := w.2 h2
      obtain ⟨c3, w⟩ := w
      refine wk_b tt_260 6 (pc' := 33) (ls' := [(0, .inr (.inr (.ref 88))), (1, .inl (a1))]) (st' := [.inl (4), .inl ((a1 - 210)), .inr (.inr (.ref 120))]) (σ' := σ) rfl ?_
      refine wk_div tt_260 rfl (by decide) ?_
      obtain ⟨c4, w⟩ := w
      refine wk_ba (Or.inr rfl) tt_260 rfl rfl c4.1 c4.2 (sg_Rr _) ?_
      refine wk_if tt_260 (tgt := 42) rfl rfl (sg_Rg _ _ _) (fun (h5 : (sg_g σ 120 (((sg_i ((a1 - 210)) / sg_i (4)).toInt))) = 0) => ?_) (fun (h5 : ¬ (sg_g σ 120 (((sg_i ((a1 - 210)) / sg_i (4)).toInt))) = 0) => ?_)
      ·
        have w := w.1 h5
        refine wk_b tt_260 1 (pc' := 43) (ls' := [(0, .inr (.inr (.ref 88))), (1, .inl (a1))]) (st' := [.inl (0)]) (σ' := σ) rfl ?_
        exact wk_rZ tt_260 rfl rfl (by decide) ⟨_, rfl, (by decide), rfl, w⟩
      ·
        have w := w.2 h5
        refine wk_b tt_260 2 (pc' := 43) (ls' := [(0, .inr (.inr (.ref 88))), (1, .inl (a1))]) (st' := [.inl (1)]) (σ' := σ) rfl ?_
        exact wk_rZ tt_260 rfl rfl (by decide) ⟨_, rfl, (by decide), rfl, w⟩
  ·
    have w := w.2 h1
    refine wk_b tt_260 3 (pc' := 12) (ls' := [(0, .inr (.inr (.ref 88))), (1, .inl (a1))]) (st' := [.inl (a1), .inr (.inr (.ref 120))]) (σ' := σ) rfl ?_
    obtain ⟨c6, w⟩ := w
    refine wk_ba (Or.inr rfl) tt_260 rfl rfl c6.1 c6.2 ra1 ?_
    refine wk_b tt_260 1 (pc' := 43) (ls' := [(0, .inr (.inr (.ref 88))), (1, .inl (a1))]) (st' := [.inl ((sg_g σ 120 (a1)))]) (σ' := σ) rfl ?_
    obtain ⟨cz, w⟩ := w
    exact wk_rZ tt_260 rfl rfl cz ⟨_, rfl, cz, rfl, w⟩
-- NestedVectorsModel.outsider
def V_outsider (σ : sg_S) (a1 : Int) (Q : sg_S → Prop) : Prop := (∃ (I4 : Nat → Int → Prop) (X6 : Prop), (∃ n, I4 n (0)) ∧ (∀ (n14 : Nat) (v1 : Int), sg_R v1 → I4 n14 v1 → (((sg_g σ 88 46) ≤ v1 → X6 ) ∧ (v1 < (sg_g σ 88 46) → (0 ≤ v1 ∧ v1 < 300) ∧ ((¬ (sg_g σ 119 (v1)) = a1 → sg_R (v1 + 1) ∧ (∃ m, m < n14 ∧ I4 m ((v1 + 1)))) ∧ ((sg_g σ 119 (v1)) = a1 → Q σ))))) ∧ (X6  → (∃ P18 : Int → sg_S → Prop, (((sg_g σ 88 46) ≤ 0 → P18 ((sg_g σ 88 46)) σ) ∧ (0 < (sg_g σ 88 46) → sg_R ((sg_g σ 88 46) - 1) ∧ (0 ≤ ((sg_g σ 88 46) - 1) ∧ ((sg_g σ 88 46) - 1) < 300) ∧ (0 ≤ (sg_g σ 119 (((sg_g σ 88 46) - 1))) ∧ (sg_g σ 119 (((sg_g σ 88 46) - 1))) < 1200) ∧ (0 ≤ a1 ∧ a1 < 1200) ∧ (((sg_g σ 116 ((sg_g σ 119 (((sg_g σ 88 46) - 1))))) ≤ (sg_g σ 116 (a1)) → P18 ((sg_g σ 88 46)) σ) ∧ ((sg_g σ 116 (a1)) < (sg_g σ 116 ((sg_g σ 119 (((sg_g σ 88 46) - 1))))) → (0 ≤ (sg_g σ 88 46) ∧ (sg_g σ 88 46) < 300) ∧ ∀ σ38, σ38 = (sg_w σ 119 ((sg_g σ 88 46)) ((sg_g σ 119 (((sg_g σ 88 46) - 1))))) → sg_R ((sg_g σ 88 46) + (-1)) ∧ (∃ (I45 : Nat → Int → sg_S → Prop), (∃ n, I45 n (((sg_g σ 88 46) + (-1))) σ38) ∧ (∀ (n55 : Nat) (v42 : Int) (σ43 : sg_S), sg_R v42 → sg_F [119] σ38 σ43 → I45 n55 v42 σ43 → ((v42 ≤ 0 → P18 (v42) σ43) ∧ (0 < v42 → sg_R (v42 - 1) ∧ (0 ≤ (v42 - 1) ∧ (v42 - 1) < 300) ∧ (0 ≤ (sg_g σ43 119 ((v42 - 1))) ∧ (sg_g σ43 119 ((v42 - 1))) < 1200) ∧ (((sg_g σ 116 ((sg_g σ43 119 ((v42 - 1))))) ≤ (sg_g σ 116 (a1)) → P18 (v42) σ43) ∧ ((sg_g σ 116 (a1)) < (sg_g σ 116 ((sg_g σ43 119 ((v42 - 1))))) → (0 ≤ v42 ∧ v42 < 300) ∧ ∀ σ63, σ63 = (sg_w σ43 119 (v42) ((sg_g σ43 119 ((v42 - 1))))) → sg_R (v42 + (-1)) ∧ (∃ m, m < n55 ∧ I45 m ((v42 + (-1))) σ63))))))))))) ∧ (∀ (v21 : Int) (σ19 : sg_S), sg_R v21 → sg_F [119] σ σ19 → P18 v21 σ19 → (0 ≤ v21 ∧ v21 < 300) ∧ ∀ σ25, σ25 = (sg_w σ19 119 (v21) (a1)) → sg_R ((sg_g σ 88 46) + 1) ∧ ∀ σ29, σ29 = (sg_w σ25 88 46 (((sg_g σ 88 46) + 1))) → Q σ29))))
set_option maxHeartbeats 4000000 in
set_option maxRecDepth 8000 in
theorem w_outsider (z : Value) (σ : sg_S) (a1 : Int) (Q : sg_S → Prop) (ra1 : sg_R a1) (w : V_outsider σ a1 Q) : wx z 0 301 0 [(0, .inr (.inr (.ref 88))), (1, .inl (a1))] [] σ (fun v σ' => v = none ∧ sg_F [119, 47088] σ σ' ∧ Q σ') := by
  unfold V_outsider at w
  refine wk_b tt_301 5 (pc' := 7) (ls' := [(3, .inl (0)), (2, .inl ((sg_g σ 88 46))), (0, .inr (.inr (.ref 88))), (1, .inl (a1))]) (st' := []) (σ' := σ) rfl ?_
  obtain ⟨I4, X6, ⟨μ5, w11⟩, w12, w13⟩ := w
  have ex15 : X6  → wx z 0 301 32 [(0, .inr (.inr (.ref 88))), (1, .inl (a1)), (2, .inl ((sg_g σ 88 46)))] [] σ (fun v σ' => v = none ∧ sg_F [119, 47088] σ σ' ∧ Q σ') := by
    intro w
    have w := w13  w
    refine wk_b tt_301 1 (pc' := 33) (ls' := [(0, .inr (.inr (.ref 88))), (1, .inl (a1)), (2, .inl ((sg_g σ 88 46)))]) (st' := [.inl ((sg_g σ 88 46))]) (σ' := σ) rfl ?_
    obtain ⟨P18, w, w23⟩ := w
    have jn17 : ∀ (v21 : Int) (σ19 : sg_S), sg_R v21 → sg_F [119] σ σ19 → P18 v21 σ19 → wx z 0 301 78 [(0, .inr (.inr (.ref 88))), (1, .inl (a1)), (2, .inl (v21))] [] σ19 (fun v σ' => v = none ∧ sg_F [119, 47088] σ σ' ∧ Q σ') := by
      intro v21 σ19 r22 hF20 w
      have w := w23 v21 σ19 r22 hF20 w
      refine wk_b tt_301 4 (pc' := 84) (ls' := [(0, .inr (.inr (.ref 88))), (1, .inl (a1)), (2, .inl (v21))]) (st' := [.inl (a1), .inl (v21), .inr (.inr (.ref 119))]) (σ' := σ19) rfl ?_
      obtain ⟨c24, w⟩ := w
      refine wk_is tt_301 rfl rfl c24.1 c24.2 r22 ?_
      generalize hs26 : (sg_w σ19 119 (v21) (a1)) = σ25
      have w := w σ25 hs26.symm
      have hF27 : sg_F [119] σ19 σ25 := by rw [← hs26]; exact sg_F_w (sg_F_r _ _) rfl _
      obtain ⟨c28, w⟩ := w
      refine wk_b tt_301 6 (pc' := 95) (ls' := [(0, .inr (.inr (.ref 88))), (1, .inl (a1)), (2, .inl (v21))]) (st' := []) (σ' := (sg_w σ25 88 46 (((sg_g σ25 88 46) + 1)))) rfl ?_
      rw [show (sg_g σ25 88 46) = (sg_g σ 88 46) from by rw [sg_F_ga hF27 rfl, sg_F_ga hF20 rfl]]
      generalize hs30 : (sg_w σ25 88 46 (((sg_g σ 88 46) + 1))) = σ29
      have w := w σ29 hs30.symm
      have hF31 : sg_F [47088] σ25 σ29 := by rw [← hs30]; exact sg_F_w (sg_F_r _ _) rfl _
      exact wk_rV tt_301 rfl rfl ⟨rfl, (sg_F_t (sg_F_t (sg_F_t (sg_F_r [119, 47088] σ) (sg_F_m (L := [119, 47088]) hF20 rfl)) (sg_F_m (L := [119, 47088]) hF27 rfl)) (sg_F_m (L := [119, 47088]) hF31 rfl)), w⟩
    refine wk_if tt_301 (tgt := 78) rfl rfl (sg_Rg _ _ _) (fun (h16 : (sg_g σ 88 46) ≤ 0) => ?_) (fun (h16 : 0 < (sg_g σ 88 46)) => ?_)
    ·
      have w := w.1 h16
      exact wk_ls [(0, .inr (.inr (.ref 88))), (1, .inl (a1)), (2, .inl ((sg_g σ 88 46)))] rfl ⟨rfl, rfl, rfl, trivial⟩ (jn17 ((sg_g σ 88 46)) σ (sg_Rg _ _ _) (sg_F_r [119] σ) w)
    ·
      have w := w.2 h16
      obtain ⟨c32, w⟩ := w
      refine wk_b tt_301 7 (pc' := 47) (ls' := [(0, .inr (.inr (.ref 88))), (1, .inl (a1)), (2, .inl ((sg_g σ 88 46)))]) (st' := [.inl (((sg_g σ 88 46) - 1)), .inr (.inr (.ref 119)), .inr (.inr (.ref 116))]) (σ' := σ) rfl ?_
      obtain ⟨c33, w⟩ := w
      refine wk_ia tt_301 rfl rfl c33.1 c33.2 c32 ?_
      obtain ⟨c34, w⟩ := w
      refine wk_ia tt_301 rfl rfl c34.1 c34.2 (sg_Rg _ _ _) ?_
      refine wk_b tt_301 3 (pc' := 54) (ls' := [(0, .inr (.inr (.ref 88))), (1, .inl (a1)), (2, .inl ((sg_g σ 88 46)))]) (st' := [.inl (a1), .inr (.inr (.ref 116)), .inl ((sg_g σ 116 ((sg_g σ 119 (((sg_g σ 88 46) - 1))))))]) (σ' := σ) rfl ?_
      obtain ⟨c35, w⟩ := w
      refine wk_ia tt_301 rfl rfl c35.1 c35.2 ra1 ?_
      refine wk_if2 tt_301 (tgt := 78) rfl rfl (sg_Rg _ _ _) (sg_Rg _ _ _) (fun (h36 : (sg_g σ 116 ((sg_g σ 119 (((sg_g σ 88 46) - 1))))) ≤ (sg_g σ 116 (a1))) => ?_) (fun (h36 : (sg_g σ 116 (a1)) < (sg_g σ 116 ((sg_g σ 119 (((sg_g σ 88 46) - 1)))))) => ?_)
      ·
        have w := w.1 h36
        exact wk_ls [(0, .inr (.inr (.ref 88))), (1, .inl (a1)), (2, .inl ((sg_g σ 88 46)))] rfl ⟨rfl, rfl, rfl, trivial⟩ (jn17 ((sg_g σ 88 46)) σ (sg_Rg _ _ _) (sg_F_r [119] σ) w)
      ·
        have w := w.2 h36
        refine wk_b tt_301 8 (pc' := 70) (ls' := [(0, .inr (.inr (.ref 88))), (1, .inl (a1)), (2, .inl ((sg_g σ 88 46)))]) (st' := [.inl (((sg_g σ 88 46) - 1)), .inr (.inr (.ref 119)), .inl ((sg_g σ 88 46)), .inr (.inr (.ref 119))]) (σ' := σ) rfl ?_
        refine wk_ia tt_301 rfl rfl c33.1 c33.2 c32 ?_
        obtain ⟨c37, w⟩ := w
        refine wk_is tt_301 rfl rfl c37.1 c37.2 (sg_Rg _ _ _) ?_
        generalize hs39 : (sg_w σ 119 ((sg_g σ 88 46)) ((sg_g σ 119 (((sg_g σ 88 46) - 1))))) = σ38
        have w := w σ38 hs39.symm
        have hF40 : sg_F [119] σ σ38 := by rw [← hs39]; exact sg_F_w (sg_F_r _ _) rfl _
        obtain ⟨c41, w⟩ := w
        refine wk_b tt_301 2 (pc' := 32) (ls' := [(2, .inl (((sg_g σ 88 46) + (-1)))), (0, .inr (.inr (.ref 88))), (1, .inl (a1))]) (st' := []) (σ' := σ38) rfl ?_
        obtain ⟨I45, ⟨μ46, w52⟩, w53⟩ := w
        have lp51 : ∀ (n55 : Nat) (v42 : Int) (σ43 : sg_S), sg_R v42 → sg_F [119] σ38 σ43 → I45 n55 v42 σ43 → wx z 0 301 32 [(0, .inr (.inr (.ref 88))), (1, .inl (a1)), (2, .inl (v42))] [] σ43 (fun v σ' => v = none ∧ sg_F [119, 47088] σ σ' ∧ Q σ') := by
          intro n55
          induction n55 using Nat.strongRecOn with
          | _ n55 ih49 =>
            intro v42 σ43 r48 hF44 w
            have w := w53 n55 v42 σ43 r48 hF44 w
            refine wk_b tt_301 1 (pc' := 33) (ls' := [(0, .inr (.inr (.ref 88))), (1, .inl (a1)), (2, .inl (v42))]) (st' := [.inl (v42)]) (σ' := σ43) rfl ?_
            refine wk_if tt_301 (tgt := 78) rfl rfl r48 (fun (h57 : v42 ≤ 0) => ?_) (fun (h57 : 0 < v42) => ?_)
            ·
              have w := w.1 h57
              exact wk_ls [(0, .inr (.inr (.ref 88))), (1, .inl (a1)), (2, .inl (v42))] rfl ⟨rfl, rfl, rfl, trivial⟩ (jn17 (v42) σ43 r48 (sg_F_t (sg_F_t (sg_F_r [119] σ) (sg_F_m (L := [119]) hF40 rfl)) (sg_F_m (L := [119]) hF44 rfl)) w)
            ·
              have w := w.2 h57
              obtain ⟨c58, w⟩ := w
              refine wk_b tt_301 7 (pc' := 47) (ls' := [(0, .inr (.inr (.ref 88))), (1, .inl (a1)), (2, .inl (v42))]) (st' := [.inl ((v42 - 1)), .inr (.inr (.ref 119)), .inr (.inr (.ref 116))]) (σ' := σ43) rfl ?_
              obtain ⟨c59, w⟩ := w
              refine wk_ia tt_301 rfl rfl c59.1 c59.2 c58 ?_
              obtain ⟨c60, w⟩ := w
              refine wk_ia tt_301 rfl rfl c60.1 c60.2 (sg_Rg _ _ _) ?_
              rw [show (sg_g σ43 116 ((sg_g σ43 119 ((v42 - 1))))) = (sg_g σ 116 ((sg_g σ43 119 ((v42 - 1))))) from by rw [sg_F_ga hF44 rfl, sg_F_ga hF40 rfl]]
              refine wk_b tt_301 3 (pc' := 54) (ls' := [(0, .inr (.inr (.ref 88))), (1, .inl (a1)), (2, .inl (v42))]) (st' := [.inl (a1), .inr (.inr (.ref 116)), .inl ((sg_g σ 116 ((sg_g σ43 119 ((v42 - 1))))))]) (σ' := σ43) rfl ?_
              refine wk_ia tt_301 rfl rfl c35.1 c35.2 ra1 ?_
              rw [show (sg_g σ43 116 (a1)) = (sg_g σ 116 (a1)) from by rw [sg_F_ga hF44 rfl, sg_F_ga hF40 rfl]]
              refine wk_if2 tt_301 (tgt := 78) rfl rfl (sg_Rg _ _ _) (sg_Rg _ _ _) (fun (h61 : (sg_g σ 116 ((sg_g σ43 119 ((v42 - 1))))) ≤ (sg_g σ 116 (a1))) => ?_) (fun (h61 : (sg_g σ 116 (a1)) < (sg_g σ 116 ((sg_g σ43 119 ((v42 - 1)))))) => ?_)
              ·
                have w := w.1 h61
                exact wk_ls [(0, .inr (.inr (.ref 88))), (1, .inl (a1)), (2, .inl (v42))] rfl ⟨rfl, rfl, rfl, trivial⟩ (jn17 (v42) σ43 r48 (sg_F_t (sg_F_t (sg_F_r [119] σ) (sg_F_m (L := [119]) hF40 rfl)) (sg_F_m (L := [119]) hF44 rfl)) w)
              ·
                have w := w.2 h61
                refine wk_b tt_301 8 (pc' := 70) (ls' := [(0, .inr (.inr (.ref 88))), (1, .inl (a1)), (2, .inl (v42))]) (st' := [.inl ((v42 - 1)), .inr (.inr (.ref 119)), .inl (v42), .inr (.inr (.ref 119))]) (σ' := σ43) rfl ?_
                refine wk_ia tt_301 rfl rfl c59.1 c59.2 c58 ?_
                obtain ⟨c62, w⟩ := w
                refine wk_is tt_301 rfl rfl c62.1 c62.2 r48 ?_
                generalize hs64 : (sg_w σ43 119 (v42) ((sg_g σ43 119 ((v42 - 1))))) = σ63
                have w := w σ63 hs64.symm
                have hF65 : sg_F [119] σ43 σ63 := by rw [← hs64]; exact sg_F_w (sg_F_r _ _) rfl _
                obtain ⟨c66, w⟩ := w
                refine wk_b tt_301 2 (pc' := 32) (ls' := [(2, .inl ((v42 + (-1)))), (0, .inr (.inr (.ref 88))), (1, .inl (a1))]) (st' := []) (σ' := σ63) rfl ?_
                obtain ⟨m67, hm67, w⟩ := w
                exact wk_ls [(0, .inr (.inr (.ref 88))), (1, .inl (a1)), (2, .inl ((v42 + (-1))))] rfl ⟨rfl, rfl, rfl, trivial⟩ (ih49 m67 hm67 ((v42 + (-1))) σ63 c66 (sg_F_t (sg_F_t (sg_F_r [119] σ38) (sg_F_m (L := [119]) hF44 rfl)) (sg_F_m (L := [119]) hF65 rfl)) w)
        exact wk_ls [(0, .inr (.inr (.ref 88))), (1, .inl (a1)), (2, .inl (((sg_g σ 88 46) + (-1))))] rfl ⟨rfl, rfl, rfl, trivial⟩ (lp51 μ46 (((sg_g σ 88 46) + (-1))) σ38 c41 (sg_F_r _ _) w52)
  have lp10 : ∀ (n14 : Nat) (v1 : Int), sg_R v1 → I4 n14 v1 → wx z 0 301 7 [(0, .inr (.inr (.ref 88))), (1, .inl (a1)), (2, .inl ((sg_g σ 88 46))), (3, .inl (v1))] [] σ (fun v σ' => v = none ∧ sg_F [119, 47088] σ σ' ∧ Q σ') := by
    intro n14
    induction n14 using Nat.strongRecOn with
    | _ n14 ih8 =>
      intro v1 r7 w
      have w := w12 n14 v1 r7 w
      refine wk_b tt_301 3 (pc' := 12) (ls' := [(0, .inr (.inr (.ref 88))), (1, .inl (a1)), (2, .inl ((sg_g σ 88 46))), (3, .inl (v1))]) (st' := [.inl ((sg_g σ 88 46)), .inl (v1)]) (σ' := σ) rfl ?_
      refine wk_if2 tt_301 (tgt := 32) rfl rfl r7 (sg_Rg _ _ _) (fun (h68 : (sg_g σ 88 46) ≤ v1) => ?_) (fun (h68 : v1 < (sg_g σ 88 46)) => ?_)
      ·
        have w := w.1 h68
        exact wk_ls [(0, .inr (.inr (.ref 88))), (1, .inl (a1)), (2, .inl ((sg_g σ 88 46)))] rfl ⟨rfl, rfl, rfl, trivial⟩ (ex15     w)
      ·
        have w := w.2 h68
        refine wk_b tt_301 3 (pc' := 20) (ls' := [(0, .inr (.inr (.ref 88))), (1, .inl (a1)), (2, .inl ((sg_g σ 88 46))), (3, .inl (v1))]) (st' := [.inl (v1), .inr (.inr (.ref 119))]) (σ' := σ) rfl ?_
        obtain ⟨c69, w⟩ := w
        refine wk_ia tt_301 rfl rfl c69.1 c69.2 r7 ?_
        refine wk_b tt_301 1 (pc' := 22) (ls' := [(0, .inr (.inr (.ref 88))), (1, .inl (a1)), (2, .inl ((sg_g σ 88 46))), (3, .inl (v1))]) (st' := [.inl (a1), .inl ((sg_g σ 119 (v1)))]) (σ' := σ) rfl ?_
        refine wk_if2 tt_301 (tgt := 26) rfl rfl (sg_Rg _ _ _) ra1 (fun (h70 : ¬ (sg_g σ 119 (v1)) = a1) => ?_) (fun (h70 : (sg_g σ 119 (v1)) = a1) => ?_)
        ·
          have w := w.1 h70
          obtain ⟨c71, w⟩ := w
          refine wk_b tt_301 2 (pc' := 7) (ls' := [(3, .inl ((v1 + 1))), (0, .inr (.inr (.ref 88))), (1, .inl (a1)), (2, .inl ((sg_g σ 88 46)))]) (st' := []) (σ' := σ) rfl ?_
          obtain ⟨m72, hm72, w⟩ := w
          exact wk_ls [(0, .inr (.inr (.ref 88))), (1, .inl (a1)), (2, .inl ((sg_g σ 88 46))), (3, .inl ((v1 + 1)))] rfl ⟨rfl, rfl, rfl, rfl, trivial⟩ (ih8 m72 hm72 ((v1 + 1))  c71  w)
        ·
          have w := w.2 h70
          exact wk_rV tt_301 rfl rfl ⟨rfl, (sg_F_r [119, 47088] σ), w⟩
  exact wk_ls [(0, .inr (.inr (.ref 88))), (1, .inl (a1)), (2, .inl ((sg_g σ 88 46))), (3, .inl (0))] rfl ⟨rfl, rfl, rfl, rfl, trivial⟩ (lp10 μ5 (0)  (by decide)  w11)
-- NestedVectorsModel.gatherOutside
def V_gatherOutside (σ : sg_S) (a1 : Int) (Q : sg_S → Prop) : Prop := (∃ (I4 : Nat → Int → sg_S → Prop) (X6 : sg_S → Prop), (∃ n, I4 n (0) σ) ∧ (∀ (n14 : Nat) (v1 : Int) (σ2 : sg_S), sg_R v1 → sg_F [119, 47088] σ σ2 → I4 n14 v1 σ2 → (((sg_g σ 88 8) ≤ v1 → X6 σ2) ∧ (v1 < (sg_g σ 88 8) → (0 ≤ v1 ∧ v1 < 210) ∧ (∃ P20 : sg_S → Prop, (((sg_g σ 120 (v1)) = 0 → P20 σ2) ∧ (¬ (sg_g σ 120 (v1)) = 0 → ((¬ (sg_g σ 93 (v1)) = 1 → P20 σ2) ∧ ((sg_g σ 93 (v1)) = 1 → V_isBoundInside σ2 ((sg_g σ 102 (v1))) (fun q27 _ => (q27 = 0 ∨ q27 = 1) → ((¬ q27 = 0 → P20 σ2) ∧ (q27 = 0 → ((a1 < 0 → True) ∧ (0 ≤ a1 → (((sg_g σ 102 (v1)) < 210 → True) ∧ (210 ≤ (sg_g σ 102 (v1)) → ((1100 ≤ (sg_g σ 102 (v1)) → True) ∧ ((sg_g σ 102 (v1)) < 1100 → sg_R ((sg_g σ 102 (v1)) - 210) ∧ ((¬ ((sg_i (((sg_g σ 102 (v1)) - 210)) / sg_i (4)).toInt) = a1 → True) ∧ (((sg_i (((sg_g σ 102 (v1)) - 210)) / sg_i (4)).toInt) = a1 → True)))))))) ∧ ∀ v36 : Int, v36 = (if a1 < 0 then (0 : Int) else (if (sg_g σ 102 (v1)) < 210 then (0 : Int) else (if 1100 ≤ (sg_g σ 102 (v1)) then (0 : Int) else (if ¬ ((sg_i (((sg_g σ 102 (v1)) - 210)) / sg_i (4)).toInt) = a1 then (0 : Int) else (1 : Int))))) → sg_R v36 → ((¬ v36 = 0 → P20 σ2) ∧ (v36 = 0 → V_outsider σ2 ((sg_g σ 102 (v1))) (fun σ41 => sg_F [119, 47088] σ2 σ41 → P20 σ41)))))))))) ∧ (∀ (σ21 : sg_S), sg_F [119, 47088] σ2 σ21 → P20 σ21 → sg_R (v1 + 1) ∧ (∃ m, m < n14 ∧ I4 m ((v1 + 1)) σ21)))))) ∧ (∀ (σ2 : sg_S), sg_F [119, 47088] σ σ2 → X6 σ2 → Q σ2))
set_option maxHeartbeats 4000000 in
set_option maxRecDepth 8000 in
theorem w_gatherOutside (z : Value) (σ : sg_S) (a1 : Int) (Q : sg_S → Prop) (ra1 : sg_R a1) (w : V_gatherOutside σ a1 Q) : wx z 1 248 0 [(0, .inr (.inr (.ref 88))), (1, .inl (a1))] [] σ (fun v σ' => v = none ∧ sg_F [119, 47088] σ σ' ∧ Q σ') := by
  unfold V_gatherOutside at w
  refine wk_b tt_248 2 (pc' := 2) (ls' := [(2, .inl (0)), (0, .inr (.inr (.ref 88))), (1, .inl (a1))]) (st' := []) (σ' := σ) rfl ?_
  obtain ⟨I4, X6, ⟨μ5, w11⟩, w12, w13⟩ := w
  have ex15 : ∀ (σ2 : sg_S), sg_F [119, 47088] σ σ2 → X6 σ2 → wx z 1 248 101 [] [] σ2 (fun v σ' => v = none ∧ sg_F [119, 47088] σ σ' ∧ Q σ') := by
    intro σ2 hF3 w
    have w := w13 σ2 hF3 w
    exact wk_rV tt_248 rfl rfl ⟨rfl, (sg_F_t (sg_F_r [119, 47088] σ) (sg_F_m (L := [119, 47088]) hF3 rfl)), w⟩
  have lp10 : ∀ (n14 : Nat) (v1 : Int) (σ2 : sg_S), sg_R v1 → sg_F [119, 47088] σ σ2 → I4 n14 v1 σ2 → wx z 1 248 2 [(0, .inr (.inr (.ref 88))), (1, .inl (a1)), (2, .inl (v1))] [] σ2 (fun v σ' => v = none ∧ sg_F [119, 47088] σ σ' ∧ Q σ') := by
    intro n14
    induction n14 using Nat.strongRecOn with
    | _ n14 ih8 =>
      intro v1 σ2 r7 hF3 w
      have w := w12 n14 v1 σ2 r7 hF3 w
      refine wk_b tt_248 3 (pc' := 7) (ls' := [(0, .inr (.inr (.ref 88))), (1, .inl (a1)), (2, .inl (v1))]) (st' := [.inl ((sg_g σ2 88 8)), .inl (v1)]) (σ' := σ2) rfl ?_
      rw [show (sg_g σ2 88 8) = (sg_g σ 88 8) from by rw [sg_F_g hF3 rfl]]
      refine wk_if2 tt_248 (tgt := 101) rfl rfl r7 (sg_Rg _ _ _) (fun (h16 : (sg_g σ 88 8) ≤ v1) => ?_) (fun (h16 : v1 < (sg_g σ 88 8)) => ?_)
      ·
        have w := w.1 h16
        exact wk_ls [] rfl trivial (ex15  σ2  (sg_F_t (sg_F_r [119, 47088] σ) (sg_F_m (L := [119, 47088]) hF3 rfl)) w)
      ·
        have w := w.2 h16
        refine wk_b tt_248 3 (pc' := 15) (ls' := [(0, .inr (.inr (.ref 88))), (1, .inl (a1)), (2, .inl (v1))]) (st' := [.inl (v1), .inr (.inr (.ref 120))]) (σ' := σ2) rfl ?_
        obtain ⟨c17, w⟩ := w
        refine wk_ba (Or.inr rfl) tt_248 rfl rfl c17.1 c17.2 r7 ?_
        rw [show (sg_g σ2 120 (v1)) = (sg_g σ 120 (v1)) from by rw [sg_F_ga hF3 rfl]]
        obtain ⟨P20, w, w23⟩ := w
        have jn19 : ∀ (σ21 : sg_S), sg_F [119, 47088] σ2 σ21 → P20 σ21 → wx z 1 248 95 [(0, .inr (.inr (.ref 88))), (1, .inl (a1)), (2, .inl (v1))] [] σ21 (fun v σ' => v = none ∧ sg_F [119, 47088] σ σ' ∧ Q σ') := by
          intro σ21 hF22 w
          have w := w23 σ21 hF22 w
          obtain ⟨c24, w⟩ := w
          refine wk_b tt_248 2 (pc' := 2) (ls' := [(2, .inl ((v1 + 1))), (0, .inr (.inr (.ref 88))), (1, .inl (a1))]) (st' := []) (σ' := σ21) rfl ?_
          obtain ⟨m25, hm25, w⟩ := w
          exact wk_ls [(0, .inr (.inr (.ref 88))), (1, .inl (a1)), (2, .inl ((v1 + 1)))] rfl ⟨rfl, rfl, rfl, trivial⟩ (ih8 m25 hm25 ((v1 + 1)) σ21 c24 (sg_F_t (sg_F_t (sg_F_r [119, 47088] σ) (sg_F_m (L := [119, 47088]) hF3 rfl)) (sg_F_m (L := [119, 47088]) hF22 rfl)) w)
        refine wk_if tt_248 (tgt := 95) rfl rfl (sg_Rg _ _ _) (fun (h18 : (sg_g σ 120 (v1)) = 0) => ?_) (fun (h18 : ¬ (sg_g σ 120 (v1)) = 0) => ?_)
        ·
          have w := w.1 h18
          exact wk_ls [(0, .inr (.inr (.ref 88))), (1, .inl (a1)), (2, .inl (v1))] rfl ⟨rfl, rfl, rfl, trivial⟩ (jn19 σ2 (sg_F_r [119, 47088] σ2) w)
        ·
          have w := w.2 h18
          refine wk_b tt_248 3 (pc' := 24) (ls' := [(0, .inr (.inr (.ref 88))), (1, .inl (a1)), (2, .inl (v1))]) (st' := [.inl (v1), .inr (.inr (.ref 93))]) (σ' := σ2) rfl ?_
          refine wk_ia tt_248 rfl rfl c17.1 c17.2 r7 ?_
          rw [show (sg_g σ2 93 (v1)) = (sg_g σ 93 (v1)) from by rw [sg_F_ga hF3 rfl]]
          refine wk_b tt_248 1 (pc' := 26) (ls' := [(0, .inr (.inr (.ref 88))), (1, .inl (a1)), (2, .inl (v1))]) (st' := [.inl (1), .inl ((sg_g σ 93 (v1)))]) (σ' := σ2) rfl ?_
          refine wk_if2 tt_248 (tgt := 95) rfl rfl (sg_Rg _ _ _) (by decide) (fun (h26 : ¬ (sg_g σ 93 (v1)) = 1) => ?_) (fun (h26 : (sg_g σ 93 (v1)) = 1) => ?_)
          ·
            have w := w.1 h26
            exact wk_ls [(0, .inr (.inr (.ref 88))), (1, .inl (a1)), (2, .inl (v1))] rfl ⟨rfl, rfl, rfl, trivial⟩ (jn19 σ2 (sg_F_r [119, 47088] σ2) w)
          ·
            have w := w.2 h26
            refine wk_b tt_248 4 (pc' := 35) (ls' := [(0, .inr (.inr (.ref 88))), (1, .inl (a1)), (2, .inl (v1))]) (st' := [.inl (v1), .inr (.inr (.ref 102)), .inr (.inr (.ref 88))]) (σ' := σ2) rfl ?_
            refine wk_ia tt_248 rfl rfl c17.1 c17.2 r7 ?_
            rw [show (sg_g σ2 102 (v1)) = (sg_g σ 102 (v1)) from by rw [sg_F_ga hF3 rfl]]
            refine wk_call tt_248 rfl rfl rfl rfl rfl tt_260 rfl (by decide) (w_isBoundInside z σ2 ((sg_g σ 102 (v1))) _ (sg_Rg _ _ _) w) (fun u32 σ28 hq30 => ?_)
            obtain ⟨q27, rfl, r31, rfl, w⟩ := hq30
            have w := w r31
            refine wk_if tt_248 (tgt := 95) rfl rfl (sg_Rz r31) (fun (h33 : ¬ q27 = 0) => ?_) (fun (h33 : q27 = 0) => ?_)
            ·
              have w := w.1 h33
              exact wk_ls [(0, .inr (.inr (.ref 88))), (1, .inl (a1)), (2, .inl (v1))] rfl ⟨rfl, rfl, rfl, trivial⟩ (jn19 σ2 (sg_F_r [119, 47088] σ2) w)
            ·
              have w := w.2 h33
              refine wk_b tt_248 3 (pc' := 47) (ls' := [(0, .inr (.inr (.ref 88))), (1, .inl (a1)), (2, .inl (v1))]) (st' := [.inl (v1), .inr (.inr (.ref 102))]) (σ' := σ2) rfl ?_
              refine wk_ia tt_248 rfl rfl c17.1 c17.2 r7 ?_
              rw [show (sg_g σ2 102 (v1)) = (sg_g σ 102 (v1)) from by rw [sg_F_ga hF3 rfl]]
              refine wk_b tt_248 2 (pc' := 50) (ls' := [(3, .inl ((sg_g σ 102 (v1)))), (0, .inr (.inr (.ref 88))), (1, .inl (a1)), (2, .inl (v1))]) (st' := [.inl (a1)]) (σ' := σ2) rfl ?_
              obtain ⟨wp, w⟩ := w
              have jn35 : ∀ v36 : Int, v36 = (if a1 < 0 then (0 : Int) else (if (sg_g σ 102 (v1)) < 210 then (0 : Int) else (if 1100 ≤ (sg_g σ 102 (v1)) then (0 : Int) else (if ¬ ((sg_i (((sg_g σ 102 (v1)) - 210)) / sg_i (4)).toInt) = a1 then (0 : Int) else (1 : Int))))) → sg_R v36 → wx z 1 248 83 [(0, .inr (.inr (.ref 88))), (1, .inl (a1)), (2, .inl (v1)), (3, .inl ((sg_g σ 102 (v1))))] [.inl (v36)] σ2 (fun v σ' => v = none ∧ sg_F [119, 47088] σ σ' ∧ Q σ') := by
                intro v36 e38 r37
                have w := w v36 e38 r37
                refine wk_b tt_248 2 (pc' := 87) (ls' := [(4, .inl (v36)), (0, .inr (.inr (.ref 88))), (1, .inl (a1)), (2, .inl (v1)), (3, .inl ((sg_g σ 102 (v1))))]) (st' := [.inl (v36)]) (σ' := σ2) rfl ?_
                refine wk_if tt_248 (tgt := 95) rfl rfl r37 (fun (h39 : ¬ v36 = 0) => ?_) (fun (h39 : v36 = 0) => ?_)
                ·
                  have w := w.1 h39
                  exact wk_ls [(0, .inr (.inr (.ref 88))), (1, .inl (a1)), (2, .inl (v1))] rfl ⟨rfl, rfl, rfl, trivial⟩ (jn19 σ2 (sg_F_r [119, 47088] σ2) w)
                ·
                  have w := w.2 h39
                  refine wk_b tt_248 2 (pc' := 92) (ls' := [(4, .inl (v36)), (0, .inr (.inr (.ref 88))), (1, .inl (a1)), (2, .inl (v1)), (3, .inl ((sg_g σ 102 (v1))))]) (st' := [.inl ((sg_g σ 102 (v1))), .inr (.inr (.ref 88))]) (σ' := σ2) rfl ?_
                  refine wk_call tt_248 rfl rfl rfl rfl rfl tt_301 rfl (by decide) (w_outsider z σ2 ((sg_g σ 102 (v1))) _ (sg_Rg _ _ _) w) (fun u45 σ41 hq43 => ?_)
                  obtain ⟨rfl, hF42, w⟩ := hq43
                  have w := w hF42
                  exact wk_ls [(0, .inr (.inr (.ref 88))), (1, .inl (a1)), (2, .inl (v1))] rfl ⟨rfl, rfl, rfl, trivial⟩ (jn19 σ41 (sg_F_t (sg_F_r [119, 47088] σ2) (sg_F_m (L := [119, 47088]) hF42 rfl)) w)
              have w := wp
              refine wk_if tt_248 (tgt := 82) rfl rfl ra1 (fun (h34 : a1 < 0) => ?_) (fun (h34 : 0 ≤ a1) => ?_)
              ·
                have w := w.1 h34
                refine wk_b tt_248 1 (pc' := 83) (ls' := [(3, .inl ((sg_g σ 102 (v1)))), (0, .inr (.inr (.ref 88))), (1, .inl (a1)), (2, .inl (v1))]) (st' := [.inl (0)]) (σ' := σ2) rfl ?_
                exact wk_ls [(0, .inr (.inr (.ref 88))), (1, .inl (a1)), (2, .inl (v1)), (3, .inl ((sg_g σ 102 (v1))))] rfl ⟨rfl, rfl, rfl, rfl, trivial⟩ (jn35 (0) (by simp only [if_pos h34]) (by decide))
              ·
                have w := w.2 h34
                refine wk_b tt_248 2 (pc' := 57) (ls' := [(3, .inl ((sg_g σ 102 (v1)))), (0, .inr (.inr (.ref 88))), (1, .inl (a1)), (2, .inl (v1))]) (st' := [.inl (210), .inl ((sg_g σ 102 (v1)))]) (σ' := σ2) rfl ?_
                refine wk_if2 tt_248 (tgt := 82) rfl rfl (sg_Rg _ _ _) (by decide) (fun (h46 : (sg_g σ 102 (v1)) < 210) => ?_) (fun (h46 : 210 ≤ (sg_g σ 102 (v1))) => ?_)
                ·
                  have w := w.1 h46
                  refine wk_b tt_248 1 (pc' := 83) (ls' := [(3, .inl ((sg_g σ 102 (v1)))), (0, .inr (.inr (.ref 88))), (1, .inl (a1)), (2, .inl (v1))]) (st' := [.inl (0)]) (σ' := σ2) rfl ?_
                  exact wk_ls [(0, .inr (.inr (.ref 88))), (1, .inl (a1)), (2, .inl (v1)), (3, .inl ((sg_g σ 102 (v1))))] rfl ⟨rfl, rfl, rfl, rfl, trivial⟩ (jn35 (0) (by simp only [if_neg (show ¬ (a1 < 0) by omega), if_pos h46]) (by decide))
                ·
                  have w := w.2 h46
                  refine wk_b tt_248 2 (pc' := 64) (ls' := [(3, .inl ((sg_g σ 102 (v1)))), (0, .inr (.inr (.ref 88))), (1, .inl (a1)), (2, .inl (v1))]) (st' := [.inl (1100), .inl ((sg_g σ 102 (v1)))]) (σ' := σ2) rfl ?_
                  refine wk_if2 tt_248 (tgt := 82) rfl rfl (sg_Rg _ _ _) (by decide) (fun (h47 : 1100 ≤ (sg_g σ 102 (v1))) => ?_) (fun (h47 : (sg_g σ 102 (v1)) < 1100) => ?_)
                  ·
                    have w := w.1 h47
                    refine wk_b tt_248 1 (pc' := 83) (ls' := [(3, .inl ((sg_g σ 102 (v1)))), (0, .inr (.inr (.ref 88))), (1, .inl (a1)), (2, .inl (v1))]) (st' := [.inl (0)]) (σ' := σ2) rfl ?_
                    exact wk_ls [(0, .inr (.inr (.ref 88))), (1, .inl (a1)), (2, .inl (v1)), (3, .inl ((sg_g σ 102 (v1))))] rfl ⟨rfl, rfl, rfl, rfl, trivial⟩ (jn35 (0) (by simp only [if_neg (show ¬ (a1 < 0) by omega), if_neg (show ¬ ((sg_g σ 102 (v1)) < 210) by omega), if_pos h47]) (by decide))
                  ·
                    have w := w.2 h47
                    obtain ⟨c48, w⟩ := w
                    refine wk_b tt_248 4 (pc' := 73) (ls' := [(3, .inl ((sg_g σ 102 (v1)))), (0, .inr (.inr (.ref 88))), (1, .inl (a1)), (2, .inl (v1))]) (st' := [.inl (4), .inl (((sg_g σ 102 (v1)) - 210))]) (σ' := σ2) rfl ?_
                    refine wk_div tt_248 rfl (by decide) ?_
                    refine wk_b tt_248 1 (pc' := 75) (ls' := [(3, .inl ((sg_g σ 102 (v1)))), (0, .inr (.inr (.ref 88))), (1, .inl (a1)), (2, .inl (v1))]) (st' := [.inl (a1), .inl (((sg_i (((sg_g σ 102 (v1)) - 210)) / sg_i (4)).toInt))]) (σ' := σ2) rfl ?_
                    refine wk_if2 tt_248 (tgt := 82) rfl rfl (sg_Rr _) ra1 (fun (h49 : ¬ ((sg_i (((sg_g σ 102 (v1)) - 210)) / sg_i (4)).toInt) = a1) => ?_) (fun (h49 : ((sg_i (((sg_g σ 102 (v1)) - 210)) / sg_i (4)).toInt) = a1) => ?_)
                    ·
                      have w := w.1 h49
                      refine wk_b tt_248 1 (pc' := 83) (ls' := [(3, .inl ((sg_g σ 102 (v1)))), (0, .inr (.inr (.ref 88))), (1, .inl (a1)), (2, .inl (v1))]) (st' := [.inl (0)]) (σ' := σ2) rfl ?_
                      exact wk_ls [(0, .inr (.inr (.ref 88))), (1, .inl (a1)), (2, .inl (v1)), (3, .inl ((sg_g σ 102 (v1))))] rfl ⟨rfl, rfl, rfl, rfl, trivial⟩ (jn35 (0) (by simp only [if_neg (show ¬ (a1 < 0) by omega), if_neg (show ¬ ((sg_g σ 102 (v1)) < 210) by omega), if_neg (show ¬ (1100 ≤ (sg_g σ 102 (v1))) by omega), if_pos h49]) (by decide))
                    ·
                      have w := w.2 h49
                      refine wk_b tt_248 2 (pc' := 83) (ls' := [(3, .inl ((sg_g σ 102 (v1)))), (0, .inr (.inr (.ref 88))), (1, .inl (a1)), (2, .inl (v1))]) (st' := [.inl (1)]) (σ' := σ2) rfl ?_
                      exact wk_ls [(0, .inr (.inr (.ref 88))), (1, .inl (a1)), (2, .inl (v1)), (3, .inl ((sg_g σ 102 (v1))))] rfl ⟨rfl, rfl, rfl, rfl, trivial⟩ (jn35 (1) (by simp only [if_neg (show ¬ (a1 < 0) by omega), if_neg (show ¬ ((sg_g σ 102 (v1)) < 210) by omega), if_neg (show ¬ (1100 ≤ (sg_g σ 102 (v1))) by omega), if_neg (show ¬ (¬ ((sg_i (((sg_g σ 102 (v1)) - 210)) / sg_i (4)).toInt) = a1) by omega)]) (by decide))
  exact wk_ls [(0, .inr (.inr (.ref 88))), (1, .inl (a1)), (2, .inl (0))] rfl ⟨rfl, rfl, rfl, trivial⟩ (lp10 μ5 (0) σ (by decide) (sg_F_r _ _) w11)
-- NestedVectorsModel.listWhere
def V_listWhere (σ : sg_S) (a1 : Int) (a2 : Int) (Q : sg_S → Prop) : Prop := ∀ σ1, σ1 = (sg_w σ 88 93 (0)) → (∃ (I7 : Nat → Int → sg_S → Prop) (X9 : sg_S → Prop), (∃ n, I7 n (0) σ1) ∧ (∀ (n17 : Nat) (v4 : Int) (σ5 : sg_S), sg_R v4 → sg_F [143, 94088] σ1 σ5 → I7 n17 v4 σ5 → p_lanesOf σ (a1) ∧ (((v_lanesOf σ (a1)) ≤ v4 → X9 σ5) ∧ (v4 < (v_lanesOf σ (a1)) → p_rowAt σ (a1) (v4) ∧ ∀ v26 : Int, v26 = (if (v_rowAt σ (a1) (v4)) = 0 then (0 : Int) else (1 : Int)) → sg_R v26 → (∃ P31 : sg_S → Prop, ((¬ v26 = a2 → P31 σ5) ∧ (v26 = a2 → V_list σ5 (v4) (fun σ38 => sg_F [143, 94088] σ5 σ38 → P31 σ38))) ∧ (∀ (σ32 : sg_S), sg_F [143, 94088] σ5 σ32 → P31 σ32 → sg_R (v4 + 1) ∧ (∃ m, m < n17 ∧ I7 m ((v4 + 1)) σ32)))))) ∧ (∀ (σ5 : sg_S), sg_F [143, 94088] σ1 σ5 → X9 σ5 → Q σ5))
set_option maxHeartbeats 4000000 in
set_option maxRecDepth 8000 in
theorem w_listWhere (z : Value) (σ : sg_S) (a1 : Int) (a2 : Int) (Q : sg_S → Prop) (ra1 : sg_R a1) (ra2 : sg_R a2) (w : V_listWhere σ a1 a2 Q) : wx z 1 282 0 [(0, .inr (.inr (.ref 88))), (1, .inl (a1)), (2, .inl (a2))] [] σ (fun v σ' => v = none ∧ sg_F [143, 94088] σ σ' ∧ Q σ') := by
  unfold V_listWhere at w
  refine wk_b tt_282 3 (pc' := 5) (ls' := [(0, .inr (.inr (.ref 88))), (1, .inl (a1)), (2, .inl (a2))]) (st' := []) (σ' := (sg_w σ 88 93 (0))) rfl ?_
  generalize hs2 : (sg_w σ 88 93 (0)) = σ1
  have w := w σ1 hs2.symm
  have hF3 : sg_F [94088] σ σ1 := by rw [← hs2]; exact sg_F_w (sg_F_r _ _) rfl _
  refine wk_b tt_282 2 (pc' := 7) (ls' := [(3, .inl (0)), (0, .inr (.inr (.ref 88))), (1, .inl (a1)), (2, .inl (a2))]) (st' := []) (σ' := σ1) rfl ?_
  obtain ⟨I7, X9, ⟨μ8, w14⟩, w15, w16⟩ := w
  have ex18 : ∀ (σ5 : sg_S), sg_F [143, 94088] σ1 σ5 → X9 σ5 → wx z 1 282 45 [] [] σ5 (fun v σ' => v = none ∧ sg_F [143, 94088] σ σ' ∧ Q σ') := by
    intro σ5 hF6 w
    have w := w16 σ5 hF6 w
    exact wk_rV tt_282 rfl rfl ⟨rfl, (sg_F_t (sg_F_t (sg_F_r [143, 94088] σ) (sg_F_m (L := [143, 94088]) hF3 rfl)) (sg_F_m (L := [143, 94088]) hF6 rfl)), w⟩
  have lp13 : ∀ (n17 : Nat) (v4 : Int) (σ5 : sg_S), sg_R v4 → sg_F [143, 94088] σ1 σ5 → I7 n17 v4 σ5 → wx z 1 282 7 [(0, .inr (.inr (.ref 88))), (1, .inl (a1)), (2, .inl (a2)), (3, .inl (v4))] [] σ5 (fun v σ' => v = none ∧ sg_F [143, 94088] σ σ' ∧ Q σ') := by
    intro n17
    induction n17 using Nat.strongRecOn with
    | _ n17 ih11 =>
      intro v4 σ5 r10 hF6 w
      have w := w15 n17 v4 σ5 r10 hF6 w
      refine wk_b tt_282 3 (pc' := 10) (ls' := [(0, .inr (.inr (.ref 88))), (1, .inl (a1)), (2, .inl (a2)), (3, .inl (v4))]) (st' := [.inl (a1), .inr (.inr (.ref 88)), .inl (v4)]) (σ' := σ5) rfl ?_
      obtain ⟨c19, w⟩ := w
      have c19 : p_lanesOf σ5 (a1) := by
        rw [pF_lanesOf hF6 rfl, pF_lanesOf hF3 rfl]; exact c19
      refine wk_callp tt_282 rfl rfl rfl rfl rfl tt_277 rfl (by decide) (w_lanesOf z σ5 (a1) ra1 c19) ?_
      rw [vF_lanesOf hF6 rfl, vF_lanesOf hF3 rfl]
      have r20 := vr_lanesOf σ  (a1) ra1 (by have q := c19; rw [pF_lanesOf hF6 rfl, pF_lanesOf hF3 rfl] at q; exact q)
      refine wk_if2 tt_282 (tgt := 45) rfl rfl r10 r20 (fun (h21 : (v_lanesOf σ (a1)) ≤ v4) => ?_) (fun (h21 : v4 < (v_lanesOf σ (a1))) => ?_)
      ·
        have w := w.1 h21
        exact wk_ls [] rfl trivial (ex18  σ5  (sg_F_t (sg_F_r [143, 94088] σ1) (sg_F_m (L := [143, 94088]) hF6 rfl)) w)
      ·
        have w := w.2 h21
        refine wk_b tt_282 3 (pc' := 19) (ls' := [(0, .inr (.inr (.ref 88))), (1, .inl (a1)), (2, .inl (a2)), (3, .inl (v4))]) (st' := [.inl (v4), .inl (a1), .inr (.inr (.ref 88))]) (σ' := σ5) rfl ?_
        obtain ⟨c22, w⟩ := w
        have c22 : p_rowAt σ5 (a1) (v4) := by
          rw [pF_rowAt hF6 rfl rfl, pF_rowAt hF3 rfl rfl]; exact c22
        refine wk_callp tt_282 rfl rfl rfl rfl rfl tt_322 rfl (by decide) (w_rowAt z σ5 (a1) (v4) ra1 r10 c22) ?_
        rw [vF_rowAt hF6 rfl rfl, vF_rowAt hF3 rfl rfl]
        have r23 := vr_rowAt σ  (a1) (v4) ra1 r10 (by have q := c22; rw [pF_rowAt hF6 rfl rfl, pF_rowAt hF3 rfl rfl] at q; exact q)
        have jn25 : ∀ v26 : Int, v26 = (if (v_rowAt σ (a1) (v4)) = 0 then (0 : Int) else (1 : Int)) → sg_R v26 → wx z 1 282 30 [(0, .inr (.inr (.ref 88))), (1, .inl (a1)), (2, .inl (a2)), (3, .inl (v4))] [.inl (v26)] σ5 (fun v σ' => v = none ∧ sg_F [143, 94088] σ σ' ∧ Q σ') := by
          intro v26 e28 r27
          have w := w v26 e28 r27
          refine wk_b tt_282 1 (pc' := 31) (ls' := [(0, .inr (.inr (.ref 88))), (1, .inl (a1)), (2, .inl (a2)), (3, .inl (v4))]) (st' := [.inl (a2), .inl (v26)]) (σ' := σ5) rfl ?_
          obtain ⟨P31, w, w34⟩ := w
          have jn30 : ∀ (σ32 : sg_S), sg_F [143, 94088] σ5 σ32 → P31 σ32 → wx z 1 282 39 [(0, .inr (.inr (.ref 88))), (1, .inl (a1)), (2, .inl (a2)), (3, .inl (v4))] [] σ32 (fun v σ' => v = none ∧ sg_F [143, 94088] σ σ' ∧ Q σ') := by
            intro σ32 hF33 w
            have w := w34 σ32 hF33 w
            obtain ⟨c35, w⟩ := w
            refine wk_b tt_282 2 (pc' := 7) (ls' := [(3, .inl ((v4 + 1))), (0, .inr (.inr (.ref 88))), (1, .inl (a1)), (2, .inl (a2))]) (st' := []) (σ' := σ32) rfl ?_
            obtain ⟨m36, hm36, w⟩ := w
            exact wk_ls [(0, .inr (.inr (.ref 88))), (1, .inl (a1)), (2, .inl (a2)), (3, .inl ((v4 + 1)))] rfl ⟨rfl, rfl, rfl, rfl, trivial⟩ (ih11 m36 hm36 ((v4 + 1)) σ32 c35 (sg_F_t (sg_F_t (sg_F_r [143, 94088] σ1) (sg_F_m (L := [143, 94088]) hF6 rfl)) (sg_F_m (L := [143, 94088]) hF33 rfl)) w)
          refine wk_if2 tt_282 (tgt := 39) rfl rfl r27 ra2 (fun (h29 : ¬ v26 = a2) => ?_) (fun (h29 : v26 = a2) => ?_)
          ·
            have w := w.1 h29
            exact wk_ls [(0, .inr (.inr (.ref 88))), (1, .inl (a1)), (2, .inl (a2)), (3, .inl (v4))] rfl ⟨rfl, rfl, rfl, rfl, trivial⟩ (jn30 σ5 (sg_F_r [143, 94088] σ5) w)
          ·
            have w := w.2 h29
            refine wk_b tt_282 2 (pc' := 36) (ls' := [(0, .inr (.inr (.ref 88))), (1, .inl (a1)), (2, .inl (a2)), (3, .inl (v4))]) (st' := [.inl (v4), .inr (.inr (.ref 88))]) (σ' := σ5) rfl ?_
            refine wk_call tt_282 rfl rfl rfl rfl rfl tt_280 rfl (by decide) (w_list z σ5 (v4) _ r10 w) (fun u42 σ38 hq40 => ?_)
            obtain ⟨rfl, hF39, w⟩ := hq40
            have w := w hF39
            exact wk_ls [(0, .inr (.inr (.ref 88))), (1, .inl (a1)), (2, .inl (a2)), (3, .inl (v4))] rfl ⟨rfl, rfl, rfl, rfl, trivial⟩ (jn30 σ38 (sg_F_t (sg_F_r [143, 94088] σ5) (sg_F_m (L := [143, 94088]) hF39 rfl)) w)
        refine wk_if tt_282 (tgt := 29) rfl rfl r23 (fun (h24 : (v_rowAt σ (a1) (v4)) = 0) => ?_) (fun (h24 : ¬ (v_rowAt σ (a1) (v4)) = 0) => ?_)
        ·
          clear w
          refine wk_b tt_282 1 (pc' := 30) (ls' := [(0, .inr (.inr (.ref 88))), (1, .inl (a1)), (2, .inl (a2)), (3, .inl (v4))]) (st' := [.inl (0)]) (σ' := σ5) rfl ?_
          exact wk_ls [(0, .inr (.inr (.ref 88))), (1, .inl (a1)), (2, .inl (a2)), (3, .inl (v4))] rfl ⟨rfl, rfl, rfl, rfl, trivial⟩ (jn25 (0) (by simp only [if_pos h24]) (by decide))
        ·
          clear w
          refine wk_b tt_282 2 (pc' := 30) (ls' := [(0, .inr (.inr (.ref 88))), (1, .inl (a1)), (2, .inl (a2)), (3, .inl (v4))]) (st' := [.inl (1)]) (σ' := σ5) rfl ?_
          exact wk_ls [(0, .inr (.inr (.ref 88))), (1, .inl (a1)), (2, .inl (a2)), (3, .inl (v4))] rfl ⟨rfl, rfl, rfl, rfl, trivial⟩ (jn25 (1) (by simp only [if_neg (show ¬ ((v_rowAt σ (a1) (v4)) = 0) by omega)]) (by decide))
  exact wk_ls [(0, .inr (.inr (.ref 88))), (1, .inl (a1)), (2, .inl (a2)), (3, .inl (0))] rfl ⟨rfl, rfl, rfl, rfl, trivial⟩ (lp13 μ8 (0) σ1 (by decide) (sg_F_r _ _) w14)
