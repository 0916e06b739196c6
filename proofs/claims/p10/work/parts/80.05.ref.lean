/-! Conditions of the reference's methods, by program (5). -/
-- NestedVectorsModel.isOrder
def V_isOrder (σ : sg_S) (a1 : Int) (a2 : Int) (a3 : Int) (Q : Int → sg_S → Prop) : Prop := (∃ (I4 : Nat → Int → sg_S → Prop) (X6 : sg_S → Prop), (∃ n, I4 n (0) σ) ∧ (∀ (n14 : Nat) (v1 : Int) (σ2 : sg_S), sg_R v1 → sg_F [135] σ σ2 → I4 n14 v1 σ2 → ((a2 ≤ v1 → X6 σ2) ∧ (v1 < a2 → (0 ≤ v1 ∧ v1 < 210) ∧ ∀ σ66, σ66 = (sg_w σ2 135 (v1) ((-1))) → sg_R (v1 + 1) ∧ (∃ m, m < n14 ∧ I4 m ((v1 + 1)) σ66)))) ∧ (∀ (σ2 : sg_S), sg_F [135] σ σ2 → X6 σ2 → (∃ (I20 : Nat → Int → Int → sg_S → Prop) (X22 : Int → sg_S → Prop), (∃ n, I20 n (1) (0) σ2) ∧ (∀ (n31 : Nat) (v16 : Int) (v17 : Int) (σ18 : sg_S), sg_R v16 → sg_R v17 → sg_F [135] σ2 σ18 → I20 n31 v16 v17 σ18 → ((a2 ≤ v17 → X22 (v16) σ18) ∧ (v17 < a2 → ((v16 = 0 → X22 (v16) σ18) ∧ (¬ v16 = 0 → ((a3 = 0 → sg_R (a1 + v17) ∧ (0 ≤ (a1 + v17) ∧ (a1 + v17) < 60000) ∧ True) ∧ (¬ a3 = 0 → sg_R (a1 + v17) ∧ (0 ≤ (a1 + v17) ∧ (a1 + v17) < 12000) ∧ True)) ∧ ∀ v37 : Int, v37 = (if a3 = 0 then (sg_g σ 142 ((a1 + v17))) else (sg_g σ 125 ((a1 + v17)))) → sg_R v37 → sg_R (a2 - 1) ∧ (((v_in (v37) (0) ((a2 - 1))) = 0 → True) ∧ (¬ (v_in (v37) (0) ((a2 - 1))) = 0 → (0 ≤ v37 ∧ v37 < 210) ∧ ((¬ (sg_g σ18 135 (v37)) = (-1) → True) ∧ ((sg_g σ18 135 (v37)) = (-1) → True)))) ∧ ∀ v43 : Int, v43 = (if (v_in (v37) (0) ((a2 - 1))) = 0 then (0 : Int) else (if ¬ (sg_g σ18 135 (v37)) = (-1) then (0 : Int) else (1 : Int))) → sg_R v43 → (∃ P48 : sg_S → Prop, ((v43 = 0 → P48 σ18) ∧ (¬ v43 = 0 → (0 ≤ v37 ∧ v37 < 210) ∧ ∀ σ55, σ55 = (sg_w σ18 135 (v37) (v17)) → P48 σ55)) ∧ (∀ (σ49 : sg_S), sg_F [135] σ18 σ49 → P48 σ49 → sg_R (v17 + 1) ∧ (∃ m, m < n31 ∧ I20 m (v43) ((v17 + 1)) σ49)))))))) ∧ (∀ (v16 : Int) (σ18 : sg_S), sg_R v16 → sg_F [135] σ2 σ18 → X22 v16 σ18 → (v16 = 0 ∨ v16 = 1) ∧ Q (v16) σ18))))
set_option maxHeartbeats 4000000 in
set_option maxRecDepth 8000 in
theorem w_isOrder (z : Value) (σ : sg_S) (a1 : Int) (a2 : Int) (a3 : Int) (Q : Int → sg_S → Prop) (ra1 : sg_R a1) (ra2 : sg_R a2) (ra3 : sg_R a3) (w : V_isOrder σ a1 a2 a3 Q) : wx z 1 265 0 [(0, .inr (.inr (.ref 88))), (1, .inl (a1)), (2, .inl (a2)), (3, .inl (a3))] [] σ (fun v σ' => ∃ q, v = some (.inl q) ∧ (q = 0 ∨ q = 1) ∧ sg_F [135] σ σ' ∧ Q q σ') := by
  unfold V_isOrder at w
  refine wk_b tt_265 2 (pc' := 3) (ls' := [(4, .inl (0)), (0, .inr (.inr (.ref 88))), (1, .inl (a1)), (2, .inl (a2)), (3, .inl (a3))]) (st' := []) (σ' := σ) rfl ?_
  obtain ⟨I4, X6, ⟨μ5, w11⟩, w12, w13⟩ := w
  have ex15 : ∀ (σ2 : sg_S), sg_F [135] σ σ2 → X6 σ2 → wx z 1 265 23 [(0, .inr (.inr (.ref 88))), (1, .inl (a1)), (2, .inl (a2)), (3, .inl (a3))] [] σ2 (fun v σ' => ∃ q, v = some (.inl q) ∧ (q = 0 ∨ q = 1) ∧ sg_F [135] σ σ' ∧ Q q σ') := by
    intro σ2 hF3 w
    have w := w13 σ2 hF3 w
    refine wk_b tt_265 4 (pc' := 29) (ls' := [(5, .inl (0)), (4, .inl (1)), (0, .inr (.inr (.ref 88))), (1, .inl (a1)), (2, .inl (a2)), (3, .inl (a3))]) (st' := []) (σ' := σ2) rfl ?_
    obtain ⟨I20, X22, ⟨μ21, w28⟩, w29, w30⟩ := w
    have ex32 : ∀ (v16 : Int) (σ18 : sg_S), sg_R v16 → sg_F [135] σ2 σ18 → X22 v16 σ18 → wx z 1 265 119 [(4, .inl (v16))] [] σ18 (fun v σ' => ∃ q, v = some (.inl q) ∧ (q = 0 ∨ q = 1) ∧ sg_F [135] σ σ' ∧ Q q σ') := by
      intro v16 σ18 r23 hF19 w
      have w := w30 v16 σ18 r23 hF19 w
      refine wk_b tt_265 1 (pc' := 121) (ls' := [(4, .inl (v16))]) (st' := [.inl (v16)]) (σ' := σ18) rfl ?_
      obtain ⟨cz, w⟩ := w
      exact wk_rZ tt_265 rfl rfl cz ⟨_, rfl, cz, (sg_F_t (sg_F_t (sg_F_r [135] σ) (sg_F_m (L := [135]) hF3 rfl)) (sg_F_m (L := [135]) hF19 rfl)), w⟩
    have lp27 : ∀ (n31 : Nat) (v16 : Int) (v17 : Int) (σ18 : sg_S), sg_R v16 → sg_R v17 → sg_F [135] σ2 σ18 → I20 n31 v16 v17 σ18 → wx z 1 265 29 [(0, .inr (.inr (.ref 88))), (1, .inl (a1)), (2, .inl (a2)), (3, .inl (a3)), (4, .inl (v16)), (5, .inl (v17))] [] σ18 (fun v σ' => ∃ q, v = some (.inl q) ∧ (q = 0 ∨ q = 1) ∧ sg_F [135] σ σ' ∧ Q q σ') := by
      intro n31
      induction n31 using Nat.strongRecOn with
      | _ n31 ih25 =>
        intro v16 v17 σ18 r23 r24 hF19 w
        have w := w29 n31 v16 v17 σ18 r23 r24 hF19 w
        refine wk_b tt_265 2 (pc' := 32) (ls' := [(0, .inr (.inr (.ref 88))), (1, .inl (a1)), (2, .inl (a2)), (3, .inl (a3)), (4, .inl (v16)), (5, .inl (v17))]) (st' := [.inl (a2), .inl (v17)]) (σ' := σ18) rfl ?_
        refine wk_if2 tt_265 (tgt := 119) rfl rfl r24 ra2 (fun (h33 : a2 ≤ v17) => ?_) (fun (h33 : v17 < a2) => ?_)
        ·
          have w := w.1 h33
          exact wk_ls [(4, .inl (v16))] rfl ⟨rfl, trivial⟩ (ex32 (v16) σ18 r23 (sg_F_t (sg_F_r [135] σ2) (sg_F_m (L := [135]) hF19 rfl)) w)
        ·
          have w := w.2 h33
          refine wk_b tt_265 1 (pc' := 37) (ls' := [(0, .inr (.inr (.ref 88))), (1, .inl (a1)), (2, .inl (a2)), (3, .inl (a3)), (4, .inl (v16)), (5, .inl (v17))]) (st' := [.inl (v16)]) (σ' := σ18) rfl ?_
          refine wk_if tt_265 (tgt := 119) rfl rfl r23 (fun (h34 : v16 = 0) => ?_) (fun (h34 : ¬ v16 = 0) => ?_)
          ·
            have w := w.1 h34
            exact wk_ls [(4, .inl (v16))] rfl ⟨rfl, trivial⟩ (ex32 (v16) σ18 r23 (sg_F_t (sg_F_r [135] σ2) (sg_F_m (L := [135]) hF19 rfl)) w)
          ·
            have w := w.2 h34
            refine wk_b tt_265 1 (pc' := 41) (ls' := [(0, .inr (.inr (.ref 88))), (1, .inl (a1)), (2, .inl (a2)), (3, .inl (a3)), (4, .inl (v16)), (5, .inl (v17))]) (st' := [.inl (a3)]) (σ' := σ18) rfl ?_
            obtain ⟨wp, w⟩ := w
            have jn36 : ∀ v37 : Int, v37 = (if a3 = 0 then (sg_g σ 142 ((a1 + v17))) else (sg_g σ 125 ((a1 + v17)))) → sg_R v37 → wx z 1 265 65 [(0, .inr (.inr (.ref 88))), (1, .inl (a1)), (2, .inl (a2)), (3, .inl (a3)), (5, .inl (v17))] [.inl (v37)] σ18 (fun v σ' => ∃ q, v = some (.inl q) ∧ (q = 0 ∨ q = 1) ∧ sg_F [135] σ σ' ∧ Q q σ') := by
              intro v37 e39 r38
              have w := w v37 e39 r38
              obtain ⟨c40, w⟩ := w
              refine wk_b tt_265 8 (pc' := 75) (ls' := [(6, .inl (v37)), (0, .inr (.inr (.ref 88))), (1, .inl (a1)), (2, .inl (a2)), (3, .inl (a3)), (5, .inl (v17))]) (st' := [.inr (.inl ((sg_n ((a2 - 1))))), .inr (.inl (0)), .inr (.inl ((sg_n (v37))))]) (σ' := σ18) rfl ?_
              rw [show (sg_n (v37)) = v37 from by rw [sg_id r38]]
              rw [show (sg_n ((a2 - 1))) = (a2 - 1) from by rw [sg_id c40]]
              refine wk_callp tt_265 rfl rfl rfl rfl rfl tt_258 rfl (by decide) (w_in z σ18 (v37) (0) ((a2 - 1)) (sg_Rgl2 r38) (by decide) (sg_Rgl2 c40) ) ?_
              obtain ⟨wp, w⟩ := w
              have jn42 : ∀ v43 : Int, v43 = (if (v_in (v37) (0) ((a2 - 1))) = 0 then (0 : Int) else (if ¬ (sg_g σ18 135 (v37)) = (-1) then (0 : Int) else (1 : Int))) → sg_R v43 → wx z 1 265 97 [(0, .inr (.inr (.ref 88))), (1, .inl (a1)), (2, .inl (a2)), (3, .inl (a3)), (5, .inl (v17)), (6, .inl (v37))] [.inl (v43)] σ18 (fun v σ' => ∃ q, v = some (.inl q) ∧ (q = 0 ∨ q = 1) ∧ sg_F [135] σ σ' ∧ Q q σ') := by
                intro v43 e45 r44
                have w := w v43 e45 r44
                refine wk_b tt_265 2 (pc' := 101) (ls' := [(4, .inl (v43)), (0, .inr (.inr (.ref 88))), (1, .inl (a1)), (2, .inl (a2)), (3, .inl (a3)), (5, .inl (v17)), (6, .inl (v37))]) (st' := [.inl (v43)]) (σ' := σ18) rfl ?_
                obtain ⟨P48, w, w51⟩ := w
                have jn47 : ∀ (σ49 : sg_S), sg_F [135] σ18 σ49 → P48 σ49 → wx z 1 265 113 [(0, .inr (.inr (.ref 88))), (1, .inl (a1)), (2, .inl (a2)), (3, .inl (a3)), (4, .inl (v43)), (5, .inl (v17))] [] σ49 (fun v σ' => ∃ q, v = some (.inl q) ∧ (q = 0 ∨ q = 1) ∧ sg_F [135] σ σ' ∧ Q q σ') := by
                  intro σ49 hF50 w
                  have w := w51 σ49 hF50 w
                  obtain ⟨c52, w⟩ := w
                  refine wk_b tt_265 2 (pc' := 29) (ls' := [(5, .inl ((v17 + 1))), (0, .inr (.inr (.ref 88))), (1, .inl (a1)), (2, .inl (a2)), (3, .inl (a3)), (4, .inl (v43))]) (st' := []) (σ' := σ49) rfl ?_
                  obtain ⟨m53, hm53, w⟩ := w
                  exact wk_ls [(0, .inr (.inr (.ref 88))), (1, .inl (a1)), (2, .inl (a2)), (3, .inl (a3)), (4, .inl (v43)), (5, .inl ((v17 + 1)))] rfl ⟨rfl, rfl, rfl, rfl, rfl, rfl, trivial⟩ (ih25 m53 hm53 (v43) ((v17 + 1)) σ49 r44 c52 (sg_F_t (sg_F_t (sg_F_r [135] σ2) (sg_F_m (L := [135]) hF19 rfl)) (sg_F_m (L := [135]) hF50 rfl)) w)
                refine wk_if tt_265 (tgt := 113) rfl rfl r44 (fun (h46 : v43 = 0) => ?_) (fun (h46 : ¬ v43 = 0) => ?_)
                ·
                  have w := w.1 h46
                  exact wk_ls [(0, .inr (.inr (.ref 88))), (1, .inl (a1)), (2, .inl (a2)), (3, .inl (a3)), (4, .inl (v43)), (5, .inl (v17))] rfl ⟨rfl, rfl, rfl, rfl, rfl, rfl, trivial⟩ (jn47 σ18 (sg_F_r [135] σ18) w)
                ·
                  have w := w.2 h46
                  refine wk_b tt_265 4 (pc' := 112) (ls' := [(4, .inl (v43)), (0, .inr (.inr (.ref 88))), (1, .inl (a1)), (2, .inl (a2)), (3, .inl (a3)), (5, .inl (v17)), (6, .inl (v37))]) (st' := [.inl (v17), .inl (v37), .inr (.inr (.ref 135))]) (σ' := σ18) rfl ?_
                  obtain ⟨c54, w⟩ := w
                  refine wk_is tt_265 rfl rfl c54.1 c54.2 r38 ?_
                  generalize hs56 : (sg_w σ18 135 (v37) (v17)) = σ55
                  have w := w σ55 hs56.symm
                  have hF57 : sg_F [135] σ18 σ55 := by rw [← hs56]; exact sg_F_w (sg_F_r _ _) rfl _
                  exact wk_ls [(0, .inr (.inr (.ref 88))), (1, .inl (a1)), (2, .inl (a2)), (3, .inl (a3)), (4, .inl (v43)), (5, .inl (v17))] rfl ⟨rfl, rfl, rfl, rfl, rfl, rfl, trivial⟩ (jn47 σ55 (sg_F_t (sg_F_r [135] σ18) (sg_F_m (L := [135]) hF57 rfl)) w)
              have w := wp
              refine wk_if tt_265 (tgt := 96) rfl rfl (sg_Rz (vz_in ..)) (fun (h41 : (v_in (v37) (0) ((a2 - 1))) = 0) => ?_) (fun (h41 : ¬ (v_in (v37) (0) ((a2 - 1))) = 0) => ?_)
              ·
                have w := w.1 h41
                refine wk_b tt_265 1 (pc' := 97) (ls' := [(6, .inl (v37)), (0, .inr (.inr (.ref 88))), (1, .inl (a1)), (2, .inl (a2)), (3, .inl (a3)), (5, .inl (v17))]) (st' := [.inl (0)]) (σ' := σ18) rfl ?_
                exact wk_ls [(0, .inr (.inr (.ref 88))), (1, .inl (a1)), (2, .inl (a2)), (3, .inl (a3)), (5, .inl (v17)), (6, .inl (v37))] rfl ⟨rfl, rfl, rfl, rfl, rfl, rfl, trivial⟩ (jn42 (0) (by simp only [if_pos h41]) (by decide))
              ·
                have w := w.2 h41
                refine wk_b tt_265 3 (pc' := 87) (ls' := [(6, .inl (v37)), (0, .inr (.inr (.ref 88))), (1, .inl (a1)), (2, .inl (a2)), (3, .inl (a3)), (5, .inl (v17))]) (st' := [.inl (v37), .inr (.inr (.ref 135))]) (σ' := σ18) rfl ?_
                obtain ⟨c58, w⟩ := w
                refine wk_ia tt_265 rfl rfl c58.1 c58.2 r38 ?_
                refine wk_b tt_265 1 (pc' := 89) (ls' := [(6, .inl (v37)), (0, .inr (.inr (.ref 88))), (1, .inl (a1)), (2, .inl (a2)), (3, .inl (a3)), (5, .inl (v17))]) (st' := [.inl ((-1)), .inl ((sg_g σ18 135 (v37)))]) (σ' := σ18) rfl ?_
                refine wk_if2 tt_265 (tgt := 96) rfl rfl (sg_Rg _ _ _) (by decide) (fun (h59 : ¬ (sg_g σ18 135 (v37)) = (-1)) => ?_) (fun (h59 : (sg_g σ18 135 (v37)) = (-1)) => ?_)
                ·
                  have w := w.1 h59
                  refine wk_b tt_265 1 (pc' := 97) (ls' := [(6, .inl (v37)), (0, .inr (.inr (.ref 88))), (1, .inl (a1)), (2, .inl (a2)), (3, .inl (a3)), (5, .inl (v17))]) (st' := [.inl (0)]) (σ' := σ18) rfl ?_
                  exact wk_ls [(0, .inr (.inr (.ref 88))), (1, .inl (a1)), (2, .inl (a2)), (3, .inl (a3)), (5, .inl (v17)), (6, .inl (v37))] rfl ⟨rfl, rfl, rfl, rfl, rfl, rfl, trivial⟩ (jn42 (0) (by simp only [if_neg (show ¬ ((v_in (v37) (0) ((a2 - 1))) = 0) by omega), if_pos h59]) (by decide))
                ·
                  have w := w.2 h59
                  refine wk_b tt_265 2 (pc' := 97) (ls' := [(6, .inl (v37)), (0, .inr (.inr (.ref 88))), (1, .inl (a1)), (2, .inl (a2)), (3, .inl (a3)), (5, .inl (v17))]) (st' := [.inl (1)]) (σ' := σ18) rfl ?_
                  exact wk_ls [(0, .inr (.inr (.ref 88))), (1, .inl (a1)), (2, .inl (a2)), (3, .inl (a3)), (5, .inl (v17)), (6, .inl (v37))] rfl ⟨rfl, rfl, rfl, rfl, rfl, rfl, trivial⟩ (jn42 (1) (by simp only [if_neg (show ¬ ((v_in (v37) (0) ((a2 - 1))) = 0) by omega), if_neg (show ¬ (¬ (sg_g σ18 135 (v37)) = (-1)) by omega)]) (by decide))
            have w := wp
            refine wk_if tt_265 (tgt := 56) rfl rfl ra3 (fun (h35 : a3 = 0) => ?_) (fun (h35 : ¬ a3 = 0) => ?_)
            ·
              have w := w.1 h35
              obtain ⟨c60, w⟩ := w
              refine wk_b tt_265 5 (pc' := 64) (ls' := [(0, .inr (.inr (.ref 88))), (1, .inl (a1)), (2, .inl (a2)), (3, .inl (a3)), (4, .inl (v16)), (5, .inl (v17))]) (st' := [.inl ((a1 + v17)), .inr (.inr (.ref 142))]) (σ' := σ18) rfl ?_
              obtain ⟨c61, w⟩ := w
              refine wk_ia tt_265 rfl rfl c61.1 c61.2 c60 ?_
              rw [show (sg_g σ18 142 ((a1 + v17))) = (sg_g σ 142 ((a1 + v17))) from by rw [sg_F_ga hF19 rfl, sg_F_ga hF3 rfl]]
              exact wk_ls [(0, .inr (.inr (.ref 88))), (1, .inl (a1)), (2, .inl (a2)), (3, .inl (a3)), (5, .inl (v17))] rfl ⟨rfl, rfl, rfl, rfl, rfl, trivial⟩ (jn36 ((sg_g σ 142 ((a1 + v17)))) (by simp only [if_pos h35]) (sg_Rg _ _ _))
            ·
              have w := w.2 h35
              obtain ⟨c62, w⟩ := w
              refine wk_b tt_265 5 (pc' := 52) (ls' := [(0, .inr (.inr (.ref 88))), (1, .inl (a1)), (2, .inl (a2)), (3, .inl (a3)), (4, .inl (v16)), (5, .inl (v17))]) (st' := [.inl ((a1 + v17)), .inr (.inr (.ref 125))]) (σ' := σ18) rfl ?_
              obtain ⟨c63, w⟩ := w
              refine wk_ia tt_265 rfl rfl c63.1 c63.2 c62 ?_
              rw [show (sg_g σ18 125 ((a1 + v17))) = (sg_g σ 125 ((a1 + v17))) from by rw [sg_F_ga hF19 rfl, sg_F_ga hF3 rfl]]
              refine wk_b tt_265 1 (pc' := 65) (ls' := [(0, .inr (.inr (.ref 88))), (1, .inl (a1)), (2, .inl (a2)), (3, .inl (a3)), (4, .inl (v16)), (5, .inl (v17))]) (st' := [.inl ((sg_g σ 125 ((a1 + v17))))]) (σ' := σ18) rfl ?_
              exact wk_ls [(0, .inr (.inr (.ref 88))), (1, .inl (a1)), (2, .inl (a2)), (3, .inl (a3)), (5, .inl (v17))] rfl ⟨rfl, rfl, rfl, rfl, rfl, trivial⟩ (jn36 ((sg_g σ 125 ((a1 + v17)))) (by simp only [if_neg (show ¬ (a3 = 0) by omega)]) (sg_Rg _ _ _))
    exact wk_ls [(0, .inr (.inr (.ref 88))), (1, .inl (a1)), (2, .inl (a2)), (3, .inl (a3)), (4, .inl (1)), (5, .inl (0))] rfl ⟨rfl, rfl, rfl, rfl, rfl, rfl, trivial⟩ (lp27 μ21 (1) (0) σ2 (by decide) (by decide) (sg_F_r _ _) w28)
  have lp10 : ∀ (n14 : Nat) (v1 : Int) (σ2 : sg_S), sg_R v1 → sg_F [135] σ σ2 → I4 n14 v1 σ2 → wx z 1 265 3 [(0, .inr (.inr (.ref 88))), (1, .inl (a1)), (2, .inl (a2)), (3, .inl (a3)), (4, .inl (v1))] [] σ2 (fun v σ' => ∃ q, v = some (.inl q) ∧ (q = 0 ∨ q = 1) ∧ sg_F [135] σ σ' ∧ Q q σ') := by
    intro n14
    induction n14 using Nat.strongRecOn with
    | _ n14 ih8 =>
      intro v1 σ2 r7 hF3 w
      have w := w12 n14 v1 σ2 r7 hF3 w
      refine wk_b tt_265 2 (pc' := 6) (ls' := [(0, .inr (.inr (.ref 88))), (1, .inl (a1)), (2, .inl (a2)), (3, .inl (a3)), (4, .inl (v1))]) (st' := [.inl (a2), .inl (v1)]) (σ' := σ2) rfl ?_
      refine wk_if2 tt_265 (tgt := 23) rfl rfl r7 ra2 (fun (h64 : a2 ≤ v1) => ?_) (fun (h64 : v1 < a2) => ?_)
      ·
        have w := w.1 h64
        exact wk_ls [(0, .inr (.inr (.ref 88))), (1, .inl (a1)), (2, .inl (a2)), (3, .inl (a3))] rfl ⟨rfl, rfl, rfl, rfl, trivial⟩ (ex15  σ2  (sg_F_t (sg_F_r [135] σ) (sg_F_m (L := [135]) hF3 rfl)) w)
      ·
        have w := w.2 h64
        refine wk_b tt_265 4 (pc' := 16) (ls' := [(0, .inr (.inr (.ref 88))), (1, .inl (a1)), (2, .inl (a2)), (3, .inl (a3)), (4, .inl (v1))]) (st' := [.inl ((-1)), .inl (v1), .inr (.inr (.ref 135))]) (σ' := σ2) rfl ?_
        obtain ⟨c65, w⟩ := w
        refine wk_is tt_265 rfl rfl c65.1 c65.2 r7 ?_
        generalize hs67 : (sg_w σ2 135 (v1) ((-1))) = σ66
        have w := w σ66 hs67.symm
        have hF68 : sg_F [135] σ2 σ66 := by rw [← hs67]; exact sg_F_w (sg_F_r _ _) rfl _
        obtain ⟨c69, w⟩ := w
        refine wk_b tt_265 2 (pc' := 3) (ls' := [(4, .inl ((v1 + 1))), (0, .inr (.inr (.ref 88))), (1, .inl (a1)), (2, .inl (a2)), (3, .inl (a3))]) (st' := []) (σ' := σ66) rfl ?_
        obtain ⟨m70, hm70, w⟩ := w
        exact wk_ls [(0, .inr (.inr (.ref 88))), (1, .inl (a1)), (2, .inl (a2)), (3, .inl (a3)), (4, .inl ((v1 + 1)))] rfl ⟨rfl, rfl, rfl, rfl, rfl, trivial⟩ (ih8 m70 hm70 ((v1 + 1)) σ66 c69 (sg_F_t (sg_F_t (sg_F_r [135] σ) (sg_F_m (L := [135]) hF3 rfl)) (sg_F_m (L := [135]) hF68 rfl)) w)
  exact wk_ls [(0, .inr (.inr (.ref 88))), (1, .inl (a1)), (2, .inl (a2)), (3, .inl (a3)), (4, .inl (0))] rfl ⟨rfl, rfl, rfl, rfl, rfl, trivial⟩ (lp10 μ5 (0) σ (by decide) (sg_F_r _ _) w11)
-- NestedVectorsModel.permuted
def V_permuted (σ : sg_S) (a1 : Int) (a2 : Int) (a3 : Int) (Q : Int → sg_S → Prop) : Prop := (0 ≤ a2 ∧ a2 < 9000) ∧ (0 ≤ a3 ∧ a3 < 9000) ∧ (((sg_g σ 123 (a2)) = (sg_g σ 123 (a3)) → V_isOrder σ ((sg_g σ 122 (a3))) ((sg_g σ 123 (a3))) (1) (fun q4 σ5 => (q4 = 0 ∨ q4 = 1) → sg_F [135] σ σ5 → ((¬ q4 = 0 → (∃ (I14 : Nat → Int → sg_S → Prop) (X16 : sg_S → Prop), (∃ n, I14 n (0) σ5) ∧ (∀ (n24 : Nat) (v11 : Int) (σ12 : sg_S), sg_R v11 → sg_F [125, 61088] σ5 σ12 → I14 n24 v11 σ12 → (((sg_g σ 123 (a2)) ≤ v11 → X16 σ12) ∧ (v11 < (sg_g σ 123 (a2)) → (0 ≤ v11 ∧ v11 < 210) ∧ p_itemAt σ12 (a2) ((sg_g σ5 135 (v11))) ∧ V_add σ12 ((v_itemAt σ12 (a2) ((sg_g σ5 135 (v11))))) (fun σ38 => sg_F [125, 61088] σ12 σ38 → sg_R (v11 + 1) ∧ (∃ m, m < n24 ∧ I14 m ((v11 + 1)) σ38))))) ∧ (∀ (σ12 : sg_S), sg_F [125, 61088] σ5 σ12 → X16 σ12 → (0 ≤ a1 ∧ a1 < 210) ∧ V_seq σ12 ((sg_g σ 88 60)) ((sg_g σ 123 (a2))) ((sg_g σ 101 (a1))) (fun q27 σ28 => sg_R q27 → sg_F [122, 123, 124, 57088] σ12 σ28 → Q (q27) σ28)))) ∧ (q4 = 0 → V_ends σ5 (6) (fun σ46 => sg_F [74088] σ5 σ46 → Q (0) σ46))))) ∧ (¬ (sg_g σ 123 (a2)) = (sg_g σ 123 (a3)) → V_ends σ (3) (fun σ52 => sg_F [74088] σ σ52 → Q (0) σ52)))
set_option maxHeartbeats 4000000 in
set_option maxRecDepth 8000 in
theorem w_permuted (z : Value) (σ : sg_S) (a1 : Int) (a2 : Int) (a3 : Int) (Q : Int → sg_S → Prop) (ra1 : sg_R a1) (ra2 : sg_R a2) (ra3 : sg_R a3) (w : V_permuted σ a1 a2 a3 Q) : wx z 2 304 0 [(0, .inr (.inr (.ref 88))), (1, .inl (a1)), (2, .inl (a2)), (3, .inl (a3))] [] σ (fun v σ' => ∃ q, v = some (.inl q) ∧ sg_R q ∧ sg_F [122, 123, 124, 125, 135, 57088, 61088, 74088] σ σ' ∧ Q q σ') := by
  unfold V_permuted at w
  refine wk_b tt_304 6 (pc' := 11) (ls' := [(4, .inl ((sg_g σ 88 60))), (0, .inr (.inr (.ref 88))), (1, .inl (a1)), (2, .inl (a2)), (3, .inl (a3))]) (st' := [.inl (a2), .inr (.inr (.ref 123))]) (σ' := σ) rfl ?_
  obtain ⟨c1, w⟩ := w
  refine wk_ia tt_304 rfl rfl c1.1 c1.2 ra2 ?_
  refine wk_b tt_304 3 (pc' := 17) (ls' := [(4, .inl ((sg_g σ 88 60))), (0, .inr (.inr (.ref 88))), (1, .inl (a1)), (2, .inl (a2)), (3, .inl (a3))]) (st' := [.inl (a3), .inr (.inr (.ref 123)), .inl ((sg_g σ 123 (a2)))]) (σ' := σ) rfl ?_
  obtain ⟨c2, w⟩ := w
  refine wk_ia tt_304 rfl rfl c2.1 c2.2 ra3 ?_
  refine wk_if2 tt_304 (tgt := 28) rfl rfl (sg_Rg _ _ _) (sg_Rg _ _ _) (fun (h3 : (sg_g σ 123 (a2)) = (sg_g σ 123 (a3))) => ?_) (fun (h3 : ¬ (sg_g σ 123 (a2)) = (sg_g σ 123 (a3))) => ?_)
  ·
    have w := w.1 h3
    refine wk_b tt_304 4 (pc' := 34) (ls' := [(4, .inl ((sg_g σ 88 60))), (0, .inr (.inr (.ref 88))), (1, .inl (a1)), (2, .inl (a2)), (3, .inl (a3))]) (st' := [.inl (a3), .inr (.inr (.ref 122)), .inr (.inr (.ref 88))]) (σ' := σ) rfl ?_
    refine wk_ia tt_304 rfl rfl c2.1 c2.2 ra3 ?_
    refine wk_b tt_304 3 (pc' := 40) (ls' := [(4, .inl ((sg_g σ 88 60))), (0, .inr (.inr (.ref 88))), (1, .inl (a1)), (2, .inl (a2)), (3, .inl (a3))]) (st' := [.inl (a3), .inr (.inr (.ref 123)), .inl ((sg_g σ 122 (a3))), .inr (.inr (.ref 88))]) (σ' := σ) rfl ?_
    refine wk_ia tt_304 rfl rfl c2.1 c2.2 ra3 ?_
    refine wk_b tt_304 1 (pc' := 42) (ls' := [(4, .inl ((sg_g σ 88 60))), (0, .inr (.inr (.ref 88))), (1, .inl (a1)), (2, .inl (a2)), (3, .inl (a3))]) (st' := [.inl (1), .inl ((sg_g σ 123 (a3))), .inl ((sg_g σ 122 (a3))), .inr (.inr (.ref 88))]) (σ' := σ) rfl ?_
    refine wk_call tt_304 rfl rfl rfl rfl rfl tt_265 rfl (by decide) (w_isOrder z σ ((sg_g σ 122 (a3))) ((sg_g σ 123 (a3))) (1) _ (sg_Rg _ _ _) (sg_Rg _ _ _) (by decide) w) (fun u9 σ5 hq7 => ?_)
    obtain ⟨q4, rfl, r8, hF6, w⟩ := hq7
    have w := w r8 hF6
    refine wk_if tt_304 (tgt := 56) rfl rfl (sg_Rz r8) (fun (h10 : ¬ q4 = 0) => ?_) (fun (h10 : q4 = 0) => ?_)
    ·
      have w := w.1 h10
      refine wk_b tt_304 2 (pc' := 59) (ls' := [(5, .inl (0)), (4, .inl ((sg_g σ 88 60))), (0, .inr (.inr (.ref 88))), (1, .inl (a1)), (2, .inl (a2)), (3, .inl (a3))]) (st' := []) (σ' := σ5) rfl ?_
      obtain ⟨I14, X16, ⟨μ15, w21⟩, w22, w23⟩ := w
      have ex25 : ∀ (σ12 : sg_S), sg_F [125, 61088] σ5 σ12 → X16 σ12 → wx z 2 304 92 [(0, .inr (.inr (.ref 88))), (1, .inl (a1)), (2, .inl (a2)), (4, .inl ((sg_g σ 88 60)))] [] σ12 (fun v σ' => ∃ q, v = some (.inl q) ∧ sg_R q ∧ sg_F [122, 123, 124, 125, 135, 57088, 61088, 74088] σ σ' ∧ Q q σ') := by
        intro σ12 hF13 w
        have w := w23 σ12 hF13 w
        refine wk_b tt_304 5 (pc' := 100) (ls' := [(0, .inr (.inr (.ref 88))), (1, .inl (a1)), (2, .inl (a2)), (4, .inl ((sg_g σ 88 60)))]) (st' := [.inl (a2), .inr (.inr (.ref 123)), .inl ((sg_g σ 88 60)), .inr (.inr (.ref 88))]) (σ' := σ12) rfl ?_
        refine wk_ia tt_304 rfl rfl c1.1 c1.2 ra2 ?_
        rw [show (sg_g σ12 123 (a2)) = (sg_g σ 123 (a2)) from by rw [sg_F_ga hF13 rfl, sg_F_ga hF6 rfl]]
        refine wk_b tt_304 3 (pc' := 106) (ls' := [(0, .inr (.inr (.ref 88))), (1, .inl (a1)), (2, .inl (a2)), (4, .inl ((sg_g σ 88 60)))]) (st' := [.inl (a1), .inr (.inr (.ref 101)), .inl ((sg_g σ 123 (a2))), .inl ((sg_g σ 88 60)), .inr (.inr (.ref 88))]) (σ' := σ12) rfl ?_
        obtain ⟨c26, w⟩ := w
        refine wk_ia tt_304 rfl rfl c26.1 c26.2 ra1 ?_
        rw [show (sg_g σ12 101 (a1)) = (sg_g σ 101 (a1)) from by rw [sg_F_ga hF13 rfl, sg_F_ga hF6 rfl]]
        refine wk_call tt_304 rfl rfl rfl rfl rfl tt_323 rfl (by decide) (w_seq z σ12 ((sg_g σ 88 60)) ((sg_g σ 123 (a2))) ((sg_g σ 101 (a1))) _ (sg_Rg _ _ _) (sg_Rg _ _ _) (sg_Rg _ _ _) w) (fun u32 σ28 hq30 => ?_)
        obtain ⟨q27, rfl, r31, hF29, w⟩ := hq30
        have w := w r31 hF29
        exact wk_rI tt_304 rfl rfl ⟨_, rfl, r31, (sg_F_t (sg_F_t (sg_F_t (sg_F_r [122, 123, 124, 125, 135, 57088, 61088, 74088] σ) (sg_F_m (L := [122, 123, 124, 125, 135, 57088, 61088, 74088]) hF6 rfl)) (sg_F_m (L := [122, 123, 124, 125, 135, 57088, 61088, 74088]) hF13 rfl)) (sg_F_m (L := [122, 123, 124, 125, 135, 57088, 61088, 74088]) hF29 rfl)), w⟩
      have lp20 : ∀ (n24 : Nat) (v11 : Int) (σ12 : sg_S), sg_R v11 → sg_F [125, 61088] σ5 σ12 → I14 n24 v11 σ12 → wx z 2 304 59 [(0, .inr (.inr (.ref 88))), (1, .inl (a1)), (2, .inl (a2)), (4, .inl ((sg_g σ 88 60))), (5, .inl (v11))] [] σ12 (fun v σ' => ∃ q, v = some (.inl q) ∧ sg_R q ∧ sg_F [122, 123, 124, 125, 135, 57088, 61088, 74088] σ σ' ∧ Q q σ') := by
        intro n24
        induction n24 using Nat.strongRecOn with
        | _ n24 ih18 =>
          intro v11 σ12 r17 hF13 w
          have w := w22 n24 v11 σ12 r17 hF13 w
          refine wk_b tt_304 4 (pc' := 66) (ls' := [(0, .inr (.inr (.ref 88))), (1, .inl (a1)), (2, .inl (a2)), (4, .inl ((sg_g σ 88 60))), (5, .inl (v11))]) (st' := [.inl (a2), .inr (.inr (.ref 123)), .inl (v11)]) (σ' := σ12) rfl ?_
          refine wk_ia tt_304 rfl rfl c1.1 c1.2 ra2 ?_
          rw [show (sg_g σ12 123 (a2)) = (sg_g σ 123 (a2)) from by rw [sg_F_ga hF13 rfl, sg_F_ga hF6 rfl]]
          refine wk_if2 tt_304 (tgt := 92) rfl rfl r17 (sg_Rg _ _ _) (fun (h33 : (sg_g σ 123 (a2)) ≤ v11) => ?_) (fun (h33 : v11 < (sg_g σ 123 (a2))) => ?_)
          ·
            have w := w.1 h33
            exact wk_ls [(0, .inr (.inr (.ref 88))), (1, .inl (a1)), (2, .inl (a2)), (4, .inl ((sg_g σ 88 60)))] rfl ⟨rfl, rfl, rfl, rfl, trivial⟩ (ex25  σ12  (sg_F_t (sg_F_r [125, 61088] σ5) (sg_F_m (L := [125, 61088]) hF13 rfl)) w)
          ·
            have w := w.2 h33
            refine wk_b tt_304 6 (pc' := 79) (ls' := [(0, .inr (.inr (.ref 88))), (1, .inl (a1)), (2, .inl (a2)), (4, .inl ((sg_g σ 88 60))), (5, .inl (v11))]) (st' := [.inl (v11), .inr (.inr (.ref 135)), .inl (a2), .inr (.inr (.ref 88)), .inr (.inr (.ref 88))]) (σ' := σ12) rfl ?_
            obtain ⟨c34, w⟩ := w
            refine wk_ia tt_304 rfl rfl c34.1 c34.2 r17 ?_
            rw [show (sg_g σ12 135 (v11)) = (sg_g σ5 135 (v11)) from by rw [sg_F_ga hF13 rfl]]
            obtain ⟨c35, w⟩ := w
            refine wk_callp tt_304 rfl rfl rfl rfl rfl tt_270 rfl (by decide) (w_itemAt z σ12 (a2) ((sg_g σ5 135 (v11))) ra2 (sg_Rg _ _ _) c35) ?_
            have r36 := vr_itemAt σ12  (a2) ((sg_g σ5 135 (v11))) ra2 (sg_Rg _ _ _) c35
            refine wk_call tt_304 rfl rfl rfl rfl rfl tt_212 rfl (by decide) (w_add z σ12 ((v_itemAt σ12 (a2) ((sg_g σ5 135 (v11))))) _ r36 w) (fun u42 σ38 hq40 => ?_)
            obtain ⟨rfl, hF39, w⟩ := hq40
            have w := w hF39
            obtain ⟨c43, w⟩ := w
            refine wk_b tt_304 2 (pc' := 59) (ls' := [(5, .inl ((v11 + 1))), (0, .inr (.inr (.ref 88))), (1, .inl (a1)), (2, .inl (a2)), (4, .inl ((sg_g σ 88 60)))]) (st' := []) (σ' := σ38) rfl ?_
            obtain ⟨m44, hm44, w⟩ := w
            exact wk_ls [(0, .inr (.inr (.ref 88))), (1, .inl (a1)), (2, .inl (a2)), (4, .inl ((sg_g σ 88 60))), (5, .inl ((v11 + 1)))] rfl ⟨rfl, rfl, rfl, rfl, rfl, trivial⟩ (ih18 m44 hm44 ((v11 + 1)) σ38 c43 (sg_F_t (sg_F_t (sg_F_r [125, 61088] σ5) (sg_F_m (L := [125, 61088]) hF13 rfl)) (sg_F_m (L := [125, 61088]) hF39 rfl)) w)
      exact wk_ls [(0, .inr (.inr (.ref 88))), (1, .inl (a1)), (2, .inl (a2)), (4, .inl ((sg_g σ 88 60))), (5, .inl (0))] rfl ⟨rfl, rfl, rfl, rfl, rfl, trivial⟩ (lp20 μ15 (0) σ5 (by decide) (sg_F_r _ _) w21)
    ·
      have w := w.2 h10
      refine wk_b tt_304 2 (pc' := 51) (ls' := [(4, .inl ((sg_g σ 88 60))), (0, .inr (.inr (.ref 88))), (1, .inl (a1)), (2, .inl (a2)), (3, .inl (a3))]) (st' := [.inl (6), .inr (.inr (.ref 88))]) (σ' := σ5) rfl ?_
      refine wk_call tt_304 rfl rfl rfl rfl rfl tt_224 rfl (by decide) (w_ends z σ5 (6) _ (by decide) w) (fun u50 σ46 hq48 => ?_)
      obtain ⟨rfl, hF47, w⟩ := hq48
      have w := w hF47
      refine wk_b tt_304 1 (pc' := 55) (ls' := [(4, .inl ((sg_g σ 88 60))), (0, .inr (.inr (.ref 88))), (1, .inl (a1)), (2, .inl (a2)), (3, .inl (a3))]) (st' := [.inl (0)]) (σ' := σ46) rfl ?_
      exact wk_rI tt_304 rfl rfl ⟨_, rfl, (by decide), (sg_F_t (sg_F_t (sg_F_r [122, 123, 124, 125, 135, 57088, 61088, 74088] σ) (sg_F_m (L := [122, 123, 124, 125, 135, 57088, 61088, 74088]) hF6 rfl)) (sg_F_m (L := [122, 123, 124, 125, 135, 57088, 61088, 74088]) hF47 rfl)), w⟩
  ·
    have w := w.2 h3
    refine wk_b tt_304 2 (pc' := 23) (ls' := [(4, .inl ((sg_g σ 88 60))), (0, .inr (.inr (.ref 88))), (1, .inl (a1)), (2, .inl (a2)), (3, .inl (a3))]) (st' := [.inl (3), .inr (.inr (.ref 88))]) (σ' := σ) rfl ?_
    refine wk_call tt_304 rfl rfl rfl rfl rfl tt_224 rfl (by decide) (w_ends z σ (3) _ (by decide) w) (fun u56 σ52 hq54 => ?_)
    obtain ⟨rfl, hF53, w⟩ := hq54
    have w := w hF53
    refine wk_b tt_304 1 (pc' := 27) (ls' := [(4, .inl ((sg_g σ 88 60))), (0, .inr (.inr (.ref 88))), (1, .inl (a1)), (2, .inl (a2)), (3, .inl (a3))]) (st' := [.inl (0)]) (σ' := σ52) rfl ?_
    exact wk_rI tt_304 rfl rfl ⟨_, rfl, (by decide), (sg_F_t (sg_F_r [122, 123, 124, 125, 135, 57088, 61088, 74088] σ) (sg_F_m (L := [122, 123, 124, 125, 135, 57088, 61088, 74088]) hF53 rfl)), w⟩
-- NestedVectorsModel.acted
def V_acted_26 (σ : sg_S) (b1 : Int) (b2 : Int) (b3 : Int) (Q : Int → sg_S → Prop) : Prop := V_permuted σ (b1) (b2) (b3) (fun q1 σ2 => sg_R q1 → sg_F [122, 123, 124, 125, 135, 57088, 61088, 74088] σ σ2 → Q (q1) σ2)
set_option maxHeartbeats 4000000 in
set_option maxRecDepth 8000 in
theorem w_acted_26 (z : Value) (σ : sg_S) (b1 : Int) (b2 : Int) (b3 : Int) (Q : Int → sg_S → Prop) (rb1 : sg_R b1) (rb2 : sg_R b2) (rb3 : sg_R b3) (w : V_acted_26 σ b1 b2 b3 Q) : wx z 3 211 620 [(0, .inr (.inr (.ref 88))), (1, .inl (b1)), (2, .inl (b2)), (3, .inl (b3))] [] σ (fun v σ' => ∃ q, v = some (.inl q) ∧ sg_R q ∧ sg_F [122, 123, 124, 125, 135, 57088, 61088, 74088] σ σ' ∧ Q q σ') := by
  unfold V_acted_26 at w
  refine wk_b tt_211 4 (pc' := 624) (ls' := [(0, .inr (.inr (.ref 88))), (1, .inl (b1)), (2, .inl (b2)), (3, .inl (b3))]) (st' := [.inl (b3), .inl (b2), .inl (b1), .inr (.inr (.ref 88))]) (σ' := σ) rfl ?_
  refine wk_call tt_211 rfl rfl rfl rfl rfl tt_304 rfl (by decide) (w_permuted z σ (b1) (b2) (b3) _ rb1 rb2 rb3 w) (fun u6 σ2 hq4 => ?_)
  obtain ⟨q1, rfl, r5, hF3, w⟩ := hq4
  have w := w r5 hF3
  exact wk_rI tt_211 rfl rfl ⟨_, rfl, r5, (sg_F_t (sg_F_r [122, 123, 124, 125, 135, 57088, 61088, 74088] σ) (sg_F_m (L := [122, 123, 124, 125, 135, 57088, 61088, 74088]) hF3 rfl)), w⟩
-- NestedVectorsModel.parted
def V_parted (σ : sg_S) (a1 : Int) (a2 : Int) (a3 : Int) (Q : Int → sg_S → Prop) : Prop := (∃ (I5 : Nat → Int → Int → sg_S → Prop) (X7 : Int → sg_S → Prop), (∃ n, I5 n (0) (0) σ) ∧ (∀ (n16 : Nat) (v1 : Int) (v2 : Int) (σ3 : sg_S), sg_RL v1 → sg_R v2 → sg_F [74088] σ σ3 → I5 n16 v1 v2 σ3 → (0 ≤ a3 ∧ a3 < 9000) ∧ (((sg_g σ 123 (a3)) ≤ v2 → X7 (v1) σ3) ∧ (v2 < (sg_g σ 123 (a3)) → p_itemAt σ (a3) (v2) ∧ ((0 ≤ (v_itemAt σ (a3) (v2)) → p_itemAt σ (a3) (v2) ∧ sg_RL (v1 + (v_itemAt σ (a3) (v2))) ∧ sg_R (v2 + 1) ∧ (∃ m, m < n16 ∧ I5 m ((v1 + (v_itemAt σ (a3) (v2)))) ((v2 + 1)) σ3)) ∧ ((v_itemAt σ (a3) (v2)) < 0 → V_ends σ3 (5) (fun σ105 => sg_F [74088] σ3 σ105 → Q (0) σ105)))))) ∧ (∀ (v1 : Int) (σ3 : sg_S), sg_RL v1 → sg_F [74088] σ σ3 → X7 v1 σ3 → (0 ≤ a2 ∧ a2 < 9000) ∧ ((v1 = (sg_g σ 123 (a2)) → (∃ (I24 : Nat → Int → Int → sg_S → Prop) (X26 : sg_S → Prop), (∃ n, I24 n ((sg_g σ 122 (a2))) (0) σ3) ∧ (∀ (n35 : Nat) (v20 : Int) (v21 : Int) (σ22 : sg_S), sg_R v20 → sg_R v21 → sg_F [122, 123, 124, 57088] σ3 σ22 → I24 n35 v20 v21 σ22 → (0 ≤ a3 ∧ a3 < 9000) ∧ (((sg_g σ22 123 (a3)) ≤ v21 → X26 σ22) ∧ (v21 < (sg_g σ22 123 (a3)) → p_itemAt σ22 (a3) (v21) ∧ (0 ≤ a1 ∧ a1 < 210) ∧ sg_R ((sg_g σ 101 (a1)) - 1) ∧ V_seq σ22 (v20) ((v_itemAt σ22 (a3) (v21))) (((sg_g σ 101 (a1)) - 1)) (fun q77 σ78 => sg_R q77 → sg_F [122, 123, 124, 57088] σ22 σ78 → p_itemAt σ78 (a3) (v21) ∧ sg_R (v20 + (v_itemAt σ78 (a3) (v21))) ∧ sg_R (v21 + 1) ∧ (∃ m, m < n35 ∧ I24 m ((v20 + (v_itemAt σ78 (a3) (v21)))) ((v21 + 1)) σ78))))) ∧ (∀ (σ22 : sg_S), sg_F [122, 123, 124, 57088] σ3 σ22 → X26 σ22 → (∃ (I40 : Nat → Int → sg_S → Prop) (X42 : sg_S → Prop), (∃ n, I40 n (0) σ22) ∧ (∀ (n50 : Nat) (v37 : Int) (σ38 : sg_S), sg_R v37 → sg_F [125, 61088] σ22 σ38 → I40 n50 v37 σ38 → (0 ≤ a3 ∧ a3 < 9000) ∧ (((sg_g σ22 123 (a3)) ≤ v37 → X42 σ38) ∧ (v37 < (sg_g σ22 123 (a3)) → sg_R ((sg_g σ 88 56) + v37) ∧ V_add σ38 (((sg_g σ 88 56) + v37)) (fun σ64 => sg_F [125, 61088] σ38 σ64 → sg_R (v37 + 1) ∧ (∃ m, m < n50 ∧ I40 m ((v37 + 1)) σ64))))) ∧ (∀ (σ38 : sg_S), sg_F [125, 61088] σ22 σ38 → X42 σ38 → (0 ≤ a3 ∧ a3 < 9000) ∧ (0 ≤ a1 ∧ a1 < 210) ∧ V_seq σ38 ((sg_g σ 88 60)) ((sg_g σ22 123 (a3))) ((sg_g σ 101 (a1))) (fun q54 σ55 => sg_R q54 → sg_F [122, 123, 124, 57088] σ38 σ55 → Q (q54) σ55)))))) ∧ (¬ v1 = (sg_g σ 123 (a2)) → V_ends σ3 (3) (fun σ89 => sg_F [74088] σ3 σ89 → Q (0) σ89)))))
set_option maxHeartbeats 4000000 in
set_option maxRecDepth 8000 in
theorem w_parted (z : Value) (σ : sg_S) (a1 : Int) (a2 : Int) (a3 : Int) (Q : Int → sg_S → Prop) (ra1 : sg_R a1) (ra2 : sg_R a2) (ra3 : sg_R a3) (w : V_parted σ a1 a2 a3 Q) : wx z 1 303 0 [(0, .inr (.inr (.ref 88))), (1, .inl (a1)), (2, .inl (a2)), (3, .inl (a3))] [] σ (fun v σ' => ∃ q, v = some (.inl q) ∧ sg_R q ∧ sg_F [122, 123, 124, 125, 57088, 61088, 74088] σ σ' ∧ Q q σ') := by
  unfold V_parted at w
  refine wk_b tt_303 4 (pc' := 6) (ls' := [(6, .inl (0)), (4, .inr (.inl (0))), (0, .inr (.inr (.ref 88))), (1, .inl (a1)), (2, .inl (a2)), (3, .inl (a3))]) (st' := []) (σ' := σ) rfl ?_
  obtain ⟨I5, X7, ⟨μ6, w13⟩, w14, w15⟩ := w
  have ex17 : ∀ (v1 : Int) (σ3 : sg_S), sg_RL v1 → sg_F [74088] σ σ3 → X7 v1 σ3 → wx z 1 303 53 [(0, .inr (.inr (.ref 88))), (1, .inl (a1)), (2, .inl (a2)), (3, .inl (a3)), (4, .inr (.inl (v1)))] [] σ3 (fun v σ' => ∃ q, v = some (.inl q) ∧ sg_R q ∧ sg_F [122, 123, 124, 125, 57088, 61088, 74088] σ σ' ∧ Q q σ') := by
    intro v1 σ3 r8 hF4 w
    have w := w15 v1 σ3 r8 hF4 w
    refine wk_b tt_303 4 (pc' := 60) (ls' := [(0, .inr (.inr (.ref 88))), (1, .inl (a1)), (2, .inl (a2)), (3, .inl (a3)), (4, .inr (.inl (v1)))]) (st' := [.inl (a2), .inr (.inr (.ref 123)), .inr (.inl (v1))]) (σ' := σ3) rfl ?_
    obtain ⟨c18, w⟩ := w
    refine wk_ia tt_303 rfl rfl c18.1 c18.2 ra2 ?_
    rw [show (sg_g σ3 123 (a2)) = (sg_g σ 123 (a2)) from by rw [sg_F_ga hF4 rfl]]
    refine wk_b tt_303 1 (pc' := 62) (ls' := [(0, .inr (.inr (.ref 88))), (1, .inl (a1)), (2, .inl (a2)), (3, .inl (a3)), (4, .inr (.inl (v1)))]) (st' := [.inr (.inl ((sg_n ((sg_g σ 123 (a2)))))), .inr (.inl (v1))]) (σ' := σ3) rfl ?_
    rw [show (sg_n ((sg_g σ 123 (a2)))) = (sg_g σ 123 (a2)) from by rw [sg_id (sg_Rg _ _ _)]]
    refine wk_lcif tt_303 (tgt := 73) rfl rfl rfl r8 (sg_Rgl2 (sg_Rg _ _ _)) (fun (h19 : v1 = (sg_g σ 123 (a2))) => ?_) (fun (h19 : ¬ v1 = (sg_g σ 123 (a2))) => ?_)
    ·
      have w := w.1 h19
      refine wk_b tt_303 3 (pc' := 78) (ls' := [(0, .inr (.inr (.ref 88))), (1, .inl (a1)), (2, .inl (a2)), (3, .inl (a3)), (4, .inr (.inl (v1)))]) (st' := [.inl (a2), .inr (.inr (.ref 122))]) (σ' := σ3) rfl ?_
      refine wk_ia tt_303 rfl rfl c18.1 c18.2 ra2 ?_
      rw [show (sg_g σ3 122 (a2)) = (sg_g σ 122 (a2)) from by rw [sg_F_ga hF4 rfl]]
      refine wk_b tt_303 6 (pc' := 90) (ls' := [(8, .inl (0)), (7, .inl ((sg_g σ3 88 56))), (6, .inl ((sg_g σ 122 (a2)))), (0, .inr (.inr (.ref 88))), (1, .inl (a1)), (2, .inl (a2)), (3, .inl (a3)), (4, .inr (.inl (v1)))]) (st' := []) (σ' := σ3) rfl ?_
      rw [show (sg_g σ3 88 56) = (sg_g σ 88 56) from by rw [sg_F_g hF4 rfl]]
      obtain ⟨I24, X26, ⟨μ25, w32⟩, w33, w34⟩ := w
      have ex36 : ∀ (σ22 : sg_S), sg_F [122, 123, 124, 57088] σ3 σ22 → X26 σ22 → wx z 1 303 141 [(0, .inr (.inr (.ref 88))), (1, .inl (a1)), (3, .inl (a3)), (7, .inl ((sg_g σ 88 56)))] [] σ22 (fun v σ' => ∃ q, v = some (.inl q) ∧ sg_R q ∧ sg_F [122, 123, 124, 125, 57088, 61088, 74088] σ σ' ∧ Q q σ') := by
        intro σ22 hF23 w
        have w := w34 σ22 hF23 w
        refine wk_b tt_303 5 (pc' := 150) (ls' := [(9, .inl (0)), (8, .inl ((sg_g σ22 88 60))), (0, .inr (.inr (.ref 88))), (1, .inl (a1)), (3, .inl (a3)), (7, .inl ((sg_g σ 88 56)))]) (st' := []) (σ' := σ22) rfl ?_
        rw [show (sg_g σ22 88 60) = (sg_g σ 88 60) from by rw [sg_F_g hF23 rfl, sg_F_g hF4 rfl]]
        obtain ⟨I40, X42, ⟨μ41, w47⟩, w48, w49⟩ := w
        have ex51 : ∀ (σ38 : sg_S), sg_F [125, 61088] σ22 σ38 → X42 σ38 → wx z 1 303 176 [(0, .inr (.inr (.ref 88))), (1, .inl (a1)), (3, .inl (a3)), (8, .inl ((sg_g σ 88 60)))] [] σ38 (fun v σ' => ∃ q, v = some (.inl q) ∧ sg_R q ∧ sg_F [122, 123, 124, 125, 57088, 61088, 74088] σ σ' ∧ Q q σ') := by
          intro σ38 hF39 w
          have w := w49 σ38 hF39 w
          refine wk_b tt_303 5 (pc' := 184) (ls' := [(0, .inr (.inr (.ref 88))), (1, .inl (a1)), (3, .inl (a3)), (8, .inl ((sg_g σ 88 60)))]) (st' := [.inl (a3), .inr (.inr (.ref 123)), .inl ((sg_g σ 88 60)), .inr (.inr (.ref 88))]) (σ' := σ38) rfl ?_
          obtain ⟨c52, w⟩ := w
          refine wk_ia tt_303 rfl rfl c52.1 c52.2 ra3 ?_
          rw [show (sg_g σ38 123 (a3)) = (sg_g σ22 123 (a3)) from by rw [sg_F_ga hF39 rfl]]
          refine wk_b tt_303 3 (pc' := 190) (ls' := [(0, .inr (.inr (.ref 88))), (1, .inl (a1)), (3, .inl (a3)), (8, .inl ((sg_g σ 88 60)))]) (st' := [.inl (a1), .inr (.inr (.ref 101)), .inl ((sg_g σ22 123 (a3))), .inl ((sg_g σ 88 60)), .inr (.inr (.ref 88))]) (σ' := σ38) rfl ?_
          obtain ⟨c53, w⟩ := w
          refine wk_ia tt_303 rfl rfl c53.1 c53.2 ra1 ?_
          rw [show (sg_g σ38 101 (a1)) = (sg_g σ 101 (a1)) from by rw [sg_F_ga hF39 rfl, sg_F_ga hF23 rfl, sg_F_ga hF4 rfl]]
          refine wk_call tt_303 rfl rfl rfl rfl rfl tt_323 rfl (by decide) (w_seq z σ38 ((sg_g σ 88 60)) ((sg_g σ22 123 (a3))) ((sg_g σ 101 (a1))) _ (sg_Rg _ _ _) (sg_Rg _ _ _) (sg_Rg _ _ _) w) (fun u59 σ55 hq57 => ?_)
          obtain ⟨q54, rfl, r58, hF56, w⟩ := hq57
          have w := w r58 hF56
          exact wk_rI tt_303 rfl rfl ⟨_, rfl, r58, (sg_F_t (sg_F_t (sg_F_t (sg_F_t (sg_F_r [122, 123, 124, 125, 57088, 61088, 74088] σ) (sg_F_m (L := [122, 123, 124, 125, 57088, 61088, 74088]) hF4 rfl)) (sg_F_m (L := [122, 123, 124, 125, 57088, 61088, 74088]) hF23 rfl)) (sg_F_m (L := [122, 123, 124, 125, 57088, 61088, 74088]) hF39 rfl)) (sg_F_m (L := [122, 123, 124, 125, 57088, 61088, 74088]) hF56 rfl)), w⟩
        have lp46 : ∀ (n50 : Nat) (v37 : Int) (σ38 : sg_S), sg_R v37 → sg_F [125, 61088] σ22 σ38 → I40 n50 v37 σ38 → wx z 1 303 150 [(0, .inr (.inr (.ref 88))), (1, .inl (a1)), (3, .inl (a3)), (7, .inl ((sg_g σ 88 56))), (8, .inl ((sg_g σ 88 60))), (9, .inl (v37))] [] σ38 (fun v σ' => ∃ q, v = some (.inl q) ∧ sg_R q ∧ sg_F [122, 123, 124, 125, 57088, 61088, 74088] σ σ' ∧ Q q σ') := by
          intro n50
          induction n50 using Nat.strongRecOn with
          | _ n50 ih44 =>
            intro v37 σ38 r43 hF39 w
            have w := w48 n50 v37 σ38 r43 hF39 w
            refine wk_b tt_303 4 (pc' := 157) (ls' := [(0, .inr (.inr (.ref 88))), (1, .inl (a1)), (3, .inl (a3)), (7, .inl ((sg_g σ 88 56))), (8, .inl ((sg_g σ 88 60))), (9, .inl (v37))]) (st' := [.inl (a3), .inr (.inr (.ref 123)), .inl (v37)]) (σ' := σ38) rfl ?_
            obtain ⟨c60, w⟩ := w
            refine wk_ia tt_303 rfl rfl c60.1 c60.2 ra3 ?_
            rw [show (sg_g σ38 123 (a3)) = (sg_g σ22 123 (a3)) from by rw [sg_F_ga hF39 rfl]]
            refine wk_if2 tt_303 (tgt := 176) rfl rfl r43 (sg_Rg _ _ _) (fun (h61 : (sg_g σ22 123 (a3)) ≤ v37) => ?_) (fun (h61 : v37 < (sg_g σ22 123 (a3))) => ?_)
            ·
              have w := w.1 h61
              exact wk_ls [(0, .inr (.inr (.ref 88))), (1, .inl (a1)), (3, .inl (a3)), (8, .inl ((sg_g σ 88 60)))] rfl ⟨rfl, rfl, rfl, rfl, trivial⟩ (ex51  σ38  (sg_F_t (sg_F_r [125, 61088] σ22) (sg_F_m (L := [125, 61088]) hF39 rfl)) w)
            ·
              have w := w.2 h61
              obtain ⟨c62, w⟩ := w
              refine wk_b tt_303 4 (pc' := 167) (ls' := [(0, .inr (.inr (.ref 88))), (1, .inl (a1)), (3, .inl (a3)), (7, .inl ((sg_g σ 88 56))), (8, .inl ((sg_g σ 88 60))), (9, .inl (v37))]) (st' := [.inl (((sg_g σ 88 56) + v37)), .inr (.inr (.ref 88))]) (σ' := σ38) rfl ?_
              refine wk_call tt_303 rfl rfl rfl rfl rfl tt_212 rfl (by decide) (w_add z σ38 (((sg_g σ 88 56) + v37)) _ c62 w) (fun u68 σ64 hq66 => ?_)
              obtain ⟨rfl, hF65, w⟩ := hq66
              have w := w hF65
              obtain ⟨c69, w⟩ := w
              refine wk_b tt_303 2 (pc' := 150) (ls' := [(9, .inl ((v37 + 1))), (0, .inr (.inr (.ref 88))), (1, .inl (a1)), (3, .inl (a3)), (7, .inl ((sg_g σ 88 56))), (8, .inl ((sg_g σ 88 60)))]) (st' := []) (σ' := σ64) rfl ?_
              obtain ⟨m70, hm70, w⟩ := w
              exact wk_ls [(0, .inr (.inr (.ref 88))), (1, .inl (a1)), (3, .inl (a3)), (7, .inl ((sg_g σ 88 56))), (8, .inl ((sg_g σ 88 60))), (9, .inl ((v37 + 1)))] rfl ⟨rfl, rfl, rfl, rfl, rfl, rfl, trivial⟩ (ih44 m70 hm70 ((v37 + 1)) σ64 c69 (sg_F_t (sg_F_t (sg_F_r [125, 61088] σ22) (sg_F_m (L := [125, 61088]) hF39 rfl)) (sg_F_m (L := [125, 61088]) hF65 rfl)) w)
        exact wk_ls [(0, .inr (.inr (.ref 88))), (1, .inl (a1)), (3, .inl (a3)), (7, .inl ((sg_g σ 88 56))), (8, .inl ((sg_g σ 88 60))), (9, .inl (0))] rfl ⟨rfl, rfl, rfl, rfl, rfl, rfl, trivial⟩ (lp46 μ41 (0) σ22 (by decide) (sg_F_r _ _) w47)
      have lp31 : ∀ (n35 : Nat) (v20 : Int) (v21 : Int) (σ22 : sg_S), sg_R v20 → sg_R v21 → sg_F [122, 123, 124, 57088] σ3 σ22 → I24 n35 v20 v21 σ22 → wx z 1 303 90 [(0, .inr (.inr (.ref 88))), (1, .inl (a1)), (3, .inl (a3)), (6, .inl (v20)), (7, .inl ((sg_g σ 88 56))), (8, .inl (v21))] [] σ22 (fun v σ' => ∃ q, v = some (.inl q) ∧ sg_R q ∧ sg_F [122, 123, 124, 125, 57088, 61088, 74088] σ σ' ∧ Q q σ') := by
        intro n35
        induction n35 using Nat.strongRecOn with
        | _ n35 ih29 =>
          intro v20 v21 σ22 r27 r28 hF23 w
          have w := w33 n35 v20 v21 σ22 r27 r28 hF23 w
          refine wk_b tt_303 4 (pc' := 97) (ls' := [(0, .inr (.inr (.ref 88))), (1, .inl (a1)), (3, .inl (a3)), (6, .inl (v20)), (7, .inl ((sg_g σ 88 56))), (8, .inl (v21))]) (st' := [.inl (a3), .inr (.inr (.ref 123)), .inl (v21)]) (σ' := σ22) rfl ?_
          obtain ⟨c71, w⟩ := w
          refine wk_ia tt_303 rfl rfl c71.1 c71.2 ra3 ?_
          refine wk_if2 tt_303 (tgt := 141) rfl rfl r28 (sg_Rg _ _ _) (fun (h72 : (sg_g σ22 123 (a3)) ≤ v21) => ?_) (fun (h72 : v21 < (sg_g σ22 123 (a3))) => ?_)
          ·
            have w := w.1 h72
            exact wk_ls [(0, .inr (.inr (.ref 88))), (1, .inl (a1)), (3, .inl (a3)), (7, .inl ((sg_g σ 88 56)))] rfl ⟨rfl, rfl, rfl, rfl, trivial⟩ (ex36  σ22  (sg_F_t (sg_F_r [122, 123, 124, 57088] σ3) (sg_F_m (L := [122, 123, 124, 57088]) hF23 rfl)) w)
          ·
            have w := w.2 h72
            refine wk_b tt_303 5 (pc' := 108) (ls' := [(0, .inr (.inr (.ref 88))), (1, .inl (a1)), (3, .inl (a3)), (6, .inl (v20)), (7, .inl ((sg_g σ 88 56))), (8, .inl (v21))]) (st' := [.inl (v21), .inl (a3), .inr (.inr (.ref 88)), .inl (v20), .inr (.inr (.ref 88))]) (σ' := σ22) rfl ?_
            obtain ⟨c73, w⟩ := w
            refine wk_callp tt_303 rfl rfl rfl rfl rfl tt_270 rfl (by decide) (w_itemAt z σ22 (a3) (v21) ra3 r28 c73) ?_
            have r74 := vr_itemAt σ22  (a3) (v21) ra3 r28 c73
            refine wk_b tt_303 3 (pc' := 116) (ls' := [(0, .inr (.inr (.ref 88))), (1, .inl (a1)), (3, .inl (a3)), (6, .inl (v20)), (7, .inl ((sg_g σ 88 56))), (8, .inl (v21))]) (st' := [.inl (a1), .inr (.inr (.ref 101)), .inl ((v_itemAt σ22 (a3) (v21))), .inl (v20), .inr (.inr (.ref 88))]) (σ' := σ22) rfl ?_
            obtain ⟨c75, w⟩ := w
            refine wk_ia tt_303 rfl rfl c75.1 c75.2 ra1 ?_
            rw [show (sg_g σ22 101 (a1)) = (sg_g σ 101 (a1)) from by rw [sg_F_ga hF23 rfl, sg_F_ga hF4 rfl]]
            obtain ⟨c76, w⟩ := w
            refine wk_b tt_303 2 (pc' := 119) (ls' := [(0, .inr (.inr (.ref 88))), (1, .inl (a1)), (3, .inl (a3)), (6, .inl (v20)), (7, .inl ((sg_g σ 88 56))), (8, .inl (v21))]) (st' := [.inl (((sg_g σ 101 (a1)) - 1)), .inl ((v_itemAt σ22 (a3) (v21))), .inl (v20), .inr (.inr (.ref 88))]) (σ' := σ22) rfl ?_
            refine wk_call tt_303 rfl rfl rfl rfl rfl tt_323 rfl (by decide) (w_seq z σ22 (v20) ((v_itemAt σ22 (a3) (v21))) (((sg_g σ 101 (a1)) - 1)) _ r27 r74 c76 w) (fun u82 σ78 hq80 => ?_)
            obtain ⟨q77, rfl, r81, hF79, w⟩ := hq80
            have w := w r81 hF79
            refine wk_b tt_303 5 (pc' := 129) (ls' := [(0, .inr (.inr (.ref 88))), (1, .inl (a1)), (3, .inl (a3)), (6, .inl (v20)), (7, .inl ((sg_g σ 88 56))), (8, .inl (v21))]) (st' := [.inl (v21), .inl (a3), .inr (.inr (.ref 88)), .inl (v20)]) (σ' := σ78) rfl ?_
            obtain ⟨c83, w⟩ := w
            refine wk_callp tt_303 rfl rfl rfl rfl rfl tt_270 rfl (by decide) (w_itemAt z σ78 (a3) (v21) ra3 r28 c83) ?_
            have r84 := vr_itemAt σ78  (a3) (v21) ra3 r28 c83
            obtain ⟨c85, w⟩ := w
            obtain ⟨c86, w⟩ := w
            refine wk_b tt_303 4 (pc' := 90) (ls' := [(8, .inl ((v21 + 1))), (6, .inl ((v20 + (v_itemAt σ78 (a3) (v21))))), (0, .inr (.inr (.ref 88))), (1, .inl (a1)), (3, .inl (a3)), (7, .inl ((sg_g σ 88 56)))]) (st' := []) (σ' := σ78) rfl ?_
            obtain ⟨m87, hm87, w⟩ := w
            exact wk_ls [(0, .inr (.inr (.ref 88))), (1, .inl (a1)), (3, .inl (a3)), (6, .inl ((v20 + (v_itemAt σ78 (a3) (v21))))), (7, .inl ((sg_g σ 88 56))), (8, .inl ((v21 + 1)))] rfl ⟨rfl, rfl, rfl, rfl, rfl, rfl, trivial⟩ (ih29 m87 hm87 ((v20 + (v_itemAt σ78 (a3) (v21)))) ((v21 + 1)) σ78 c85 c86 (sg_F_t (sg_F_t (sg_F_r [122, 123, 124, 57088] σ3) (sg_F_m (L := [122, 123, 124, 57088]) hF23 rfl)) (sg_F_m (L := [122, 123, 124, 57088]) hF79 rfl)) w)
      exact wk_ls [(0, .inr (.inr (.ref 88))), (1, .inl (a1)), (3, .inl (a3)), (6, .inl ((sg_g σ 122 (a2)))), (7, .inl ((sg_g σ 88 56))), (8, .inl (0))] rfl ⟨rfl, rfl, rfl, rfl, rfl, rfl, trivial⟩ (lp31 μ25 ((sg_g σ 122 (a2))) (0) σ3 (sg_Rg _ _ _) (by decide) (sg_F_r _ _) w32)
    ·
      have w := w.2 h19
      refine wk_b tt_303 2 (pc' := 68) (ls' := [(0, .inr (.inr (.ref 88))), (1, .inl (a1)), (2, .inl (a2)), (3, .inl (a3)), (4, .inr (.inl (v1)))]) (st' := [.inl (3), .inr (.inr (.ref 88))]) (σ' := σ3) rfl ?_
      refine wk_call tt_303 rfl rfl rfl rfl rfl tt_224 rfl (by decide) (w_ends z σ3 (3) _ (by decide) w) (fun u93 σ89 hq91 => ?_)
      obtain ⟨rfl, hF90, w⟩ := hq91
      have w := w hF90
      refine wk_b tt_303 1 (pc' := 72) (ls' := [(0, .inr (.inr (.ref 88))), (1, .inl (a1)), (2, .inl (a2)), (3, .inl (a3)), (4, .inr (.inl (v1)))]) (st' := [.inl (0)]) (σ' := σ89) rfl ?_
      exact wk_rI tt_303 rfl rfl ⟨_, rfl, (by decide), (sg_F_t (sg_F_t (sg_F_r [122, 123, 124, 125, 57088, 61088, 74088] σ) (sg_F_m (L := [122, 123, 124, 125, 57088, 61088, 74088]) hF4 rfl)) (sg_F_m (L := [122, 123, 124, 125, 57088, 61088, 74088]) hF90 rfl)), w⟩
  have lp12 : ∀ (n16 : Nat) (v1 : Int) (v2 : Int) (σ3 : sg_S), sg_RL v1 → sg_R v2 → sg_F [74088] σ σ3 → I5 n16 v1 v2 σ3 → wx z 1 303 6 [(0, .inr (.inr (.ref 88))), (1, .inl (a1)), (2, .inl (a2)), (3, .inl (a3)), (4, .inr (.inl (v1))), (6, .inl (v2))] [] σ3 (fun v σ' => ∃ q, v = some (.inl q) ∧ sg_R q ∧ sg_F [122, 123, 124, 125, 57088, 61088, 74088] σ σ' ∧ Q q σ') := by
    intro n16
    induction n16 using Nat.strongRecOn with
    | _ n16 ih10 =>
      intro v1 v2 σ3 r8 r9 hF4 w
      have w := w14 n16 v1 v2 σ3 r8 r9 hF4 w
      refine wk_b tt_303 4 (pc' := 13) (ls' := [(0, .inr (.inr (.ref 88))), (1, .inl (a1)), (2, .inl (a2)), (3, .inl (a3)), (4, .inr (.inl (v1))), (6, .inl (v2))]) (st' := [.inl (a3), .inr (.inr (.ref 123)), .inl (v2)]) (σ' := σ3) rfl ?_
      obtain ⟨c94, w⟩ := w
      refine wk_ia tt_303 rfl rfl c94.1 c94.2 ra3 ?_
      rw [show (sg_g σ3 123 (a3)) = (sg_g σ 123 (a3)) from by rw [sg_F_ga hF4 rfl]]
      refine wk_if2 tt_303 (tgt := 53) rfl rfl r9 (sg_Rg _ _ _) (fun (h95 : (sg_g σ 123 (a3)) ≤ v2) => ?_) (fun (h95 : v2 < (sg_g σ 123 (a3))) => ?_)
      ·
        have w := w.1 h95
        exact wk_ls [(0, .inr (.inr (.ref 88))), (1, .inl (a1)), (2, .inl (a2)), (3, .inl (a3)), (4, .inr (.inl (v1)))] rfl ⟨rfl, rfl, rfl, rfl, rfl, trivial⟩ (ex17 (v1) σ3 r8 (sg_F_t (sg_F_r [74088] σ) (sg_F_m (L := [74088]) hF4 rfl)) w)
      ·
        have w := w.2 h95
        refine wk_b tt_303 3 (pc' := 21) (ls' := [(0, .inr (.inr (.ref 88))), (1, .inl (a1)), (2, .inl (a2)), (3, .inl (a3)), (4, .inr (.inl (v1))), (6, .inl (v2))]) (st' := [.inl (v2), .inl (a3), .inr (.inr (.ref 88))]) (σ' := σ3) rfl ?_
        obtain ⟨c96, w⟩ := w
        have c96 : p_itemAt σ3 (a3) (v2) := by
          rw [pF_itemAt hF4 rfl rfl]; exact c96
        refine wk_callp tt_303 rfl rfl rfl rfl rfl tt_270 rfl (by decide) (w_itemAt z σ3 (a3) (v2) ra3 r9 c96) ?_
        rw [vF_itemAt hF4 rfl rfl]
        have r97 := vr_itemAt σ  (a3) (v2) ra3 r9 (by have q := c96; rw [pF_itemAt hF4 rfl rfl] at q; exact q)
        refine wk_if tt_303 (tgt := 34) rfl rfl r97 (fun (h98 : 0 ≤ (v_itemAt σ (a3) (v2))) => ?_) (fun (h98 : (v_itemAt σ (a3) (v2)) < 0) => ?_)
        ·
          have w := w.1 h98
          refine wk_b tt_303 4 (pc' := 40) (ls' := [(0, .inr (.inr (.ref 88))), (1, .inl (a1)), (2, .inl (a2)), (3, .inl (a3)), (4, .inr (.inl (v1))), (6, .inl (v2))]) (st' := [.inl (v2), .inl (a3), .inr (.inr (.ref 88)), .inr (.inl (v1))]) (σ' := σ3) rfl ?_
          obtain ⟨c99, w⟩ := w
          have c99 : p_itemAt σ3 (a3) (v2) := by
            rw [pF_itemAt hF4 rfl rfl]; exact c99
          refine wk_callp tt_303 rfl rfl rfl rfl rfl tt_270 rfl (by decide) (w_itemAt z σ3 (a3) (v2) ra3 r9 c99) ?_
          rw [vF_itemAt hF4 rfl rfl]
          have r100 := vr_itemAt σ  (a3) (v2) ra3 r9 (by have q := c99; rw [pF_itemAt hF4 rfl rfl] at q; exact q)
          obtain ⟨c101, w⟩ := w
          obtain ⟨c102, w⟩ := w
          refine wk_b tt_303 5 (pc' := 6) (ls' := [(6, .inl ((v2 + 1))), (4, .inr (.inl ((v1 + (sg_n ((v_itemAt σ (a3) (v2)))))))), (0, .inr (.inr (.ref 88))), (1, .inl (a1)), (2, .inl (a2)), (3, .inl (a3))]) (st' := []) (σ' := σ3) rfl ?_
          rw [show (sg_n ((v_itemAt σ (a3) (v2)))) = (v_itemAt σ (a3) (v2)) from by rw [sg_id r100]]
          obtain ⟨m103, hm103, w⟩ := w
          exact wk_ls [(0, .inr (.inr (.ref 88))), (1, .inl (a1)), (2, .inl (a2)), (3, .inl (a3)), (4, .inr (.inl ((v1 + (v_itemAt σ (a3) (v2)))))), (6, .inl ((v2 + 1)))] rfl ⟨rfl, rfl, rfl, rfl, rfl, rfl, trivial⟩ (ih10 m103 hm103 ((v1 + (v_itemAt σ (a3) (v2)))) ((v2 + 1)) σ3 c101 c102 (sg_F_t (sg_F_r [74088] σ) (sg_F_m (L := [74088]) hF4 rfl)) w)
        ·
          have w := w.2 h98
          refine wk_b tt_303 2 (pc' := 29) (ls' := [(0, .inr (.inr (.ref 88))), (1, .inl (a1)), (2, .inl (a2)), (3, .inl (a3)), (4, .inr (.inl (v1))), (6, .inl (v2))]) (st' := [.inl (5), .inr (.inr (.ref 88))]) (σ' := σ3) rfl ?_
          refine wk_call tt_303 rfl rfl rfl rfl rfl tt_224 rfl (by decide) (w_ends z σ3 (5) _ (by decide) w) (fun u109 σ105 hq107 => ?_)
          obtain ⟨rfl, hF106, w⟩ := hq107
          have w := w hF106
          refine wk_b tt_303 1 (pc' := 33) (ls' := [(0, .inr (.inr (.ref 88))), (1, .inl (a1)), (2, .inl (a2)), (3, .inl (a3)), (4, .inr (.inl (v1))), (6, .inl (v2))]) (st' := [.inl (0)]) (σ' := σ105) rfl ?_
          exact wk_rI tt_303 rfl rfl ⟨_, rfl, (by decide), (sg_F_t (sg_F_t (sg_F_r [122, 123, 124, 125, 57088, 61088, 74088] σ) (sg_F_m (L := [122, 123, 124, 125, 57088, 61088, 74088]) hF4 rfl)) (sg_F_m (L := [122, 123, 124, 125, 57088, 61088, 74088]) hF106 rfl)), w⟩
  exact wk_ls [(0, .inr (.inr (.ref 88))), (1, .inl (a1)), (2, .inl (a2)), (3, .inl (a3)), (4, .inr (.inl (0))), (6, .inl (0))] rfl ⟨rfl, rfl, rfl, rfl, rfl, rfl, trivial⟩ (lp12 μ6 (0) (0) σ (by decide) (by decide) (sg_F_r _ _) w13)
