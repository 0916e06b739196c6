/-! What the methods of Checker ask for (3). -/
-- NestedVectors$Defs.find
def V_kdFind (σ : sg_S) (a1 : Int) (a2 : Int) (Q : Int → sg_S → Prop) : Prop := (∃ (I4 : Nat → Int → Prop) (X6 : Prop), (∃ n, I4 n (0)) ∧ (∀ (n14 : Nat) (v1 : Int), sg_R v1 → I4 n14 v1 → ((a2 ≤ v1 → X6 ) ∧ (v1 < a2 → ((12 ≤ v1 → X6 ) ∧ (v1 < 12 → ((¬ (sx_atl σ 20 12 (v1)) = a1 → sg_R (v1 + 1) ∧ (∃ m, m < n14 ∧ I4 m ((v1 + 1)))) ∧ ((sx_atl σ 20 12 (v1)) = a1 → Q (v1) σ))))))) ∧ (X6  → Q ((-1)) σ))
set_option maxHeartbeats 4000000 in
set_option maxRecDepth 8000 in
theorem w_kdFind (z : Value) (σ : sg_S) (a1 : Int) (a2 : Int) (Q : Int → sg_S → Prop) (ra1 : sg_RL a1) (ra2 : sg_R a2) (w : V_kdFind σ a1 a2 Q) : wx z 1 48 0 [(0, .inr (.inr (.ref 19))), (1, .inr (.inl (a1))), (3, .inl (a2))] [] σ (fun v σ' => ∃ q, v = some (.inl q) ∧ sg_R q ∧ σ = σ' ∧ Q q σ') := by
  unfold V_kdFind at w
  refine wk_b tt_48 2 (pc' := 3) (ls' := [(4, .inl (0)), (0, .inr (.inr (.ref 19))), (1, .inr (.inl (a1))), (3, .inl (a2))]) (st' := []) (σ' := σ) rfl ?_
  obtain ⟨I4, X6, ⟨μ5, w11⟩, w12, w13⟩ := w
  have ex15 : X6  → wx z 1 48 39 [] [] σ (fun v σ' => ∃ q, v = some (.inl q) ∧ sg_R q ∧ σ = σ' ∧ Q q σ') := by
    intro w
    have w := w13  w
    refine wk_b tt_48 1 (pc' := 40) (ls' := []) (st' := [.inl ((-1))]) (σ' := σ) rfl ?_
    exact wk_rI tt_48 rfl rfl ⟨_, rfl, (by decide), rfl, w⟩
  have lp10 : ∀ (n14 : Nat) (v1 : Int), sg_R v1 → I4 n14 v1 → wx z 1 48 3 [(0, .inr (.inr (.ref 19))), (1, .inr (.inl (a1))), (3, .inl (a2)), (4, .inl (v1))] [] σ (fun v σ' => ∃ q, v = some (.inl q) ∧ sg_R q ∧ σ = σ' ∧ Q q σ') := by
    intro n14
    induction n14 using Nat.strongRecOn with
    | _ n14 ih8 =>
      intro v1 r7 w
      have w := w12 n14 v1 r7 w
      refine wk_b tt_48 2 (pc' := 6) (ls' := [(0, .inr (.inr (.ref 19))), (1, .inr (.inl (a1))), (3, .inl (a2)), (4, .inl (v1))]) (st' := [.inl (a2), .inl (v1)]) (σ' := σ) rfl ?_
      refine wk_if2 tt_48 (tgt := 39) rfl rfl r7 ra2 (fun (h16 : a2 ≤ v1) => ?_) (fun (h16 : v1 < a2) => ?_)
      ·
        have w := w.1 h16
        exact wk_ls [] rfl trivial (ex15     w)
      ·
        have w := w.2 h16
        refine wk_b tt_48 2 (pc' := 13) (ls' := [(0, .inr (.inr (.ref 19))), (1, .inr (.inl (a1))), (3, .inl (a2)), (4, .inl (v1))]) (st' := [.inl (12), .inl (v1)]) (σ' := σ) rfl ?_
        refine wk_if2 tt_48 (tgt := 39) rfl rfl r7 (by decide) (fun (h17 : 12 ≤ v1) => ?_) (fun (h17 : v1 < 12) => ?_)
        ·
          have w := w.1 h17
          exact wk_ls [] rfl trivial (ex15     w)
        ·
          have w := w.2 h17
          refine wk_b tt_48 3 (pc' := 22) (ls' := [(0, .inr (.inr (.ref 19))), (1, .inr (.inl (a1))), (3, .inl (a2)), (4, .inl (v1))]) (st' := [.inl (v1), .inr (.inr (.ref 20))]) (σ' := σ) rfl ?_
          refine wk_callp tt_48 rfl rfl rfl rfl rfl tt_6 rfl (by decide) (at_l0 z σ 20 12 (v1) rfl (by decide) r7) ?_
          show wx z 1 48 25 [(0, .inr (.inr (.ref 19))), (1, .inr (.inl (a1))), (3, .inl (a2)), (4, .inl (v1))] [.inr (.inl ((sx_atl σ 20 12 (v1))))] σ (fun v σ' => ∃ q, v = some (.inl q) ∧ sg_R q ∧ σ = σ' ∧ Q q σ')
          refine wk_b tt_48 1 (pc' := 26) (ls' := [(0, .inr (.inr (.ref 19))), (1, .inr (.inl (a1))), (3, .inl (a2)), (4, .inl (v1))]) (st' := [.inr (.inl (a1)), .inr (.inl ((sx_atl σ 20 12 (v1))))]) (σ' := σ) rfl ?_
          refine wk_lcif tt_48 (tgt := 33) rfl rfl rfl (sx_Rl ..) ra1 (fun (h18 : ¬ (sx_atl σ 20 12 (v1)) = a1) => ?_) (fun (h18 : (sx_atl σ 20 12 (v1)) = a1) => ?_)
          ·
            have w := w.1 h18
            obtain ⟨c19, w⟩ := w
            refine wk_b tt_48 2 (pc' := 3) (ls' := [(4, .inl ((v1 + 1))), (0, .inr (.inr (.ref 19))), (1, .inr (.inl (a1))), (3, .inl (a2))]) (st' := []) (σ' := σ) rfl ?_
            obtain ⟨m20, hm20, w⟩ := w
            exact wk_ls [(0, .inr (.inr (.ref 19))), (1, .inr (.inl (a1))), (3, .inl (a2)), (4, .inl ((v1 + 1)))] rfl ⟨rfl, rfl, rfl, rfl, trivial⟩ (ih8 m20 hm20 ((v1 + 1))  c19  w)
          ·
            have w := w.2 h18
            refine wk_b tt_48 1 (pc' := 32) (ls' := [(0, .inr (.inr (.ref 19))), (1, .inr (.inl (a1))), (3, .inl (a2)), (4, .inl (v1))]) (st' := [.inl (v1)]) (σ' := σ) rfl ?_
            exact wk_rI tt_48 rfl rfl ⟨_, rfl, r7, rfl, w⟩
  exact wk_ls [(0, .inr (.inr (.ref 19))), (1, .inr (.inl (a1))), (3, .inl (a2)), (4, .inl (0))] rfl ⟨rfl, rfl, rfl, rfl, trivial⟩ (lp10 μ5 (0)  (by decide)  w11)
-- NestedVectors$Checker.find
def V_kFind (σ : sg_S) (a1 : Int) (Q : Int → sg_S → Prop) : Prop := ∀ v1 : Int, v1 = (if 272 < (sg_g σ 38 9) then 272 else (sg_g σ 38 9)) → sg_R v1 → sg_R (v1 - 1) ∧ (∃ (I8 : Nat → Int → Prop) (X10 : Prop), (∃ n, I8 n ((v1 - 1))) ∧ (∀ (n18 : Nat) (v5 : Int), sg_R v5 → I8 n18 v5 → ((v5 < 0 → X10 ) ∧ (0 ≤ v5 → ((¬ (sx_atl σ 39 272 (v5)) = a1 → sg_R (v5 + (-1)) ∧ (∃ m, m < n18 ∧ I8 m ((v5 + (-1))))) ∧ ((sx_atl σ 39 272 (v5)) = a1 → Q ((sx_at σ 40 272 (v5))) σ))))) ∧ (X10  → Q ((-1)) σ))
set_option maxHeartbeats 4000000 in
set_option maxRecDepth 8000 in
theorem w_kFind (z : Value) (σ : sg_S) (a1 : Int) (Q : Int → sg_S → Prop) (ra1 : sg_RL a1) (w : V_kFind σ a1 Q) : wx z 1 39 0 [(0, .inr (.inr (.ref 38))), (1, .inr (.inl (a1)))] [] σ (fun v σ' => ∃ q, v = some (.inl q) ∧ sg_R q ∧ σ = σ' ∧ Q q σ') := by
  unfold V_kFind at w
  refine wk_b tt_39 3 (pc' := 7) (ls' := [(0, .inr (.inr (.ref 38))), (1, .inr (.inl (a1)))]) (st' := [.inl (272), .inl ((sg_g σ 38 9))]) (σ' := σ) rfl ?_
  refine wk_min (k0 := 0) tt_39 rfl (sg_Rg _ _ _) (by decide) rfl ?_
  obtain ⟨v1, e2⟩ : ∃ q, q = (if 272 < (sg_g σ 38 9) then 272 else (sg_g σ 38 9)) := ⟨_, rfl⟩
  have r3 : sg_R v1 := by rw [e2]; split <;> first | exact (sg_Rg _ _ _) | exact (by decide)
  rw [← e2]
  have w := w v1 e2 r3
  obtain ⟨c4, w⟩ := w
  refine wk_b tt_39 3 (pc' := 13) (ls' := [(3, .inl ((v1 - 1))), (0, .inr (.inr (.ref 38))), (1, .inr (.inl (a1)))]) (st' := []) (σ' := σ) rfl ?_
  obtain ⟨I8, X10, ⟨μ9, w15⟩, w16, w17⟩ := w
  have ex19 : X10  → wx z 1 39 45 [] [] σ (fun v σ' => ∃ q, v = some (.inl q) ∧ sg_R q ∧ σ = σ' ∧ Q q σ') := by
    intro w
    have w := w17  w
    refine wk_b tt_39 1 (pc' := 46) (ls' := []) (st' := [.inl ((-1))]) (σ' := σ) rfl ?_
    exact wk_rI tt_39 rfl rfl ⟨_, rfl, (by decide), rfl, w⟩
  have lp14 : ∀ (n18 : Nat) (v5 : Int), sg_R v5 → I8 n18 v5 → wx z 1 39 13 [(0, .inr (.inr (.ref 38))), (1, .inr (.inl (a1))), (3, .inl (v5))] [] σ (fun v σ' => ∃ q, v = some (.inl q) ∧ sg_R q ∧ σ = σ' ∧ Q q σ') := by
    intro n18
    induction n18 using Nat.strongRecOn with
    | _ n18 ih12 =>
      intro v5 r11 w
      have w := w16 n18 v5 r11 w
      refine wk_b tt_39 1 (pc' := 14) (ls' := [(0, .inr (.inr (.ref 38))), (1, .inr (.inl (a1))), (3, .inl (v5))]) (st' := [.inl (v5)]) (σ' := σ) rfl ?_
      refine wk_if tt_39 (tgt := 45) rfl rfl r11 (fun (h20 : v5 < 0) => ?_) (fun (h20 : 0 ≤ v5) => ?_)
      ·
        have w := w.1 h20
        exact wk_ls [] rfl trivial (ex19     w)
      ·
        have w := w.2 h20
        refine wk_b tt_39 3 (pc' := 22) (ls' := [(0, .inr (.inr (.ref 38))), (1, .inr (.inl (a1))), (3, .inl (v5))]) (st' := [.inl (v5), .inr (.inr (.ref 39))]) (σ' := σ) rfl ?_
        refine wk_callp tt_39 rfl rfl rfl rfl rfl tt_6 rfl (by decide) (at_l0 z σ 39 272 (v5) rfl (by decide) r11) ?_
        show wx z 1 39 25 [(0, .inr (.inr (.ref 38))), (1, .inr (.inl (a1))), (3, .inl (v5))] [.inr (.inl ((sx_atl σ 39 272 (v5))))] σ (fun v σ' => ∃ q, v = some (.inl q) ∧ sg_R q ∧ σ = σ' ∧ Q q σ')
        refine wk_b tt_39 1 (pc' := 26) (ls' := [(0, .inr (.inr (.ref 38))), (1, .inr (.inl (a1))), (3, .inl (v5))]) (st' := [.inr (.inl (a1)), .inr (.inl ((sx_atl σ 39 272 (v5))))]) (σ' := σ) rfl ?_
        refine wk_lcif tt_39 (tgt := 39) rfl rfl rfl (sx_Rl ..) ra1 (fun (h21 : ¬ (sx_atl σ 39 272 (v5)) = a1) => ?_) (fun (h21 : (sx_atl σ 39 272 (v5)) = a1) => ?_)
        ·
          have w := w.1 h21
          obtain ⟨c22, w⟩ := w
          refine wk_b tt_39 2 (pc' := 13) (ls' := [(3, .inl ((v5 + (-1)))), (0, .inr (.inr (.ref 38))), (1, .inr (.inl (a1)))]) (st' := []) (σ' := σ) rfl ?_
          obtain ⟨m23, hm23, w⟩ := w
          exact wk_ls [(0, .inr (.inr (.ref 38))), (1, .inr (.inl (a1))), (3, .inl ((v5 + (-1))))] rfl ⟨rfl, rfl, rfl, trivial⟩ (ih12 m23 hm23 ((v5 + (-1)))  c22  w)
        ·
          have w := w.2 h21
          refine wk_b tt_39 3 (pc' := 35) (ls' := [(0, .inr (.inr (.ref 38))), (1, .inr (.inl (a1))), (3, .inl (v5))]) (st' := [.inl (v5), .inr (.inr (.ref 40))]) (σ' := σ) rfl ?_
          refine wk_callp tt_39 rfl rfl rfl rfl rfl tt_5 rfl (by decide) (at_i0 z σ 40 272 (v5) rfl (by decide) r11) ?_
          show wx z 1 39 38 [(0, .inr (.inr (.ref 38))), (1, .inr (.inl (a1))), (3, .inl (v5))] [.inl ((sx_at σ 40 272 (v5)))] σ (fun v σ' => ∃ q, v = some (.inl q) ∧ sg_R q ∧ σ = σ' ∧ Q q σ')
          exact wk_rI tt_39 rfl rfl ⟨_, rfl, (sx_R ..), rfl, w⟩
  exact wk_ls [(0, .inr (.inr (.ref 38))), (1, .inr (.inl (a1))), (3, .inl ((v1 - 1)))] rfl ⟨rfl, rfl, rfl, trivial⟩ (lp14 μ9 ((v1 - 1))  c4  w15)
-- NestedVectors$Checker.enter
def V_kEnter (σ : sg_S) (a1 : Int) (Q : sg_S → Prop) : Prop := (((sg_g σ 38 13) = 0 → V_kpAdd σ (0) (a1) (fun σ3 => sg_F [29, 30, 32, 33, 7028] σ σ3 → ∀ σ8, σ8 = (sx_put σ3 43 200 (a1) ((sx_at σ 7 200 (a1)))) → ∀ σ11, σ11 = (sx_put σ8 44 200 (a1) (0)) → ∀ σ14, σ14 = (sx_put σ11 41 200 (a1) ((sg_g σ 38 9))) → ∀ σ17, σ17 = (sx_put σ14 16 200 (a1) ((sg_g σ 38 10))) → Q σ17)) ∧ (¬ (sg_g σ 38 13) = 0 → Q σ))
set_option maxHeartbeats 4000000 in
set_option maxRecDepth 8000 in
theorem w_kEnter (z : Value) (σ : sg_S) (a1 : Int) (Q : sg_S → Prop) (ra1 : sg_R a1) (w : V_kEnter σ a1 Q) : wx z 2 38 0 [(0, .inr (.inr (.ref 38))), (1, .inl (a1))] [] σ (fun v σ' => v = none ∧ sg_F [16, 29, 30, 32, 33, 41, 43, 44, 7028] σ σ' ∧ Q σ') := by
  unfold V_kEnter at w
  refine wk_b tt_38 2 (pc' := 4) (ls' := [(0, .inr (.inr (.ref 38))), (1, .inl (a1))]) (st' := [.inl ((sg_g σ 38 13))]) (σ' := σ) rfl ?_
  refine wk_if tt_38 (tgt := 8) rfl rfl (sg_Rg _ _ _) (fun (h1 : (sg_g σ 38 13) = 0) => ?_) (fun (h1 : ¬ (sg_g σ 38 13) = 0) => ?_)
  ·
    have w := w.1 h1
    refine wk_b tt_38 4 (pc' := 14) (ls' := [(0, .inr (.inr (.ref 38))), (1, .inl (a1))]) (st' := [.inl (a1), .inl (0), .inr (.inr (.ref 28))]) (σ' := σ) rfl ?_
    refine wk_call tt_38 rfl rfl rfl rfl rfl tt_193 rfl (by decide) (w_kpAdd z σ (0) (a1) _ (by decide) ra1 w) (fun u7 σ3 hq5 => ?_)
    obtain ⟨rfl, hF4, w⟩ := hq5
    have w := w hF4
    refine wk_b tt_38 7 (pc' := 30) (ls' := [(0, .inr (.inr (.ref 38))), (1, .inl (a1))]) (st' := [.inl (a1), .inr (.inr (.ref 7)), .inl (a1), .inr (.inr (.ref 43))]) (σ' := σ3) rfl ?_
    refine wk_callp tt_38 rfl rfl rfl rfl rfl tt_5 rfl (by decide) (at_i0 z σ3 7 200 (a1) rfl (by decide) ra1) ?_
    show wx z 2 38 33 [(0, .inr (.inr (.ref 38))), (1, .inl (a1))] [.inl ((sx_at σ3 7 200 (a1))), .inl (a1), .inr (.inr (.ref 43))] σ3 (fun v σ' => v = none ∧ sg_F [16, 29, 30, 32, 33, 41, 43, 44, 7028] σ σ' ∧ Q σ')
    rw [sx_F (a := 7) (n := 200) (i := (a1)) hF4 rfl]
    refine wk_callp tt_38 rfl rfl rfl rfl rfl tt_21 rfl (by decide) (pt_i0 z σ3 43 200 (a1) ((sx_at σ 7 200 (a1))) rfl (by decide) ra1) ?_
    show wx z 2 38 36 [(0, .inr (.inr (.ref 38))), (1, .inl (a1))] [] (sx_put σ3 43 200 (a1) ((sx_at σ 7 200 (a1)))) (fun v σ' => v = none ∧ sg_F [16, 29, 30, 32, 33, 41, 43, 44, 7028] σ σ' ∧ Q σ')
    generalize hs9 : (sx_put σ3 43 200 (a1) ((sx_at σ 7 200 (a1)))) = σ8
    have w := w σ8 hs9.symm
    have hF10 : sg_F [43] σ3 σ8 := by rw [← hs9]; exact sg_F_p (sg_F_r _ _) rfl _ _ _
    refine wk_b tt_38 4 (pc' := 42) (ls' := [(0, .inr (.inr (.ref 38))), (1, .inl (a1))]) (st' := [.inl (0), .inl (a1), .inr (.inr (.ref 44))]) (σ' := σ8) rfl ?_
    refine wk_callp tt_38 rfl rfl rfl rfl rfl tt_21 rfl (by decide) (pt_i0 z σ8 44 200 (a1) (0) rfl (by decide) ra1) ?_
    show wx z 2 38 45 [(0, .inr (.inr (.ref 38))), (1, .inl (a1))] [] (sx_put σ8 44 200 (a1) (0)) (fun v σ' => v = none ∧ sg_F [16, 29, 30, 32, 33, 41, 43, 44, 7028] σ σ' ∧ Q σ')
    generalize hs12 : (sx_put σ8 44 200 (a1) (0)) = σ11
    have w := w σ11 hs12.symm
    have hF13 : sg_F [44] σ8 σ11 := by rw [← hs12]; exact sg_F_p (sg_F_r _ _) rfl _ _ _
    refine wk_b tt_38 5 (pc' := 54) (ls' := [(0, .inr (.inr (.ref 38))), (1, .inl (a1))]) (st' := [.inl ((sg_g σ11 38 9)), .inl (a1), .inr (.inr (.ref 41))]) (σ' := σ11) rfl ?_
    rw [show (sg_g σ11 38 9) = (sg_g σ 38 9) from by rw [sg_F_ga hF13 rfl, sg_F_ga hF10 rfl, sg_F_ga hF4 rfl]]
    refine wk_callp tt_38 rfl rfl rfl rfl rfl tt_21 rfl (by decide) (pt_i0 z σ11 41 200 (a1) ((sg_g σ 38 9)) rfl (by decide) ra1) ?_
    show wx z 2 38 57 [(0, .inr (.inr (.ref 38))), (1, .inl (a1))] [] (sx_put σ11 41 200 (a1) ((sg_g σ 38 9))) (fun v σ' => v = none ∧ sg_F [16, 29, 30, 32, 33, 41, 43, 44, 7028] σ σ' ∧ Q σ')
    generalize hs15 : (sx_put σ11 41 200 (a1) ((sg_g σ 38 9))) = σ14
    have w := w σ14 hs15.symm
    have hF16 : sg_F [41] σ11 σ14 := by rw [← hs15]; exact sg_F_p (sg_F_r _ _) rfl _ _ _
    refine wk_b tt_38 6 (pc' := 69) (ls' := [(0, .inr (.inr (.ref 38))), (1, .inl (a1))]) (st' := [.inl ((sg_g σ14 38 10)), .inl (a1), .inr (.inr (.ref 16))]) (σ' := σ14) rfl ?_
    rw [show (sg_g σ14 38 10) = (sg_g σ 38 10) from by rw [sg_F_ga hF16 rfl, sg_F_ga hF13 rfl, sg_F_ga hF10 rfl, sg_F_ga hF4 rfl]]
    refine wk_callp tt_38 rfl rfl rfl rfl rfl tt_21 rfl (by decide) (pt_i0 z σ14 16 200 (a1) ((sg_g σ 38 10)) rfl (by decide) ra1) ?_
    show wx z 2 38 72 [(0, .inr (.inr (.ref 38))), (1, .inl (a1))] [] (sx_put σ14 16 200 (a1) ((sg_g σ 38 10))) (fun v σ' => v = none ∧ sg_F [16, 29, 30, 32, 33, 41, 43, 44, 7028] σ σ' ∧ Q σ')
    generalize hs18 : (sx_put σ14 16 200 (a1) ((sg_g σ 38 10))) = σ17
    have w := w σ17 hs18.symm
    have hF19 : sg_F [16] σ14 σ17 := by rw [← hs18]; exact sg_F_p (sg_F_r _ _) rfl _ _ _
    exact wk_rV tt_38 rfl rfl ⟨rfl, (sg_F_t (sg_F_t (sg_F_t (sg_F_t (sg_F_t (sg_F_r [16, 29, 30, 32, 33, 41, 43, 44, 7028] σ) (sg_F_m (L := [16, 29, 30, 32, 33, 41, 43, 44, 7028]) hF4 rfl)) (sg_F_m (L := [16, 29, 30, 32, 33, 41, 43, 44, 7028]) hF10 rfl)) (sg_F_m (L := [16, 29, 30, 32, 33, 41, 43, 44, 7028]) hF13 rfl)) (sg_F_m (L := [16, 29, 30, 32, 33, 41, 43, 44, 7028]) hF16 rfl)) (sg_F_m (L := [16, 29, 30, 32, 33, 41, 43, 44, 7028]) hF19 rfl)), w⟩
  ·
    have w := w.2 h1
    exact wk_rV tt_38 rfl rfl ⟨rfl, (sg_F_r [16, 29, 30, 32, 33, 41, 43, 44, 7028] σ), w⟩
-- NestedVectors$Checker.resolve
def V_kResolve (σ : sg_S) (a1 : Int) (a2 : Int) (Q : sg_S → Prop) : Prop := (∃ P3 : Int → Prop, ((¬ a2 = 258 → V_kdFind σ ((sx_atl σ 17 200 (a1))) ((sg_g σ 38 11)) (fun q24 _ => sg_R q24 → P3 (q24))) ∧ (a2 = 258 → V_kFind σ ((sx_atl σ 17 200 (a1))) (fun q30 _ => sg_R q30 → P3 (q30)))) ∧ (∀ (v6 : Int), sg_R v6 → P3 v6 → (∃ P11 : sg_S → Prop, ((0 ≤ v6 → P11 σ) ∧ (v6 < 0 → V_kBlame σ (2) ((sx_at σ 4 200 (a1))) (fun σ19 => sg_F [13038, 14038] σ σ19 → P11 σ19))) ∧ (∀ (σ12 : sg_S), sg_F [13038, 14038] σ σ12 → P11 σ12 → ∀ σ15, σ15 = (sx_put σ12 16 200 (a1) (v6)) → Q σ15))))
set_option maxHeartbeats 4000000 in
set_option maxRecDepth 8000 in
theorem w_kResolve (z : Value) (σ : sg_S) (a1 : Int) (a2 : Int) (Q : sg_S → Prop) (ra1 : sg_R a1) (ra2 : sg_R a2) (w : V_kResolve σ a1 a2 Q) : wx z 2 43 0 [(0, .inr (.inr (.ref 38))), (1, .inl (a1)), (2, .inl (a2))] [] σ (fun v σ' => v = none ∧ sg_F [16, 13038, 14038] σ σ' ∧ Q σ') := by
  unfold V_kResolve at w
  refine wk_b tt_43 4 (pc' := 8) (ls' := [(0, .inr (.inr (.ref 38))), (1, .inl (a1)), (2, .inl (a2))]) (st' := [.inl (a1), .inr (.inr (.ref 17))]) (σ' := σ) rfl ?_
  refine wk_callp tt_43 rfl rfl rfl rfl rfl tt_6 rfl (by decide) (at_l0 z σ 17 200 (a1) rfl (by decide) ra1) ?_
  show wx z 2 43 11 [(0, .inr (.inr (.ref 38))), (1, .inl (a1)), (2, .inl (a2))] [.inr (.inl ((sx_atl σ 17 200 (a1))))] σ (fun v σ' => v = none ∧ sg_F [16, 13038, 14038] σ σ' ∧ Q σ')
  refine wk_b tt_43 3 (pc' := 16) (ls' := [(3, .inr (.inl ((sx_atl σ 17 200 (a1))))), (0, .inr (.inr (.ref 38))), (1, .inl (a1)), (2, .inl (a2))]) (st' := [.inl (258), .inl (a2)]) (σ' := σ) rfl ?_
  obtain ⟨P3, w, w8⟩ := w
  have jn2 : ∀ (v6 : Int), sg_R v6 → P3 v6 → wx z 2 43 39 [(0, .inr (.inr (.ref 38))), (1, .inl (a1))] [.inl (v6)] σ (fun v σ' => v = none ∧ sg_F [16, 13038, 14038] σ σ' ∧ Q σ') := by
    intro v6 r7 w
    have w := w8 v6 r7 w
    refine wk_b tt_43 2 (pc' := 43) (ls' := [(5, .inl (v6)), (0, .inr (.inr (.ref 38))), (1, .inl (a1))]) (st' := [.inl (v6)]) (σ' := σ) rfl ?_
    obtain ⟨P11, w, w14⟩ := w
    have jn10 : ∀ (σ12 : sg_S), sg_F [13038, 14038] σ σ12 → P11 σ12 → wx z 2 43 62 [(0, .inr (.inr (.ref 38))), (1, .inl (a1)), (5, .inl (v6))] [] σ12 (fun v σ' => v = none ∧ sg_F [16, 13038, 14038] σ σ' ∧ Q σ') := by
      intro σ12 hF13 w
      have w := w14 σ12 hF13 w
      refine wk_b tt_43 5 (pc' := 72) (ls' := [(0, .inr (.inr (.ref 38))), (1, .inl (a1)), (5, .inl (v6))]) (st' := [.inl (v6), .inl (a1), .inr (.inr (.ref 16))]) (σ' := σ12) rfl ?_
      refine wk_callp tt_43 rfl rfl rfl rfl rfl tt_21 rfl (by decide) (pt_i0 z σ12 16 200 (a1) (v6) rfl (by decide) ra1) ?_
      show wx z 2 43 75 [(0, .inr (.inr (.ref 38))), (1, .inl (a1)), (5, .inl (v6))] [] (sx_put σ12 16 200 (a1) (v6)) (fun v σ' => v = none ∧ sg_F [16, 13038, 14038] σ σ' ∧ Q σ')
      generalize hs16 : (sx_put σ12 16 200 (a1) (v6)) = σ15
      have w := w σ15 hs16.symm
      have hF17 : sg_F [16] σ12 σ15 := by rw [← hs16]; exact sg_F_p (sg_F_r _ _) rfl _ _ _
      exact wk_rV tt_43 rfl rfl ⟨rfl, (sg_F_t (sg_F_t (sg_F_r [16, 13038, 14038] σ) (sg_F_m (L := [16, 13038, 14038]) hF13 rfl)) (sg_F_m (L := [16, 13038, 14038]) hF17 rfl)), w⟩
    refine wk_if tt_43 (tgt := 62) rfl rfl r7 (fun (h9 : 0 ≤ v6) => ?_) (fun (h9 : v6 < 0) => ?_)
    ·
      have w := w.1 h9
      exact wk_ls [(0, .inr (.inr (.ref 38))), (1, .inl (a1)), (5, .inl (v6))] rfl ⟨rfl, rfl, rfl, trivial⟩ (jn10 σ (sg_F_r [13038, 14038] σ) w)
    ·
      have w := w.2 h9
      refine wk_b tt_43 6 (pc' := 56) (ls' := [(5, .inl (v6)), (0, .inr (.inr (.ref 38))), (1, .inl (a1))]) (st' := [.inl (a1), .inr (.inr (.ref 4)), .inl (2), .inr (.inr (.ref 38))]) (σ' := σ) rfl ?_
      refine wk_callp tt_43 rfl rfl rfl rfl rfl tt_5 rfl (by decide) (at_i0 z σ 4 200 (a1) rfl (by decide) ra1) ?_
      show wx z 2 43 59 [(5, .inl (v6)), (0, .inr (.inr (.ref 38))), (1, .inl (a1))] [.inl ((sx_at σ 4 200 (a1))), .inl (2), .inr (.inr (.ref 38))] σ (fun v σ' => v = none ∧ sg_F [16, 13038, 14038] σ σ' ∧ Q σ')
      refine wk_call tt_43 rfl rfl rfl rfl rfl tt_28 rfl (by decide) (w_kBlame z σ (2) ((sx_at σ 4 200 (a1))) _ (by decide) (sx_R ..) w) (fun u23 σ19 hq21 => ?_)
      obtain ⟨rfl, hF20, w⟩ := hq21
      have w := w hF20
      exact wk_ls [(0, .inr (.inr (.ref 38))), (1, .inl (a1)), (5, .inl (v6))] rfl ⟨rfl, rfl, rfl, trivial⟩ (jn10 σ19 (sg_F_t (sg_F_r [13038, 14038] σ) (sg_F_m (L := [13038, 14038]) hF20 rfl)) w)
  refine wk_if2 tt_43 (tgt := 27) rfl rfl ra2 (by decide) (fun (h1 : ¬ a2 = 258) => ?_) (fun (h1 : a2 = 258) => ?_)
  ·
    have w := w.1 h1
    refine wk_b tt_43 5 (pc' := 36) (ls' := [(3, .inr (.inl ((sx_atl σ 17 200 (a1))))), (0, .inr (.inr (.ref 38))), (1, .inl (a1)), (2, .inl (a2))]) (st' := [.inl ((sg_g σ 38 11)), .inr (.inl ((sx_atl σ 17 200 (a1)))), .inr (.inr (.ref 19))]) (σ' := σ) rfl ?_
    refine wk_call tt_43 rfl rfl rfl rfl rfl tt_48 rfl (by decide) (w_kdFind z σ ((sx_atl σ 17 200 (a1))) ((sg_g σ 38 11)) _ (sx_Rl ..) (sg_Rg _ _ _) w) (fun u29 σ25 hq27 => ?_)
    obtain ⟨q24, rfl, r28, rfl, w⟩ := hq27
    have w := w r28
    exact wk_ls [(0, .inr (.inr (.ref 38))), (1, .inl (a1))] rfl ⟨rfl, rfl, trivial⟩ (jn2 (q24) r28 w)
  ·
    have w := w.2 h1
    refine wk_b tt_43 2 (pc' := 21) (ls' := [(3, .inr (.inl ((sx_atl σ 17 200 (a1))))), (0, .inr (.inr (.ref 38))), (1, .inl (a1)), (2, .inl (a2))]) (st' := [.inr (.inl ((sx_atl σ 17 200 (a1)))), .inr (.inr (.ref 38))]) (σ' := σ) rfl ?_
    refine wk_call tt_43 rfl rfl rfl rfl rfl tt_39 rfl (by decide) (w_kFind z σ ((sx_atl σ 17 200 (a1))) _ (sx_Rl ..) w) (fun u35 σ31 hq33 => ?_)
    obtain ⟨q30, rfl, r34, rfl, w⟩ := hq33
    have w := w r34
    refine wk_b tt_43 1 (pc' := 39) (ls' := [(3, .inr (.inl ((sx_atl σ 17 200 (a1))))), (0, .inr (.inr (.ref 38))), (1, .inl (a1)), (2, .inl (a2))]) (st' := [.inl (q30)]) (σ' := σ) rfl ?_
    exact wk_ls [(0, .inr (.inr (.ref 38))), (1, .inl (a1))] rfl ⟨rfl, rfl, trivial⟩ (jn2 (q30) r34 w)
-- NestedVectors$Checker.depthOfEach
def v_kDepthOfEach (σ : sg_S) (a1 : Int) : Int := (if (sx_at σ 14 200 (a1)) < 0 then ((sx_at σ 6 200 ((sx_at σ 8 200 (a1)))) + 1) else (if (sx_at σ 6 200 ((sx_at σ 14 200 (a1)))) = 0 then ((sx_at σ 6 200 ((sx_at σ 8 200 (a1)))) + 1) else ((-1) : Int)))
def p_kDepthOfEach (σ : sg_S) (a1 : Int) : Prop := (((sx_at σ 14 200 (a1)) < 0 → sg_R ((sx_at σ 6 200 ((sx_at σ 8 200 (a1)))) + 1) ∧ True) ∧ (0 ≤ (sx_at σ 14 200 (a1)) → (((sx_at σ 6 200 ((sx_at σ 14 200 (a1)))) = 0 → sg_R ((sx_at σ 6 200 ((sx_at σ 8 200 (a1)))) + 1) ∧ True) ∧ (¬ (sx_at σ 6 200 ((sx_at σ 14 200 (a1)))) = 0 → True))))
set_option maxHeartbeats 4000000 in
set_option maxRecDepth 8000 in
theorem w_kDepthOfEach (z : Value) (σ : sg_S) (a1 : Int) (ra1 : sg_R a1) (w : p_kDepthOfEach σ a1) : wx z 1 35 0 [(0, .inr (.inr (.ref 38))), (1, .inl (a1))] [] σ (fun v σ' => v = some (.inl (v_kDepthOfEach σ a1)) ∧ σ' = σ) := by
  unfold p_kDepthOfEach at w
  refine wk_b tt_35 4 (pc' := 8) (ls' := [(0, .inr (.inr (.ref 38))), (1, .inl (a1))]) (st' := [.inl (a1), .inr (.inr (.ref 14))]) (σ' := σ) rfl ?_
  refine wk_callp tt_35 rfl rfl rfl rfl rfl tt_5 rfl (by decide) (at_i0 z σ 14 200 (a1) rfl (by decide) ra1) ?_
  show wx z 1 35 11 [(0, .inr (.inr (.ref 38))), (1, .inl (a1))] [.inl ((sx_at σ 14 200 (a1)))] σ (fun v σ' => v = some (.inl (v_kDepthOfEach σ a1)) ∧ σ' = σ)
  refine wk_b tt_35 2 (pc' := 13) (ls' := [(2, .inl ((sx_at σ 14 200 (a1)))), (0, .inr (.inr (.ref 38))), (1, .inl (a1))]) (st' := [.inl ((sx_at σ 14 200 (a1)))]) (σ' := σ) rfl ?_
  refine wk_if tt_35 (tgt := 34) rfl rfl (sx_R ..) (fun (h1 : (sx_at σ 14 200 (a1)) < 0) => ?_) (fun (h1 : 0 ≤ (sx_at σ 14 200 (a1))) => ?_)
  ·
    have w := w.1 h1
    refine wk_b tt_35 3 (pc' := 37) (ls' := [(3, .inl (0)), (2, .inl ((sx_at σ 14 200 (a1)))), (0, .inr (.inr (.ref 38))), (1, .inl (a1))]) (st' := [.inl (0)]) (σ' := σ) rfl ?_
    refine wk_if tt_35 (tgt := 44) rfl rfl (by decide) (fun _ => ?_) (fun (h : ¬ 0 = 0) => absurd h (by decide))
    refine wk_b tt_35 7 (pc' := 59) (ls' := [(3, .inl (0)), (2, .inl ((sx_at σ 14 200 (a1)))), (0, .inr (.inr (.ref 38))), (1, .inl (a1))]) (st' := [.inl (a1), .inr (.inr (.ref 8)), .inr (.inr (.ref 6))]) (σ' := σ) rfl ?_
    refine wk_callp tt_35 rfl rfl rfl rfl rfl tt_5 rfl (by decide) (at_i0 z σ 8 200 (a1) rfl (by decide) ra1) ?_
    show wx z 1 35 62 [(3, .inl (0)), (2, .inl ((sx_at σ 14 200 (a1)))), (0, .inr (.inr (.ref 38))), (1, .inl (a1))] [.inl ((sx_at σ 8 200 (a1))), .inr (.inr (.ref 6))] σ (fun v σ' => v = some (.inl (v_kDepthOfEach σ a1)) ∧ σ' = σ)
    refine wk_callp tt_35 rfl rfl rfl rfl rfl tt_5 rfl (by decide) (at_i0 z σ 6 200 ((sx_at σ 8 200 (a1))) rfl (by decide) (sx_R ..)) ?_
    show wx z 1 35 65 [(3, .inl (0)), (2, .inl ((sx_at σ 14 200 (a1)))), (0, .inr (.inr (.ref 38))), (1, .inl (a1))] [.inl ((sx_at σ 6 200 ((sx_at σ 8 200 (a1)))))] σ (fun v σ' => v = some (.inl (v_kDepthOfEach σ a1)) ∧ σ' = σ)
    obtain ⟨c2, w⟩ := w
    refine wk_b tt_35 2 (pc' := 67) (ls' := [(3, .inl (0)), (2, .inl ((sx_at σ 14 200 (a1)))), (0, .inr (.inr (.ref 38))), (1, .inl (a1))]) (st' := [.inl (((sx_at σ 6 200 ((sx_at σ 8 200 (a1)))) + 1))]) (σ' := σ) rfl ?_
    exact wk_rI tt_35 rfl rfl ⟨by rw [v_kDepthOfEach, if_pos h1], rfl⟩
  ·
    have w := w.2 h1
    refine wk_b tt_35 4 (pc' := 24) (ls' := [(2, .inl ((sx_at σ 14 200 (a1)))), (0, .inr (.inr (.ref 38))), (1, .inl (a1))]) (st' := [.inl ((sx_at σ 14 200 (a1))), .inr (.inr (.ref 6))]) (σ' := σ) rfl ?_
    refine wk_callp tt_35 rfl rfl rfl rfl rfl tt_5 rfl (by decide) (at_i0 z σ 6 200 ((sx_at σ 14 200 (a1))) rfl (by decide) (sx_R ..)) ?_
    show wx z 1 35 27 [(2, .inl ((sx_at σ 14 200 (a1)))), (0, .inr (.inr (.ref 38))), (1, .inl (a1))] [.inl ((sx_at σ 6 200 ((sx_at σ 14 200 (a1)))))] σ (fun v σ' => v = some (.inl (v_kDepthOfEach σ a1)) ∧ σ' = σ)
    refine wk_if tt_35 (tgt := 34) rfl rfl (sx_R ..) (fun (h3 : (sx_at σ 6 200 ((sx_at σ 14 200 (a1)))) = 0) => ?_) (fun (h3 : ¬ (sx_at σ 6 200 ((sx_at σ 14 200 (a1)))) = 0) => ?_)
    ·
      have w := w.1 h3
      refine wk_b tt_35 3 (pc' := 37) (ls' := [(3, .inl (0)), (2, .inl ((sx_at σ 14 200 (a1)))), (0, .inr (.inr (.ref 38))), (1, .inl (a1))]) (st' := [.inl (0)]) (σ' := σ) rfl ?_
      refine wk_if tt_35 (tgt := 44) rfl rfl (by decide) (fun _ => ?_) (fun (h : ¬ 0 = 0) => absurd h (by decide))
      refine wk_b tt_35 7 (pc' := 59) (ls' := [(3, .inl (0)), (2, .inl ((sx_at σ 14 200 (a1)))), (0, .inr (.inr (.ref 38))), (1, .inl (a1))]) (st' := [.inl (a1), .inr (.inr (.ref 8)), .inr (.inr (.ref 6))]) (σ' := σ) rfl ?_
      refine wk_callp tt_35 rfl rfl rfl rfl rfl tt_5 rfl (by decide) (at_i0 z σ 8 200 (a1) rfl (by decide) ra1) ?_
      show wx z 1 35 62 [(3, .inl (0)), (2, .inl ((sx_at σ 14 200 (a1)))), (0, .inr (.inr (.ref 38))), (1, .inl (a1))] [.inl ((sx_at σ 8 200 (a1))), .inr (.inr (.ref 6))] σ (fun v σ' => v = some (.inl (v_kDepthOfEach σ a1)) ∧ σ' = σ)
      refine wk_callp tt_35 rfl rfl rfl rfl rfl tt_5 rfl (by decide) (at_i0 z σ 6 200 ((sx_at σ 8 200 (a1))) rfl (by decide) (sx_R ..)) ?_
      show wx z 1 35 65 [(3, .inl (0)), (2, .inl ((sx_at σ 14 200 (a1)))), (0, .inr (.inr (.ref 38))), (1, .inl (a1))] [.inl ((sx_at σ 6 200 ((sx_at σ 8 200 (a1)))))] σ (fun v σ' => v = some (.inl (v_kDepthOfEach σ a1)) ∧ σ' = σ)
      obtain ⟨c4, w⟩ := w
      refine wk_b tt_35 2 (pc' := 67) (ls' := [(3, .inl (0)), (2, .inl ((sx_at σ 14 200 (a1)))), (0, .inr (.inr (.ref 38))), (1, .inl (a1))]) (st' := [.inl (((sx_at σ 6 200 ((sx_at σ 8 200 (a1)))) + 1))]) (σ' := σ) rfl ?_
      exact wk_rI tt_35 rfl rfl ⟨by rw [v_kDepthOfEach, if_neg (show ¬ ((sx_at σ 14 200 (a1)) < 0) by omega), if_pos h3], rfl⟩
    ·
      have w := w.2 h3
      refine wk_b tt_35 4 (pc' := 37) (ls' := [(3, .inl (1)), (2, .inl ((sx_at σ 14 200 (a1)))), (0, .inr (.inr (.ref 38))), (1, .inl (a1))]) (st' := [.inl (1)]) (σ' := σ) rfl ?_
      refine wk_if tt_35 (tgt := 44) rfl rfl (by decide) (fun (h : 1 = 0) => absurd h (by decide)) (fun _ => ?_)
      refine wk_b tt_35 2 (pc' := 67) (ls' := [(3, .inl (1)), (2, .inl ((sx_at σ 14 200 (a1)))), (0, .inr (.inr (.ref 38))), (1, .inl (a1))]) (st' := [.inl ((-1))]) (σ' := σ) rfl ?_
      exact wk_rI tt_35 rfl rfl ⟨by rw [v_kDepthOfEach, if_neg (show ¬ ((sx_at σ 14 200 (a1)) < 0) by omega), if_neg (show ¬ ((sx_at σ 6 200 ((sx_at σ 14 200 (a1)))) = 0) by omega)], rfl⟩
theorem vF_kDepthOfEach {L : List Nat} {σ σ' : sg_S} {a1 : Int} (hF : sg_F L σ σ') (h0 : sg_ca L 6 = true) (h1 : sg_ca L 8 = true) (h2 : sg_ca L 14 = true) : v_kDepthOfEach σ' a1 = v_kDepthOfEach σ a1 := by
  unfold v_kDepthOfEach
  simp only [sg_F_ga (k := _) hF h0, sg_F_gal (k := _) hF h0, sg_F_ga (k := _) hF h1, sg_F_gal (k := _) hF h1, sg_F_ga (k := _) hF h2, sg_F_gal (k := _) hF h2, sx_F hF h0, sx_Fl hF h0, sx_F hF h1, sx_Fl hF h1, sx_F hF h2, sx_Fl hF h2]
theorem pF_kDepthOfEach {L : List Nat} {σ σ' : sg_S} {a1 : Int} (hF : sg_F L σ σ') (h0 : sg_ca L 6 = true) (h1 : sg_ca L 8 = true) (h2 : sg_ca L 14 = true) : p_kDepthOfEach σ' a1 = p_kDepthOfEach σ a1 := by
  unfold p_kDepthOfEach
  simp only [sg_F_ga (k := _) hF h0, sg_F_gal (k := _) hF h0, sg_F_ga (k := _) hF h1, sg_F_gal (k := _) hF h1, sg_F_ga (k := _) hF h2, sg_F_gal (k := _) hF h2, sx_F hF h0, sx_Fl hF h0, sx_F hF h1, sx_Fl hF h1, sx_F hF h2, sx_Fl hF h2]
theorem vr_kDepthOfEach (σ : sg_S) (a1 : Int) (ra1 : sg_R a1) (w : p_kDepthOfEach σ a1) : sg_R (v_kDepthOfEach σ a1) := by
  unfold v_kDepthOfEach
  unfold p_kDepthOfEach at w
  by_cases h : (sx_at σ 14 200 (a1)) < 0
  · rw [if_pos h]
    first | (have w := w.1 h) | (have w := w.2.1 h) | (have w := w.2.2.1 h) | skip
    first | exact sx_R .. | exact sx_Rl .. | exact w.1 | exact w.2.1 | exact w.2.2.1 | exact sg_Rg _ _ _ | exact sg_Rgl _ _ _ | exact sg_Rr _ | exact sg_RLr _ | assumption | omega | (constructor <;> omega)
  · rw [if_neg h]
    first | (have w := w.2 (by omega)) | (have w := w.2.2 (by omega)) | (have w := w.2.2.2 (by omega)) | skip
    by_cases h : (sx_at σ 6 200 ((sx_at σ 14 200 (a1)))) = 0
    · rw [if_pos h]
      first | (have w := w.1 h) | (have w := w.2.1 h) | (have w := w.2.2.1 h) | skip
      first | exact sx_R .. | exact sx_Rl .. | exact w.1 | exact w.2.1 | exact w.2.2.1 | exact sg_Rg _ _ _ | exact sg_Rgl _ _ _ | exact sg_Rr _ | exact sg_RLr _ | assumption | omega | (constructor <;> omega)
    · rw [if_neg h]
      first | (have w := w.2 (by omega)) | (have w := w.2.2 (by omega)) | (have w := w.2.2.2 (by omega)) | skip
      decide
-- NestedVectors$Checker.depthOf
def V_kDepthOf_123 (σ : sg_S) (b1 : Int) (Q : Int → sg_S → Prop) : Prop := p_kDepthOfEach σ (b1) ∧ Q ((v_kDepthOfEach σ (b1))) σ
set_option maxHeartbeats 4000000 in
set_option maxRecDepth 8000 in
theorem w_kDepthOf_123 (z : Value) (σ : sg_S) (b1 : Int) (Q : Int → sg_S → Prop) (rb1 : sg_R b1) (w : V_kDepthOf_123 σ b1 Q) : wx z 2 32 126 [(0, .inr (.inr (.ref 38))), (1, .inl (b1))] [] σ (fun v σ' => ∃ q, v = some (.inl q) ∧ sg_R q ∧ σ = σ' ∧ Q q σ') := by
  unfold V_kDepthOf_123 at w
  refine wk_b tt_32 2 (pc' := 128) (ls' := [(0, .inr (.inr (.ref 38))), (1, .inl (b1))]) (st' := [.inl (b1), .inr (.inr (.ref 38))]) (σ' := σ) rfl ?_
  obtain ⟨c1, w⟩ := w
  refine wk_callp tt_32 rfl rfl rfl rfl rfl tt_35 rfl (by decide) (w_kDepthOfEach z σ (b1) rb1 c1) ?_
  have r2 := vr_kDepthOfEach σ  (b1) rb1 c1
  exact wk_rI tt_32 rfl rfl ⟨_, rfl, r2, rfl, w⟩
-- NestedVectors$Checker.depthOf
def V_kDepthOf_257 (σ : sg_S) (Q : Int → sg_S → Prop) : Prop := Q (0) σ
set_option maxHeartbeats 4000000 in
set_option maxRecDepth 8000 in
theorem w_kDepthOf_257 (z : Value) (σ : sg_S) (Q : Int → sg_S → Prop)  (w : V_kDepthOf_257 σ  Q) : wx z 0 32 68 [] [] σ (fun v σ' => ∃ q, v = some (.inl q) ∧ sg_R q ∧ σ = σ' ∧ Q q σ') := by
  unfold V_kDepthOf_257 at w
  refine wk_b tt_32 1 (pc' := 69) (ls' := []) (st' := [.inl (0)]) (σ' := σ) rfl ?_
  exact wk_rI tt_32 rfl rfl ⟨_, rfl, (by decide), rfl, w⟩
-- NestedVectors$Checker.depthOf
def V_kDepthOf_258 (σ : sg_S) (b1 : Int) (Q : Int → sg_S → Prop) : Prop := Q ((sx_at σ 34 272 ((sx_at σ 16 200 (b1))))) σ
set_option maxHeartbeats 4000000 in
set_option maxRecDepth 8000 in
theorem w_kDepthOf_258 (z : Value) (σ : sg_S) (b1 : Int) (Q : Int → sg_S → Prop) (rb1 : sg_R b1) (w : V_kDepthOf_258 σ b1 Q) : wx z 1 32 70 [(0, .inr (.inr (.ref 38))), (1, .inl (b1))] [] σ (fun v σ' => ∃ q, v = some (.inl q) ∧ sg_R q ∧ σ = σ' ∧ Q q σ') := by
  unfold V_kDepthOf_258 at w
  refine wk_b tt_32 7 (pc' := 85) (ls' := [(0, .inr (.inr (.ref 38))), (1, .inl (b1))]) (st' := [.inl (b1), .inr (.inr (.ref 16)), .inr (.inr (.ref 34))]) (σ' := σ) rfl ?_
  refine wk_callp tt_32 rfl rfl rfl rfl rfl tt_5 rfl (by decide) (at_i0 z σ 16 200 (b1) rfl (by decide) rb1) ?_
  show wx z 1 32 88 [(0, .inr (.inr (.ref 38))), (1, .inl (b1))] [.inl ((sx_at σ 16 200 (b1))), .inr (.inr (.ref 34))] σ (fun v σ' => ∃ q, v = some (.inl q) ∧ sg_R q ∧ σ = σ' ∧ Q q σ')
  refine wk_callp tt_32 rfl rfl rfl rfl rfl tt_5 rfl (by decide) (at_i0 z σ 34 272 ((sx_at σ 16 200 (b1))) rfl (by decide) (sx_R ..)) ?_
  show wx z 1 32 91 [(0, .inr (.inr (.ref 38))), (1, .inl (b1))] [.inl ((sx_at σ 34 272 ((sx_at σ 16 200 (b1)))))] σ (fun v σ' => ∃ q, v = some (.inl q) ∧ sg_R q ∧ σ = σ' ∧ Q q σ')
  exact wk_rI tt_32 rfl rfl ⟨_, rfl, (sx_R ..), rfl, w⟩
-- NestedVectors$Checker.depthOf
def V_kDepthOf_262 (σ : sg_S) (b1 : Int) (Q : Int → sg_S → Prop) : Prop := Q ((sx_at σ 6 200 ((sx_at σ 8 200 (b1))))) σ
set_option maxHeartbeats 4000000 in
set_option maxRecDepth 8000 in
theorem w_kDepthOf_262 (z : Value) (σ : sg_S) (b1 : Int) (Q : Int → sg_S → Prop) (rb1 : sg_R b1) (w : V_kDepthOf_262 σ b1 Q) : wx z 1 32 92 [(0, .inr (.inr (.ref 38))), (1, .inl (b1))] [] σ (fun v σ' => ∃ q, v = some (.inl q) ∧ sg_R q ∧ σ = σ' ∧ Q q σ') := by
  unfold V_kDepthOf_262 at w
  refine wk_b tt_32 7 (pc' := 107) (ls' := [(0, .inr (.inr (.ref 38))), (1, .inl (b1))]) (st' := [.inl (b1), .inr (.inr (.ref 8)), .inr (.inr (.ref 6))]) (σ' := σ) rfl ?_
  refine wk_callp tt_32 rfl rfl rfl rfl rfl tt_5 rfl (by decide) (at_i0 z σ 8 200 (b1) rfl (by decide) rb1) ?_
  show wx z 1 32 110 [(0, .inr (.inr (.ref 38))), (1, .inl (b1))] [.inl ((sx_at σ 8 200 (b1))), .inr (.inr (.ref 6))] σ (fun v σ' => ∃ q, v = some (.inl q) ∧ sg_R q ∧ σ = σ' ∧ Q q σ')
  refine wk_callp tt_32 rfl rfl rfl rfl rfl tt_5 rfl (by decide) (at_i0 z σ 6 200 ((sx_at σ 8 200 (b1))) rfl (by decide) (sx_R ..)) ?_
  show wx z 1 32 113 [(0, .inr (.inr (.ref 38))), (1, .inl (b1))] [.inl ((sx_at σ 6 200 ((sx_at σ 8 200 (b1)))))] σ (fun v σ' => ∃ q, v = some (.inl q) ∧ sg_R q ∧ σ = σ' ∧ Q q σ')
  exact wk_rI tt_32 rfl rfl ⟨_, rfl, (sx_R ..), rfl, w⟩
-- NestedVectors$Checker.depthOfChoice
def v_kDepthOfChoice (σ : sg_S) (a1 : Int) : Int := (if ¬ (sx_at σ 6 200 ((sx_at σ 9 200 ((sx_at σ 7 200 (a1)))))) = (sx_at σ 6 200 ((sx_at σ 8 200 (a1)))) then ((-1) : Int) else (if ¬ (sx_at σ 6 200 ((sx_at σ 7 200 (a1)))) = 0 then ((-1) : Int) else (sx_at σ 6 200 ((sx_at σ 8 200 (a1))))))
set_option maxHeartbeats 4000000 in
set_option maxRecDepth 8000 in
theorem w_kDepthOfChoice (z : Value) (σ : sg_S) (a1 : Int) (ra1 : sg_R a1) : wx z 1 34 0 [(0, .inr (.inr (.ref 38))), (1, .inl (a1))] [] σ (fun v σ' => v = some (.inl (v_kDepthOfChoice σ a1)) ∧ σ' = σ) := by
  refine wk_b tt_34 7 (pc' := 15) (ls' := [(0, .inr (.inr (.ref 38))), (1, .inl (a1))]) (st' := [.inl (a1), .inr (.inr (.ref 8)), .inr (.inr (.ref 6))]) (σ' := σ) rfl ?_
  refine wk_callp tt_34 rfl rfl rfl rfl rfl tt_5 rfl (by decide) (at_i0 z σ 8 200 (a1) rfl (by decide) ra1) ?_
  show wx z 1 34 18 [(0, .inr (.inr (.ref 38))), (1, .inl (a1))] [.inl ((sx_at σ 8 200 (a1))), .inr (.inr (.ref 6))] σ (fun v σ' => v = some (.inl (v_kDepthOfChoice σ a1)) ∧ σ' = σ)
  refine wk_callp tt_34 rfl rfl rfl rfl rfl tt_5 rfl (by decide) (at_i0 z σ 6 200 ((sx_at σ 8 200 (a1))) rfl (by decide) (sx_R ..)) ?_
  show wx z 1 34 21 [(0, .inr (.inr (.ref 38))), (1, .inl (a1))] [.inl ((sx_at σ 6 200 ((sx_at σ 8 200 (a1)))))] σ (fun v σ' => v = some (.inl (v_kDepthOfChoice σ a1)) ∧ σ' = σ)
  refine wk_b tt_34 5 (pc' := 30) (ls' := [(2, .inl ((sx_at σ 6 200 ((sx_at σ 8 200 (a1)))))), (0, .inr (.inr (.ref 38))), (1, .inl (a1))]) (st' := [.inl (a1), .inr (.inr (.ref 7))]) (σ' := σ) rfl ?_
  refine wk_callp tt_34 rfl rfl rfl rfl rfl tt_5 rfl (by decide) (at_i0 z σ 7 200 (a1) rfl (by decide) ra1) ?_
  show wx z 1 34 33 [(2, .inl ((sx_at σ 6 200 ((sx_at σ 8 200 (a1)))))), (0, .inr (.inr (.ref 38))), (1, .inl (a1))] [.inl ((sx_at σ 7 200 (a1)))] σ (fun v σ' => v = some (.inl (v_kDepthOfChoice σ a1)) ∧ σ' = σ)
  refine wk_b tt_34 8 (pc' := 49) (ls' := [(3, .inl ((sx_at σ 7 200 (a1)))), (2, .inl ((sx_at σ 6 200 ((sx_at σ 8 200 (a1)))))), (0, .inr (.inr (.ref 38))), (1, .inl (a1))]) (st' := [.inl ((sx_at σ 7 200 (a1))), .inr (.inr (.ref 9)), .inr (.inr (.ref 6))]) (σ' := σ) rfl ?_
  refine wk_callp tt_34 rfl rfl rfl rfl rfl tt_5 rfl (by decide) (at_i0 z σ 9 200 ((sx_at σ 7 200 (a1))) rfl (by decide) (sx_R ..)) ?_
  show wx z 1 34 52 [(3, .inl ((sx_at σ 7 200 (a1)))), (2, .inl ((sx_at σ 6 200 ((sx_at σ 8 200 (a1)))))), (0, .inr (.inr (.ref 38))), (1, .inl (a1))] [.inl ((sx_at σ 9 200 ((sx_at σ 7 200 (a1))))), .inr (.inr (.ref 6))] σ (fun v σ' => v = some (.inl (v_kDepthOfChoice σ a1)) ∧ σ' = σ)
  refine wk_callp tt_34 rfl rfl rfl rfl rfl tt_5 rfl (by decide) (at_i0 z σ 6 200 ((sx_at σ 9 200 ((sx_at σ 7 200 (a1))))) rfl (by decide) (sx_R ..)) ?_
  show wx z 1 34 55 [(3, .inl ((sx_at σ 7 200 (a1)))), (2, .inl ((sx_at σ 6 200 ((sx_at σ 8 200 (a1)))))), (0, .inr (.inr (.ref 38))), (1, .inl (a1))] [.inl ((sx_at σ 6 200 ((sx_at σ 9 200 ((sx_at σ 7 200 (a1)))))))] σ (fun v σ' => v = some (.inl (v_kDepthOfChoice σ a1)) ∧ σ' = σ)
  refine wk_b tt_34 1 (pc' := 56) (ls' := [(3, .inl ((sx_at σ 7 200 (a1)))), (2, .inl ((sx_at σ 6 200 ((sx_at σ 8 200 (a1)))))), (0, .inr (.inr (.ref 38))), (1, .inl (a1))]) (st' := [.inl ((sx_at σ 6 200 ((sx_at σ 8 200 (a1))))), .inl ((sx_at σ 6 200 ((sx_at σ 9 200 ((sx_at σ 7 200 (a1)))))))]) (σ' := σ) rfl ?_
  refine wk_if2 tt_34 (tgt := 63) rfl rfl (sx_R ..) (sx_R ..) (fun (h1 : ¬ (sx_at σ 6 200 ((sx_at σ 9 200 ((sx_at σ 7 200 (a1)))))) = (sx_at σ 6 200 ((sx_at σ 8 200 (a1))))) => ?_) (fun (h1 : (sx_at σ 6 200 ((sx_at σ 9 200 ((sx_at σ 7 200 (a1)))))) = (sx_at σ 6 200 ((sx_at σ 8 200 (a1))))) => ?_)
  ·
    refine wk_b tt_34 3 (pc' := 68) (ls' := [(4, .inl (0)), (3, .inl ((sx_at σ 7 200 (a1)))), (2, .inl ((sx_at σ 6 200 ((sx_at σ 8 200 (a1)))))), (0, .inr (.inr (.ref 38))), (1, .inl (a1))]) (st' := [.inl (0)]) (σ' := σ) rfl ?_
    refine wk_if tt_34 (tgt := 89) rfl rfl (by decide) (fun _ => ?_) (fun (h : ¬ 0 = 0) => absurd h (by decide))
    refine wk_b tt_34 1 (pc' := 90) (ls' := [(4, .inl (0)), (3, .inl ((sx_at σ 7 200 (a1)))), (2, .inl ((sx_at σ 6 200 ((sx_at σ 8 200 (a1)))))), (0, .inr (.inr (.ref 38))), (1, .inl (a1))]) (st' := [.inl ((-1))]) (σ' := σ) rfl ?_
    exact wk_rI tt_34 rfl rfl ⟨by rw [v_kDepthOfChoice, if_pos h1], rfl⟩
  ·
    refine wk_b tt_34 4 (pc' := 68) (ls' := [(4, .inl (1)), (3, .inl ((sx_at σ 7 200 (a1)))), (2, .inl ((sx_at σ 6 200 ((sx_at σ 8 200 (a1)))))), (0, .inr (.inr (.ref 38))), (1, .inl (a1))]) (st' := [.inl (1)]) (σ' := σ) rfl ?_
    refine wk_if tt_34 (tgt := 89) rfl rfl (by decide) (fun (h : 1 = 0) => absurd h (by decide)) (fun _ => ?_)
    refine wk_b tt_34 4 (pc' := 79) (ls' := [(4, .inl (1)), (3, .inl ((sx_at σ 7 200 (a1)))), (2, .inl ((sx_at σ 6 200 ((sx_at σ 8 200 (a1)))))), (0, .inr (.inr (.ref 38))), (1, .inl (a1))]) (st' := [.inl ((sx_at σ 7 200 (a1))), .inr (.inr (.ref 6))]) (σ' := σ) rfl ?_
    refine wk_callp tt_34 rfl rfl rfl rfl rfl tt_5 rfl (by decide) (at_i0 z σ 6 200 ((sx_at σ 7 200 (a1))) rfl (by decide) (sx_R ..)) ?_
    show wx z 1 34 82 [(4, .inl (1)), (3, .inl ((sx_at σ 7 200 (a1)))), (2, .inl ((sx_at σ 6 200 ((sx_at σ 8 200 (a1)))))), (0, .inr (.inr (.ref 38))), (1, .inl (a1))] [.inl ((sx_at σ 6 200 ((sx_at σ 7 200 (a1)))))] σ (fun v σ' => v = some (.inl (v_kDepthOfChoice σ a1)) ∧ σ' = σ)
    refine wk_if tt_34 (tgt := 89) rfl rfl (sx_R ..) (fun (h2 : ¬ (sx_at σ 6 200 ((sx_at σ 7 200 (a1)))) = 0) => ?_) (fun (h2 : (sx_at σ 6 200 ((sx_at σ 7 200 (a1)))) = 0) => ?_)
    ·
      refine wk_b tt_34 1 (pc' := 90) (ls' := [(4, .inl (1)), (3, .inl ((sx_at σ 7 200 (a1)))), (2, .inl ((sx_at σ 6 200 ((sx_at σ 8 200 (a1)))))), (0, .inr (.inr (.ref 38))), (1, .inl (a1))]) (st' := [.inl ((-1))]) (σ' := σ) rfl ?_
      exact wk_rI tt_34 rfl rfl ⟨by rw [v_kDepthOfChoice, if_neg (show ¬ (¬ (sx_at σ 6 200 ((sx_at σ 9 200 ((sx_at σ 7 200 (a1)))))) = (sx_at σ 6 200 ((sx_at σ 8 200 (a1))))) by omega), if_pos h2], rfl⟩
    ·
      refine wk_b tt_34 2 (pc' := 90) (ls' := [(4, .inl (1)), (3, .inl ((sx_at σ 7 200 (a1)))), (2, .inl ((sx_at σ 6 200 ((sx_at σ 8 200 (a1)))))), (0, .inr (.inr (.ref 38))), (1, .inl (a1))]) (st' := [.inl ((sx_at σ 6 200 ((sx_at σ 8 200 (a1)))))]) (σ' := σ) rfl ?_
      exact wk_rI tt_34 rfl rfl ⟨by rw [v_kDepthOfChoice, if_neg (show ¬ (¬ (sx_at σ 6 200 ((sx_at σ 9 200 ((sx_at σ 7 200 (a1)))))) = (sx_at σ 6 200 ((sx_at σ 8 200 (a1))))) by omega), if_neg (show ¬ (¬ (sx_at σ 6 200 ((sx_at σ 7 200 (a1)))) = 0) by omega)], rfl⟩
theorem vF_kDepthOfChoice {L : List Nat} {σ σ' : sg_S} {a1 : Int} (hF : sg_F L σ σ') (h0 : sg_ca L 6 = true) (h1 : sg_ca L 7 = true) (h2 : sg_ca L 8 = true) (h3 : sg_ca L 9 = true) : v_kDepthOfChoice σ' a1 = v_kDepthOfChoice σ a1 := by
  unfold v_kDepthOfChoice
  simp only [sg_F_ga (k := _) hF h0, sg_F_gal (k := _) hF h0, sg_F_ga (k := _) hF h1, sg_F_gal (k := _) hF h1, sg_F_ga (k := _) hF h2, sg_F_gal (k := _) hF h2, sg_F_ga (k := _) hF h3, sg_F_gal (k := _) hF h3, sx_F hF h0, sx_Fl hF h0, sx_F hF h1, sx_Fl hF h1, sx_F hF h2, sx_Fl hF h2, sx_F hF h3, sx_Fl hF h3]
theorem vr_kDepthOfChoice (σ : sg_S) (a1 : Int) (ra1 : sg_R a1) : sg_R (v_kDepthOfChoice σ a1) := by
  unfold v_kDepthOfChoice
  by_cases h : ¬ (sx_at σ 6 200 ((sx_at σ 9 200 ((sx_at σ 7 200 (a1)))))) = (sx_at σ 6 200 ((sx_at σ 8 200 (a1))))
  · rw [if_pos h]
    decide
  · rw [if_neg h]
    by_cases h : ¬ (sx_at σ 6 200 ((sx_at σ 7 200 (a1)))) = 0
    · rw [if_pos h]
      decide
    · rw [if_neg h]
      first | exact sx_R .. | exact sx_Rl .. | exact w.1 | exact w.2.1 | exact w.2.2.1 | exact sg_Rg _ _ _ | exact sg_Rgl _ _ _ | exact sg_Rr _ | exact sg_RLr _ | assumption | omega | (constructor <;> omega)
/-! What the methods of Checker ask for (4). -/
-- NestedVectors$Checker.depthOf
def V_kDepthOf_264 (σ : sg_S) (b1 : Int) (Q : Int → sg_S → Prop) : Prop := Q ((v_kDepthOfChoice σ (b1))) σ
set_option maxHeartbeats 4000000 in
set_option maxRecDepth 8000 in
theorem w_kDepthOf_264 (z : Value) (σ : sg_S) (b1 : Int) (Q : Int → sg_S → Prop) (rb1 : sg_R b1) (w : V_kDepthOf_264 σ b1 Q) : wx z 2 32 114 [(0, .inr (.inr (.ref 38))), (1, .inl (b1))] [] σ (fun v σ' => ∃ q, v = some (.inl q) ∧ sg_R q ∧ σ = σ' ∧ Q q σ') := by
  unfold V_kDepthOf_264 at w
  refine wk_b tt_32 2 (pc' := 116) (ls' := [(0, .inr (.inr (.ref 38))), (1, .inl (b1))]) (st' := [.inl (b1), .inr (.inr (.ref 38))]) (σ' := σ) rfl ?_
  refine wk_callp tt_32 rfl rfl rfl rfl rfl tt_34 rfl (by decide) (w_kDepthOfChoice z σ (b1) rb1 ) ?_
  have r1 := vr_kDepthOfChoice σ  (b1) rb1 
  exact wk_rI tt_32 rfl rfl ⟨_, rfl, r1, rfl, w⟩
-- NestedVectors$Checker.depthOfRow
def V_kDepthOfRow (σ : sg_S) (a1 : Int) (Q : Int → sg_S → Prop) : Prop := (∃ (I5 : Nat → Int → Int → Prop) (X7 : Prop), (∃ n, I5 n ((sx_at σ 7 200 (a1))) (0)) ∧ (∀ (n16 : Nat) (v1 : Int) (v2 : Int), sg_R v1 → sg_R v2 → I5 n16 v1 v2 → (((sx_at σ 10 200 (a1)) ≤ v2 → X7 ) ∧ (v2 < (sx_at σ 10 200 (a1)) → ((200 ≤ v2 → X7 ) ∧ (v2 < 200 → (((sx_at σ 6 200 (v1)) = (sx_at σ 6 200 ((sx_at σ 7 200 (a1)))) → sg_R (v2 + 1) ∧ (∃ m, m < n16 ∧ I5 m ((sx_at σ 9 200 (v1))) ((v2 + 1)))) ∧ (¬ (sx_at σ 6 200 (v1)) = (sx_at σ 6 200 ((sx_at σ 7 200 (a1)))) → Q ((-1)) σ))))))) ∧ (X7  → sg_R ((sx_at σ 6 200 ((sx_at σ 7 200 (a1)))) + 1) ∧ Q (((sx_at σ 6 200 ((sx_at σ 7 200 (a1)))) + 1)) σ))
set_option maxHeartbeats 4000000 in
set_option maxRecDepth 8000 in
theorem w_kDepthOfRow (z : Value) (σ : sg_S) (a1 : Int) (Q : Int → sg_S → Prop) (ra1 : sg_R a1) (w : V_kDepthOfRow σ a1 Q) : wx z 1 37 0 [(0, .inr (.inr (.ref 38))), (1, .inl (a1))] [] σ (fun v σ' => ∃ q, v = some (.inl q) ∧ sg_R q ∧ σ = σ' ∧ Q q σ') := by
  unfold V_kDepthOfRow at w
  refine wk_b tt_37 7 (pc' := 15) (ls' := [(0, .inr (.inr (.ref 38))), (1, .inl (a1))]) (st' := [.inl (a1), .inr (.inr (.ref 7)), .inr (.inr (.ref 6))]) (σ' := σ) rfl ?_
  refine wk_callp tt_37 rfl rfl rfl rfl rfl tt_5 rfl (by decide) (at_i0 z σ 7 200 (a1) rfl (by decide) ra1) ?_
  show wx z 1 37 18 [(0, .inr (.inr (.ref 38))), (1, .inl (a1))] [.inl ((sx_at σ 7 200 (a1))), .inr (.inr (.ref 6))] σ (fun v σ' => ∃ q, v = some (.inl q) ∧ sg_R q ∧ σ = σ' ∧ Q q σ')
  refine wk_callp tt_37 rfl rfl rfl rfl rfl tt_5 rfl (by decide) (at_i0 z σ 6 200 ((sx_at σ 7 200 (a1))) rfl (by decide) (sx_R ..)) ?_
  show wx z 1 37 21 [(0, .inr (.inr (.ref 38))), (1, .inl (a1))] [.inl ((sx_at σ 6 200 ((sx_at σ 7 200 (a1)))))] σ (fun v σ' => ∃ q, v = some (.inl q) ∧ sg_R q ∧ σ = σ' ∧ Q q σ')
  refine wk_b tt_37 5 (pc' := 30) (ls' := [(2, .inl ((sx_at σ 6 200 ((sx_at σ 7 200 (a1)))))), (0, .inr (.inr (.ref 38))), (1, .inl (a1))]) (st' := [.inl (a1), .inr (.inr (.ref 7))]) (σ' := σ) rfl ?_
  refine wk_callp tt_37 rfl rfl rfl rfl rfl tt_5 rfl (by decide) (at_i0 z σ 7 200 (a1) rfl (by decide) ra1) ?_
  show wx z 1 37 33 [(2, .inl ((sx_at σ 6 200 ((sx_at σ 7 200 (a1)))))), (0, .inr (.inr (.ref 38))), (1, .inl (a1))] [.inl ((sx_at σ 7 200 (a1)))] σ (fun v σ' => ∃ q, v = some (.inl q) ∧ sg_R q ∧ σ = σ' ∧ Q q σ')
  refine wk_b tt_37 3 (pc' := 37) (ls' := [(4, .inl (0)), (3, .inl ((sx_at σ 7 200 (a1)))), (2, .inl ((sx_at σ 6 200 ((sx_at σ 7 200 (a1)))))), (0, .inr (.inr (.ref 38))), (1, .inl (a1))]) (st' := []) (σ' := σ) rfl ?_
  obtain ⟨I5, X7, ⟨μ6, w13⟩, w14, w15⟩ := w
  have ex17 : X7  → wx z 1 37 96 [(2, .inl ((sx_at σ 6 200 ((sx_at σ 7 200 (a1))))))] [] σ (fun v σ' => ∃ q, v = some (.inl q) ∧ sg_R q ∧ σ = σ' ∧ Q q σ') := by
    intro w
    have w := w15  w
    obtain ⟨c18, w⟩ := w
    refine wk_b tt_37 3 (pc' := 99) (ls' := [(2, .inl ((sx_at σ 6 200 ((sx_at σ 7 200 (a1))))))]) (st' := [.inl (((sx_at σ 6 200 ((sx_at σ 7 200 (a1)))) + 1))]) (σ' := σ) rfl ?_
    exact wk_rI tt_37 rfl rfl ⟨_, rfl, c18, rfl, w⟩
  have lp12 : ∀ (n16 : Nat) (v1 : Int) (v2 : Int), sg_R v1 → sg_R v2 → I5 n16 v1 v2 → wx z 1 37 37 [(0, .inr (.inr (.ref 38))), (1, .inl (a1)), (2, .inl ((sx_at σ 6 200 ((sx_at σ 7 200 (a1)))))), (3, .inl (v1)), (4, .inl (v2))] [] σ (fun v σ' => ∃ q, v = some (.inl q) ∧ sg_R q ∧ σ = σ' ∧ Q q σ') := by
    intro n16
    induction n16 using Nat.strongRecOn with
    | _ n16 ih10 =>
      intro v1 v2 r8 r9 w
      have w := w14 n16 v1 v2 r8 r9 w
      refine wk_b tt_37 5 (pc' := 47) (ls' := [(0, .inr (.inr (.ref 38))), (1, .inl (a1)), (2, .inl ((sx_at σ 6 200 ((sx_at σ 7 200 (a1)))))), (3, .inl (v1)), (4, .inl (v2))]) (st' := [.inl (a1), .inr (.inr (.ref 10)), .inl (v2)]) (σ' := σ) rfl ?_
      refine wk_callp tt_37 rfl rfl rfl rfl rfl tt_5 rfl (by decide) (at_i0 z σ 10 200 (a1) rfl (by decide) ra1) ?_
      show wx z 1 37 50 [(0, .inr (.inr (.ref 38))), (1, .inl (a1)), (2, .inl ((sx_at σ 6 200 ((sx_at σ 7 200 (a1)))))), (3, .inl (v1)), (4, .inl (v2))] [.inl ((sx_at σ 10 200 (a1))), .inl (v2)] σ (fun v σ' => ∃ q, v = some (.inl q) ∧ sg_R q ∧ σ = σ' ∧ Q q σ')
      refine wk_if2 tt_37 (tgt := 96) rfl rfl r9 (sx_R ..) (fun (h19 : (sx_at σ 10 200 (a1)) ≤ v2) => ?_) (fun (h19 : v2 < (sx_at σ 10 200 (a1))) => ?_)
      ·
        have w := w.1 h19
        exact wk_ls [(2, .inl ((sx_at σ 6 200 ((sx_at σ 7 200 (a1))))))] rfl ⟨rfl, trivial⟩ (ex17     w)
      ·
        have w := w.2 h19
        refine wk_b tt_37 2 (pc' := 58) (ls' := [(0, .inr (.inr (.ref 38))), (1, .inl (a1)), (2, .inl ((sx_at σ 6 200 ((sx_at σ 7 200 (a1)))))), (3, .inl (v1)), (4, .inl (v2))]) (st' := [.inl (200), .inl (v2)]) (σ' := σ) rfl ?_
        refine wk_if2 tt_37 (tgt := 96) rfl rfl r9 (by decide) (fun (h20 : 200 ≤ v2) => ?_) (fun (h20 : v2 < 200) => ?_)
        ·
          have w := w.1 h20
          exact wk_ls [(2, .inl ((sx_at σ 6 200 ((sx_at σ 7 200 (a1))))))] rfl ⟨rfl, trivial⟩ (ex17     w)
        ·
          have w := w.2 h20
          refine wk_b tt_37 4 (pc' := 69) (ls' := [(0, .inr (.inr (.ref 38))), (1, .inl (a1)), (2, .inl ((sx_at σ 6 200 ((sx_at σ 7 200 (a1)))))), (3, .inl (v1)), (4, .inl (v2))]) (st' := [.inl (v1), .inr (.inr (.ref 6))]) (σ' := σ) rfl ?_
          refine wk_callp tt_37 rfl rfl rfl rfl rfl tt_5 rfl (by decide) (at_i0 z σ 6 200 (v1) rfl (by decide) r8) ?_
          show wx z 1 37 72 [(0, .inr (.inr (.ref 38))), (1, .inl (a1)), (2, .inl ((sx_at σ 6 200 ((sx_at σ 7 200 (a1)))))), (3, .inl (v1)), (4, .inl (v2))] [.inl ((sx_at σ 6 200 (v1)))] σ (fun v σ' => ∃ q, v = some (.inl q) ∧ sg_R q ∧ σ = σ' ∧ Q q σ')
          refine wk_b tt_37 1 (pc' := 73) (ls' := [(0, .inr (.inr (.ref 38))), (1, .inl (a1)), (2, .inl ((sx_at σ 6 200 ((sx_at σ 7 200 (a1)))))), (3, .inl (v1)), (4, .inl (v2))]) (st' := [.inl ((sx_at σ 6 200 ((sx_at σ 7 200 (a1))))), .inl ((sx_at σ 6 200 (v1)))]) (σ' := σ) rfl ?_
          refine wk_if2 tt_37 (tgt := 78) rfl rfl (sx_R ..) (sx_R ..) (fun (h21 : (sx_at σ 6 200 (v1)) = (sx_at σ 6 200 ((sx_at σ 7 200 (a1))))) => ?_) (fun (h21 : ¬ (sx_at σ 6 200 (v1)) = (sx_at σ 6 200 ((sx_at σ 7 200 (a1))))) => ?_)
          ·
            have w := w.1 h21
            refine wk_b tt_37 4 (pc' := 86) (ls' := [(0, .inr (.inr (.ref 38))), (1, .inl (a1)), (2, .inl ((sx_at σ 6 200 ((sx_at σ 7 200 (a1)))))), (3, .inl (v1)), (4, .inl (v2))]) (st' := [.inl (v1), .inr (.inr (.ref 9))]) (σ' := σ) rfl ?_
            refine wk_callp tt_37 rfl rfl rfl rfl rfl tt_5 rfl (by decide) (at_i0 z σ 9 200 (v1) rfl (by decide) r8) ?_
            show wx z 1 37 89 [(0, .inr (.inr (.ref 38))), (1, .inl (a1)), (2, .inl ((sx_at σ 6 200 ((sx_at σ 7 200 (a1)))))), (3, .inl (v1)), (4, .inl (v2))] [.inl ((sx_at σ 9 200 (v1)))] σ (fun v σ' => ∃ q, v = some (.inl q) ∧ sg_R q ∧ σ = σ' ∧ Q q σ')
            obtain ⟨c22, w⟩ := w
            refine wk_b tt_37 3 (pc' := 37) (ls' := [(4, .inl ((v2 + 1))), (3, .inl ((sx_at σ 9 200 (v1)))), (0, .inr (.inr (.ref 38))), (1, .inl (a1)), (2, .inl ((sx_at σ 6 200 ((sx_at σ 7 200 (a1))))))]) (st' := []) (σ' := σ) rfl ?_
            obtain ⟨m23, hm23, w⟩ := w
            exact wk_ls [(0, .inr (.inr (.ref 38))), (1, .inl (a1)), (2, .inl ((sx_at σ 6 200 ((sx_at σ 7 200 (a1)))))), (3, .inl ((sx_at σ 9 200 (v1)))), (4, .inl ((v2 + 1)))] rfl ⟨rfl, rfl, rfl, rfl, rfl, trivial⟩ (ih10 m23 hm23 ((sx_at σ 9 200 (v1))) ((v2 + 1))  (sx_R ..) c22  w)
          ·
            have w := w.2 h21
            refine wk_b tt_37 1 (pc' := 77) (ls' := [(0, .inr (.inr (.ref 38))), (1, .inl (a1)), (2, .inl ((sx_at σ 6 200 ((sx_at σ 7 200 (a1)))))), (3, .inl (v1)), (4, .inl (v2))]) (st' := [.inl ((-1))]) (σ' := σ) rfl ?_
            exact wk_rI tt_37 rfl rfl ⟨_, rfl, (by decide), rfl, w⟩
  exact wk_ls [(0, .inr (.inr (.ref 38))), (1, .inl (a1)), (2, .inl ((sx_at σ 6 200 ((sx_at σ 7 200 (a1)))))), (3, .inl ((sx_at σ 7 200 (a1)))), (4, .inl (0))] rfl ⟨rfl, rfl, rfl, rfl, rfl, trivial⟩ (lp12 μ6 ((sx_at σ 7 200 (a1))) (0)  (sx_R ..) (by decide)  w13)
-- NestedVectors$Checker.depthOf
def V_kDepthOf_279 (σ : sg_S) (b1 : Int) (Q : Int → sg_S → Prop) : Prop := V_kDepthOfRow σ (b1) (fun q1 _ => sg_R q1 → Q (q1) σ)
set_option maxHeartbeats 4000000 in
set_option maxRecDepth 8000 in
theorem w_kDepthOf_279 (z : Value) (σ : sg_S) (b1 : Int) (Q : Int → sg_S → Prop) (rb1 : sg_R b1) (w : V_kDepthOf_279 σ b1 Q) : wx z 2 32 120 [(0, .inr (.inr (.ref 38))), (1, .inl (b1))] [] σ (fun v σ' => ∃ q, v = some (.inl q) ∧ sg_R q ∧ σ = σ' ∧ Q q σ') := by
  unfold V_kDepthOf_279 at w
  refine wk_b tt_32 2 (pc' := 122) (ls' := [(0, .inr (.inr (.ref 38))), (1, .inl (b1))]) (st' := [.inl (b1), .inr (.inr (.ref 38))]) (σ' := σ) rfl ?_
  refine wk_call tt_32 rfl rfl rfl rfl rfl tt_37 rfl (by decide) (w_kDepthOfRow z σ (b1) _ rb1 w) (fun u6 σ2 hq4 => ?_)
  obtain ⟨q1, rfl, r5, rfl, w⟩ := hq4
  have w := w r5
  exact wk_rI tt_32 rfl rfl ⟨_, rfl, r5, rfl, w⟩
-- NestedVectors$Checker.depthOfCall
def V_kDepthOfCall (σ : sg_S) (a1 : Int) (Q : Int → sg_S → Prop) : Prop := (((sx_at σ 10 200 (a1)) = (sx_at σ 23 12 ((sx_at σ 16 200 (a1)))) → (∃ (I6 : Nat → Int → Int → Prop) (X8 : Prop), (∃ n, I6 n ((sx_at σ 7 200 (a1))) (0)) ∧ (∀ (n17 : Nat) (v2 : Int) (v3 : Int), sg_R v2 → sg_R v3 → I6 n17 v2 v3 → (((sx_at σ 23 12 ((sx_at σ 16 200 (a1)))) ≤ v3 → X8 ) ∧ (v3 < (sx_at σ 23 12 ((sx_at σ 16 200 (a1)))) → ((6 ≤ v3 → X8 ) ∧ (v3 < 6 → sg_R ((sx_at σ 16 200 (a1)) * 6) ∧ sg_R (((sx_at σ 16 200 (a1)) * 6) + v3) ∧ (((sx_at σ 6 200 (v2)) = (sx_at σ 27 72 ((((sx_at σ 16 200 (a1)) * 6) + v3))) → sg_R (v3 + 1) ∧ (∃ m, m < n17 ∧ I6 m ((sx_at σ 9 200 (v2))) ((v3 + 1)))) ∧ (¬ (sx_at σ 6 200 (v2)) = (sx_at σ 27 72 ((((sx_at σ 16 200 (a1)) * 6) + v3))) → Q ((-1)) σ))))))) ∧ (X8  → Q ((sx_at σ 6 200 ((sx_at σ 22 12 ((sx_at σ 16 200 (a1))))))) σ))) ∧ (¬ (sx_at σ 10 200 (a1)) = (sx_at σ 23 12 ((sx_at σ 16 200 (a1)))) → Q ((-1)) σ))
set_option maxHeartbeats 4000000 in
set_option maxRecDepth 8000 in
theorem w_kDepthOfCall (z : Value) (σ : sg_S) (a1 : Int) (Q : Int → sg_S → Prop) (ra1 : sg_R a1) (w : V_kDepthOfCall σ a1 Q) : wx z 1 33 0 [(0, .inr (.inr (.ref 38))), (1, .inl (a1))] [] σ (fun v σ' => ∃ q, v = some (.inl q) ∧ sg_R q ∧ σ = σ' ∧ Q q σ') := by
  unfold V_kDepthOfCall at w
  refine wk_b tt_33 4 (pc' := 8) (ls' := [(0, .inr (.inr (.ref 38))), (1, .inl (a1))]) (st' := [.inl (a1), .inr (.inr (.ref 16))]) (σ' := σ) rfl ?_
  refine wk_callp tt_33 rfl rfl rfl rfl rfl tt_5 rfl (by decide) (at_i0 z σ 16 200 (a1) rfl (by decide) ra1) ?_
  show wx z 1 33 11 [(0, .inr (.inr (.ref 38))), (1, .inl (a1))] [.inl ((sx_at σ 16 200 (a1)))] σ (fun v σ' => ∃ q, v = some (.inl q) ∧ sg_R q ∧ σ = σ' ∧ Q q σ')
  refine wk_b tt_33 5 (pc' := 20) (ls' := [(2, .inl ((sx_at σ 16 200 (a1)))), (0, .inr (.inr (.ref 38))), (1, .inl (a1))]) (st' := [.inl (a1), .inr (.inr (.ref 10))]) (σ' := σ) rfl ?_
  refine wk_callp tt_33 rfl rfl rfl rfl rfl tt_5 rfl (by decide) (at_i0 z σ 10 200 (a1) rfl (by decide) ra1) ?_
  show wx z 1 33 23 [(2, .inl ((sx_at σ 16 200 (a1)))), (0, .inr (.inr (.ref 38))), (1, .inl (a1))] [.inl ((sx_at σ 10 200 (a1)))] σ (fun v σ' => ∃ q, v = some (.inl q) ∧ sg_R q ∧ σ = σ' ∧ Q q σ')
  refine wk_b tt_33 4 (pc' := 31) (ls' := [(2, .inl ((sx_at σ 16 200 (a1)))), (0, .inr (.inr (.ref 38))), (1, .inl (a1))]) (st' := [.inl ((sx_at σ 16 200 (a1))), .inr (.inr (.ref 23)), .inl ((sx_at σ 10 200 (a1)))]) (σ' := σ) rfl ?_
  refine wk_callp tt_33 rfl rfl rfl rfl rfl tt_5 rfl (by decide) (at_i0 z σ 23 12 ((sx_at σ 16 200 (a1))) rfl (by decide) (sx_R ..)) ?_
  show wx z 1 33 34 [(2, .inl ((sx_at σ 16 200 (a1)))), (0, .inr (.inr (.ref 38))), (1, .inl (a1))] [.inl ((sx_at σ 23 12 ((sx_at σ 16 200 (a1))))), .inl ((sx_at σ 10 200 (a1)))] σ (fun v σ' => ∃ q, v = some (.inl q) ∧ sg_R q ∧ σ = σ' ∧ Q q σ')
  refine wk_if2 tt_33 (tgt := 39) rfl rfl (sx_R ..) (sx_R ..) (fun (h1 : (sx_at σ 10 200 (a1)) = (sx_at σ 23 12 ((sx_at σ 16 200 (a1))))) => ?_) (fun (h1 : ¬ (sx_at σ 10 200 (a1)) = (sx_at σ 23 12 ((sx_at σ 16 200 (a1))))) => ?_)
  ·
    have w := w.1 h1
    refine wk_b tt_33 4 (pc' := 47) (ls' := [(2, .inl ((sx_at σ 16 200 (a1)))), (0, .inr (.inr (.ref 38))), (1, .inl (a1))]) (st' := [.inl (a1), .inr (.inr (.ref 7))]) (σ' := σ) rfl ?_
    refine wk_callp tt_33 rfl rfl rfl rfl rfl tt_5 rfl (by decide) (at_i0 z σ 7 200 (a1) rfl (by decide) ra1) ?_
    show wx z 1 33 50 [(2, .inl ((sx_at σ 16 200 (a1)))), (0, .inr (.inr (.ref 38))), (1, .inl (a1))] [.inl ((sx_at σ 7 200 (a1)))] σ (fun v σ' => ∃ q, v = some (.inl q) ∧ sg_R q ∧ σ = σ' ∧ Q q σ')
    refine wk_b tt_33 3 (pc' := 54) (ls' := [(4, .inl (0)), (3, .inl ((sx_at σ 7 200 (a1)))), (2, .inl ((sx_at σ 16 200 (a1)))), (0, .inr (.inr (.ref 38))), (1, .inl (a1))]) (st' := []) (σ' := σ) rfl ?_
    obtain ⟨I6, X8, ⟨μ7, w14⟩, w15, w16⟩ := w
    have ex18 : X8  → wx z 1 33 128 [(0, .inr (.inr (.ref 38))), (2, .inl ((sx_at σ 16 200 (a1))))] [] σ (fun v σ' => ∃ q, v = some (.inl q) ∧ sg_R q ∧ σ = σ' ∧ Q q σ') := by
      intro w
      have w := w16  w
      refine wk_b tt_33 7 (pc' := 143) (ls' := [(0, .inr (.inr (.ref 38))), (2, .inl ((sx_at σ 16 200 (a1))))]) (st' := [.inl ((sx_at σ 16 200 (a1))), .inr (.inr (.ref 22)), .inr (.inr (.ref 6))]) (σ' := σ) rfl ?_
      refine wk_callp tt_33 rfl rfl rfl rfl rfl tt_5 rfl (by decide) (at_i0 z σ 22 12 ((sx_at σ 16 200 (a1))) rfl (by decide) (sx_R ..)) ?_
      show wx z 1 33 146 [(0, .inr (.inr (.ref 38))), (2, .inl ((sx_at σ 16 200 (a1))))] [.inl ((sx_at σ 22 12 ((sx_at σ 16 200 (a1))))), .inr (.inr (.ref 6))] σ (fun v σ' => ∃ q, v = some (.inl q) ∧ sg_R q ∧ σ = σ' ∧ Q q σ')
      refine wk_callp tt_33 rfl rfl rfl rfl rfl tt_5 rfl (by decide) (at_i0 z σ 6 200 ((sx_at σ 22 12 ((sx_at σ 16 200 (a1))))) rfl (by decide) (sx_R ..)) ?_
      show wx z 1 33 149 [(0, .inr (.inr (.ref 38))), (2, .inl ((sx_at σ 16 200 (a1))))] [.inl ((sx_at σ 6 200 ((sx_at σ 22 12 ((sx_at σ 16 200 (a1)))))))] σ (fun v σ' => ∃ q, v = some (.inl q) ∧ sg_R q ∧ σ = σ' ∧ Q q σ')
      exact wk_rI tt_33 rfl rfl ⟨_, rfl, (sx_R ..), rfl, w⟩
    have lp13 : ∀ (n17 : Nat) (v2 : Int) (v3 : Int), sg_R v2 → sg_R v3 → I6 n17 v2 v3 → wx z 1 33 54 [(0, .inr (.inr (.ref 38))), (2, .inl ((sx_at σ 16 200 (a1)))), (3, .inl (v2)), (4, .inl (v3))] [] σ (fun v σ' => ∃ q, v = some (.inl q) ∧ sg_R q ∧ σ = σ' ∧ Q q σ') := by
      intro n17
      induction n17 using Nat.strongRecOn with
      | _ n17 ih11 =>
        intro v2 v3 r9 r10 w
        have w := w15 n17 v2 v3 r9 r10 w
        refine wk_b tt_33 5 (pc' := 64) (ls' := [(0, .inr (.inr (.ref 38))), (2, .inl ((sx_at σ 16 200 (a1)))), (3, .inl (v2)), (4, .inl (v3))]) (st' := [.inl ((sx_at σ 16 200 (a1))), .inr (.inr (.ref 23)), .inl (v3)]) (σ' := σ) rfl ?_
        refine wk_callp tt_33 rfl rfl rfl rfl rfl tt_5 rfl (by decide) (at_i0 z σ 23 12 ((sx_at σ 16 200 (a1))) rfl (by decide) (sx_R ..)) ?_
        show wx z 1 33 67 [(0, .inr (.inr (.ref 38))), (2, .inl ((sx_at σ 16 200 (a1)))), (3, .inl (v2)), (4, .inl (v3))] [.inl ((sx_at σ 23 12 ((sx_at σ 16 200 (a1))))), .inl (v3)] σ (fun v σ' => ∃ q, v = some (.inl q) ∧ sg_R q ∧ σ = σ' ∧ Q q σ')
        refine wk_if2 tt_33 (tgt := 128) rfl rfl r10 (sx_R ..) (fun (h19 : (sx_at σ 23 12 ((sx_at σ 16 200 (a1)))) ≤ v3) => ?_) (fun (h19 : v3 < (sx_at σ 23 12 ((sx_at σ 16 200 (a1))))) => ?_)
        ·
          have w := w.1 h19
          exact wk_ls [(0, .inr (.inr (.ref 38))), (2, .inl ((sx_at σ 16 200 (a1))))] rfl ⟨rfl, rfl, trivial⟩ (ex18     w)
        ·
          have w := w.2 h19
          refine wk_b tt_33 2 (pc' := 74) (ls' := [(0, .inr (.inr (.ref 38))), (2, .inl ((sx_at σ 16 200 (a1)))), (3, .inl (v2)), (4, .inl (v3))]) (st' := [.inl (6), .inl (v3)]) (σ' := σ) rfl ?_
          refine wk_if2 tt_33 (tgt := 128) rfl rfl r10 (by decide) (fun (h20 : 6 ≤ v3) => ?_) (fun (h20 : v3 < 6) => ?_)
          ·
            have w := w.1 h20
            exact wk_ls [(0, .inr (.inr (.ref 38))), (2, .inl ((sx_at σ 16 200 (a1))))] rfl ⟨rfl, rfl, trivial⟩ (ex18     w)
          ·
            have w := w.2 h20
            refine wk_b tt_33 4 (pc' := 85) (ls' := [(0, .inr (.inr (.ref 38))), (2, .inl ((sx_at σ 16 200 (a1)))), (3, .inl (v2)), (4, .inl (v3))]) (st' := [.inl (v2), .inr (.inr (.ref 6))]) (σ' := σ) rfl ?_
            refine wk_callp tt_33 rfl rfl rfl rfl rfl tt_5 rfl (by decide) (at_i0 z σ 6 200 (v2) rfl (by decide) r9) ?_
            show wx z 1 33 88 [(0, .inr (.inr (.ref 38))), (2, .inl ((sx_at σ 16 200 (a1)))), (3, .inl (v2)), (4, .inl (v3))] [.inl ((sx_at σ 6 200 (v2)))] σ (fun v σ' => ∃ q, v = some (.inl q) ∧ sg_R q ∧ σ = σ' ∧ Q q σ')
            obtain ⟨c21, w⟩ := w
            obtain ⟨c22, w⟩ := w
            refine wk_b tt_33 8 (pc' := 102) (ls' := [(0, .inr (.inr (.ref 38))), (2, .inl ((sx_at σ 16 200 (a1)))), (3, .inl (v2)), (4, .inl (v3))]) (st' := [.inl ((((sx_at σ 16 200 (a1)) * 6) + v3)), .inr (.inr (.ref 27)), .inl ((sx_at σ 6 200 (v2)))]) (σ' := σ) rfl ?_
            refine wk_callp tt_33 rfl rfl rfl rfl rfl tt_5 rfl (by decide) (at_i0 z σ 27 72 ((((sx_at σ 16 200 (a1)) * 6) + v3)) rfl (by decide) c22) ?_
            show wx z 1 33 105 [(0, .inr (.inr (.ref 38))), (2, .inl ((sx_at σ 16 200 (a1)))), (3, .inl (v2)), (4, .inl (v3))] [.inl ((sx_at σ 27 72 ((((sx_at σ 16 200 (a1)) * 6) + v3)))), .inl ((sx_at σ 6 200 (v2)))] σ (fun v σ' => ∃ q, v = some (.inl q) ∧ sg_R q ∧ σ = σ' ∧ Q q σ')
            refine wk_if2 tt_33 (tgt := 110) rfl rfl (sx_R ..) (sx_R ..) (fun (h23 : (sx_at σ 6 200 (v2)) = (sx_at σ 27 72 ((((sx_at σ 16 200 (a1)) * 6) + v3)))) => ?_) (fun (h23 : ¬ (sx_at σ 6 200 (v2)) = (sx_at σ 27 72 ((((sx_at σ 16 200 (a1)) * 6) + v3)))) => ?_)
            ·
              have w := w.1 h23
              refine wk_b tt_33 4 (pc' := 118) (ls' := [(0, .inr (.inr (.ref 38))), (2, .inl ((sx_at σ 16 200 (a1)))), (3, .inl (v2)), (4, .inl (v3))]) (st' := [.inl (v2), .inr (.inr (.ref 9))]) (σ' := σ) rfl ?_
              refine wk_callp tt_33 rfl rfl rfl rfl rfl tt_5 rfl (by decide) (at_i0 z σ 9 200 (v2) rfl (by decide) r9) ?_
              show wx z 1 33 121 [(0, .inr (.inr (.ref 38))), (2, .inl ((sx_at σ 16 200 (a1)))), (3, .inl (v2)), (4, .inl (v3))] [.inl ((sx_at σ 9 200 (v2)))] σ (fun v σ' => ∃ q, v = some (.inl q) ∧ sg_R q ∧ σ = σ' ∧ Q q σ')
              obtain ⟨c24, w⟩ := w
              refine wk_b tt_33 3 (pc' := 54) (ls' := [(4, .inl ((v3 + 1))), (3, .inl ((sx_at σ 9 200 (v2)))), (0, .inr (.inr (.ref 38))), (2, .inl ((sx_at σ 16 200 (a1))))]) (st' := []) (σ' := σ) rfl ?_
              obtain ⟨m25, hm25, w⟩ := w
              exact wk_ls [(0, .inr (.inr (.ref 38))), (2, .inl ((sx_at σ 16 200 (a1)))), (3, .inl ((sx_at σ 9 200 (v2)))), (4, .inl ((v3 + 1)))] rfl ⟨rfl, rfl, rfl, rfl, trivial⟩ (ih11 m25 hm25 ((sx_at σ 9 200 (v2))) ((v3 + 1))  (sx_R ..) c24  w)
            ·
              have w := w.2 h23
              refine wk_b tt_33 1 (pc' := 109) (ls' := [(0, .inr (.inr (.ref 38))), (2, .inl ((sx_at σ 16 200 (a1)))), (3, .inl (v2)), (4, .inl (v3))]) (st' := [.inl ((-1))]) (σ' := σ) rfl ?_
              exact wk_rI tt_33 rfl rfl ⟨_, rfl, (by decide), rfl, w⟩
    exact wk_ls [(0, .inr (.inr (.ref 38))), (2, .inl ((sx_at σ 16 200 (a1)))), (3, .inl ((sx_at σ 7 200 (a1)))), (4, .inl (0))] rfl ⟨rfl, rfl, rfl, rfl, trivial⟩ (lp13 μ7 ((sx_at σ 7 200 (a1))) (0)  (sx_R ..) (by decide)  w14)
  ·
    have w := w.2 h1
    refine wk_b tt_33 1 (pc' := 38) (ls' := [(2, .inl ((sx_at σ 16 200 (a1)))), (0, .inr (.inr (.ref 38))), (1, .inl (a1))]) (st' := [.inl ((-1))]) (σ' := σ) rfl ?_
    exact wk_rI tt_33 rfl rfl ⟨_, rfl, (by decide), rfl, w⟩
-- NestedVectors$Checker.depthOf
def V_kDepthOf_280 (σ : sg_S) (b1 : Int) (Q : Int → sg_S → Prop) : Prop := V_kDepthOfCall σ (b1) (fun q1 _ => sg_R q1 → Q (q1) σ)
set_option maxHeartbeats 4000000 in
set_option maxRecDepth 8000 in
theorem w_kDepthOf_280 (z : Value) (σ : sg_S) (b1 : Int) (Q : Int → sg_S → Prop) (rb1 : sg_R b1) (w : V_kDepthOf_280 σ b1 Q) : wx z 2 32 132 [(0, .inr (.inr (.ref 38))), (1, .inl (b1))] [] σ (fun v σ' => ∃ q, v = some (.inl q) ∧ sg_R q ∧ σ = σ' ∧ Q q σ') := by
  unfold V_kDepthOf_280 at w
  refine wk_b tt_32 2 (pc' := 134) (ls' := [(0, .inr (.inr (.ref 38))), (1, .inl (b1))]) (st' := [.inl (b1), .inr (.inr (.ref 38))]) (σ' := σ) rfl ?_
  refine wk_call tt_32 rfl rfl rfl rfl rfl tt_33 rfl (by decide) (w_kDepthOfCall z σ (b1) _ rb1 w) (fun u6 σ2 hq4 => ?_)
  obtain ⟨q1, rfl, r5, rfl, w⟩ := hq4
  have w := w r5
  exact wk_rI tt_32 rfl rfl ⟨_, rfl, r5, rfl, w⟩
-- NestedVectors$Checker.partsOf
def v_kPartsOf  (a0 : Int) : Int := (if a0 = 35 then (1 : Int) else (if a0 = 267 then (1 : Int) else (if a0 = 269 then (1 : Int) else (if a0 = 270 then (1 : Int) else (if a0 = 271 then (1 : Int) else (if a0 = 272 then (1 : Int) else (if a0 = 273 then (1 : Int) else (if ¬ a0 = 275 then (2 : Int) else (1 : Int)))))))))
set_option maxHeartbeats 4000000 in
set_option maxRecDepth 8000 in
theorem w_kPartsOf (z : Value) (σ : sg_S) (a0 : Int) (ra0 : sg_R a0) : wx z 0 42 0 [(0, .inl (a0))] [] σ (fun v σ' => v = some (.inl (v_kPartsOf a0)) ∧ σ' = σ) := by
  refine wk_b tt_42 2 (pc' := 3) (ls' := [(0, .inl (a0))]) (st' := [.inl (35), .inl (a0)]) (σ' := σ) rfl ?_
  refine wk_if2 tt_42 (tgt := 55) rfl rfl ra0 (by decide) (fun (h1 : a0 = 35) => ?_) (fun (h1 : ¬ a0 = 35) => ?_)
  ·
    refine wk_b tt_42 4 (pc' := 62) (ls' := [(1, .inl (1)), (0, .inl (a0))]) (st' := [.inl (1)]) (σ' := σ) rfl ?_
    refine wk_if tt_42 (tgt := 69) rfl rfl (by decide) (fun (h : 1 = 0) => absurd h (by decide)) (fun _ => ?_)
    refine wk_b tt_42 2 (pc' := 70) (ls' := [(1, .inl (1)), (0, .inl (a0))]) (st' := [.inl (1)]) (σ' := σ) rfl ?_
    exact wk_rI tt_42 rfl rfl ⟨by rw [v_kPartsOf, if_pos h1], rfl⟩
  ·
    refine wk_b tt_42 2 (pc' := 10) (ls' := [(0, .inl (a0))]) (st' := [.inl (267), .inl (a0)]) (σ' := σ) rfl ?_
    refine wk_if2 tt_42 (tgt := 55) rfl rfl ra0 (by decide) (fun (h2 : a0 = 267) => ?_) (fun (h2 : ¬ a0 = 267) => ?_)
    ·
      refine wk_b tt_42 4 (pc' := 62) (ls' := [(1, .inl (1)), (0, .inl (a0))]) (st' := [.inl (1)]) (σ' := σ) rfl ?_
      refine wk_if tt_42 (tgt := 69) rfl rfl (by decide) (fun (h : 1 = 0) => absurd h (by decide)) (fun _ => ?_)
      refine wk_b tt_42 2 (pc' := 70) (ls' := [(1, .inl (1)), (0, .inl (a0))]) (st' := [.inl (1)]) (σ' := σ) rfl ?_
      exact wk_rI tt_42 rfl rfl ⟨by rw [v_kPartsOf, if_neg (show ¬ (a0 = 35) by omega), if_pos h2], rfl⟩
    ·
      refine wk_b tt_42 2 (pc' := 17) (ls' := [(0, .inl (a0))]) (st' := [.inl (269), .inl (a0)]) (σ' := σ) rfl ?_
      refine wk_if2 tt_42 (tgt := 55) rfl rfl ra0 (by decide) (fun (h3 : a0 = 269) => ?_) (fun (h3 : ¬ a0 = 269) => ?_)
      ·
        refine wk_b tt_42 4 (pc' := 62) (ls' := [(1, .inl (1)), (0, .inl (a0))]) (st' := [.inl (1)]) (σ' := σ) rfl ?_
        refine wk_if tt_42 (tgt := 69) rfl rfl (by decide) (fun (h : 1 = 0) => absurd h (by decide)) (fun _ => ?_)
        refine wk_b tt_42 2 (pc' := 70) (ls' := [(1, .inl (1)), (0, .inl (a0))]) (st' := [.inl (1)]) (σ' := σ) rfl ?_
        exact wk_rI tt_42 rfl rfl ⟨by rw [v_kPartsOf, if_neg (show ¬ (a0 = 35) by omega), if_neg (show ¬ (a0 = 267) by omega), if_pos h3], rfl⟩
      ·
        refine wk_b tt_42 2 (pc' := 24) (ls' := [(0, .inl (a0))]) (st' := [.inl (270), .inl (a0)]) (σ' := σ) rfl ?_
        refine wk_if2 tt_42 (tgt := 55) rfl rfl ra0 (by decide) (fun (h4 : a0 = 270) => ?_) (fun (h4 : ¬ a0 = 270) => ?_)
        ·
          refine wk_b tt_42 4 (pc' := 62) (ls' := [(1, .inl (1)), (0, .inl (a0))]) (st' := [.inl (1)]) (σ' := σ) rfl ?_
          refine wk_if tt_42 (tgt := 69) rfl rfl (by decide) (fun (h : 1 = 0) => absurd h (by decide)) (fun _ => ?_)
          refine wk_b tt_42 2 (pc' := 70) (ls' := [(1, .inl (1)), (0, .inl (a0))]) (st' := [.inl (1)]) (σ' := σ) rfl ?_
          exact wk_rI tt_42 rfl rfl ⟨by rw [v_kPartsOf, if_neg (show ¬ (a0 = 35) by omega), if_neg (show ¬ (a0 = 267) by omega), if_neg (show ¬ (a0 = 269) by omega), if_pos h4], rfl⟩
        ·
          refine wk_b tt_42 2 (pc' := 31) (ls' := [(0, .inl (a0))]) (st' := [.inl (271), .inl (a0)]) (σ' := σ) rfl ?_
          refine wk_if2 tt_42 (tgt := 55) rfl rfl ra0 (by decide) (fun (h5 : a0 = 271) => ?_) (fun (h5 : ¬ a0 = 271) => ?_)
          ·
            refine wk_b tt_42 4 (pc' := 62) (ls' := [(1, .inl (1)), (0, .inl (a0))]) (st' := [.inl (1)]) (σ' := σ) rfl ?_
            refine wk_if tt_42 (tgt := 69) rfl rfl (by decide) (fun (h : 1 = 0) => absurd h (by decide)) (fun _ => ?_)
            refine wk_b tt_42 2 (pc' := 70) (ls' := [(1, .inl (1)), (0, .inl (a0))]) (st' := [.inl (1)]) (σ' := σ) rfl ?_
            exact wk_rI tt_42 rfl rfl ⟨by rw [v_kPartsOf, if_neg (show ¬ (a0 = 35) by omega), if_neg (show ¬ (a0 = 267) by omega), if_neg (show ¬ (a0 = 269) by omega), if_neg (show ¬ (a0 = 270) by omega), if_pos h5], rfl⟩
          ·
            refine wk_b tt_42 2 (pc' := 38) (ls' := [(0, .inl (a0))]) (st' := [.inl (272), .inl (a0)]) (σ' := σ) rfl ?_
            refine wk_if2 tt_42 (tgt := 55) rfl rfl ra0 (by decide) (fun (h6 : a0 = 272) => ?_) (fun (h6 : ¬ a0 = 272) => ?_)
            ·
              refine wk_b tt_42 4 (pc' := 62) (ls' := [(1, .inl (1)), (0, .inl (a0))]) (st' := [.inl (1)]) (σ' := σ) rfl ?_
              refine wk_if tt_42 (tgt := 69) rfl rfl (by decide) (fun (h : 1 = 0) => absurd h (by decide)) (fun _ => ?_)
              refine wk_b tt_42 2 (pc' := 70) (ls' := [(1, .inl (1)), (0, .inl (a0))]) (st' := [.inl (1)]) (σ' := σ) rfl ?_
              exact wk_rI tt_42 rfl rfl ⟨by rw [v_kPartsOf, if_neg (show ¬ (a0 = 35) by omega), if_neg (show ¬ (a0 = 267) by omega), if_neg (show ¬ (a0 = 269) by omega), if_neg (show ¬ (a0 = 270) by omega), if_neg (show ¬ (a0 = 271) by omega), if_pos h6], rfl⟩
            ·
              refine wk_b tt_42 2 (pc' := 45) (ls' := [(0, .inl (a0))]) (st' := [.inl (273), .inl (a0)]) (σ' := σ) rfl ?_
              refine wk_if2 tt_42 (tgt := 55) rfl rfl ra0 (by decide) (fun (h7 : a0 = 273) => ?_) (fun (h7 : ¬ a0 = 273) => ?_)
              ·
                refine wk_b tt_42 4 (pc' := 62) (ls' := [(1, .inl (1)), (0, .inl (a0))]) (st' := [.inl (1)]) (σ' := σ) rfl ?_
                refine wk_if tt_42 (tgt := 69) rfl rfl (by decide) (fun (h : 1 = 0) => absurd h (by decide)) (fun _ => ?_)
                refine wk_b tt_42 2 (pc' := 70) (ls' := [(1, .inl (1)), (0, .inl (a0))]) (st' := [.inl (1)]) (σ' := σ) rfl ?_
                exact wk_rI tt_42 rfl rfl ⟨by rw [v_kPartsOf, if_neg (show ¬ (a0 = 35) by omega), if_neg (show ¬ (a0 = 267) by omega), if_neg (show ¬ (a0 = 269) by omega), if_neg (show ¬ (a0 = 270) by omega), if_neg (show ¬ (a0 = 271) by omega), if_neg (show ¬ (a0 = 272) by omega), if_pos h7], rfl⟩
              ·
                refine wk_b tt_42 2 (pc' := 52) (ls' := [(0, .inl (a0))]) (st' := [.inl (275), .inl (a0)]) (σ' := σ) rfl ?_
                refine wk_if2 tt_42 (tgt := 59) rfl rfl ra0 (by decide) (fun (h8 : ¬ a0 = 275) => ?_) (fun (h8 : a0 = 275) => ?_)
                ·
                  refine wk_b tt_42 3 (pc' := 62) (ls' := [(1, .inl (0)), (0, .inl (a0))]) (st' := [.inl (0)]) (σ' := σ) rfl ?_
                  refine wk_if tt_42 (tgt := 69) rfl rfl (by decide) (fun _ => ?_) (fun (h : ¬ 0 = 0) => absurd h (by decide))
                  refine wk_b tt_42 1 (pc' := 70) (ls' := [(1, .inl (0)), (0, .inl (a0))]) (st' := [.inl (2)]) (σ' := σ) rfl ?_
                  exact wk_rI tt_42 rfl rfl ⟨by rw [v_kPartsOf, if_neg (show ¬ (a0 = 35) by omega), if_neg (show ¬ (a0 = 267) by omega), if_neg (show ¬ (a0 = 269) by omega), if_neg (show ¬ (a0 = 270) by omega), if_neg (show ¬ (a0 = 271) by omega), if_neg (show ¬ (a0 = 272) by omega), if_neg (show ¬ (a0 = 273) by omega), if_pos h8], rfl⟩
                ·
                  refine wk_b tt_42 4 (pc' := 62) (ls' := [(1, .inl (1)), (0, .inl (a0))]) (st' := [.inl (1)]) (σ' := σ) rfl ?_
                  refine wk_if tt_42 (tgt := 69) rfl rfl (by decide) (fun (h : 1 = 0) => absurd h (by decide)) (fun _ => ?_)
                  refine wk_b tt_42 2 (pc' := 70) (ls' := [(1, .inl (1)), (0, .inl (a0))]) (st' := [.inl (1)]) (σ' := σ) rfl ?_
                  exact wk_rI tt_42 rfl rfl ⟨by rw [v_kPartsOf, if_neg (show ¬ (a0 = 35) by omega), if_neg (show ¬ (a0 = 267) by omega), if_neg (show ¬ (a0 = 269) by omega), if_neg (show ¬ (a0 = 270) by omega), if_neg (show ¬ (a0 = 271) by omega), if_neg (show ¬ (a0 = 272) by omega), if_neg (show ¬ (a0 = 273) by omega), if_neg (show ¬ (¬ a0 = 275) by omega)], rfl⟩
theorem vr_kPartsOf  (a0 : Int) (ra0 : sg_R a0) : sg_R (v_kPartsOf a0) := by
  unfold v_kPartsOf
  by_cases h : a0 = 35
  · rw [if_pos h]
    decide
  · rw [if_neg h]
    by_cases h : a0 = 267
    · rw [if_pos h]
      decide
    · rw [if_neg h]
      by_cases h : a0 = 269
      · rw [if_pos h]
        decide
      · rw [if_neg h]
        by_cases h : a0 = 270
        · rw [if_pos h]
          decide
        · rw [if_neg h]
          by_cases h : a0 = 271
          · rw [if_pos h]
            decide
          · rw [if_neg h]
            by_cases h : a0 = 272
            · rw [if_pos h]
              decide
            · rw [if_neg h]
              by_cases h : a0 = 273
              · rw [if_pos h]
                decide
              · rw [if_neg h]
                by_cases h : ¬ a0 = 275
                · rw [if_pos h]
                  decide
                · rw [if_neg h]
                  decide
-- NestedVectors$Checker.depthOfParts
def V_kDepthOfParts_35 (σ : sg_S) (b3 : Int) (Q : Int → sg_S → Prop) : Prop := ((b3 ≤ 0 → Q ((-1)) σ) ∧ (0 < b3 → Q (0) σ))
set_option maxHeartbeats 4000000 in
set_option maxRecDepth 8000 in
theorem w_kDepthOfParts_35 (z : Value) (σ : sg_S) (b3 : Int) (Q : Int → sg_S → Prop) (rb3 : sg_R b3) (w : V_kDepthOfParts_35 σ b3 Q) : wx z 0 36 168 [(3, .inl (b3))] [] σ (fun v σ' => ∃ q, v = some (.inl q) ∧ sg_R q ∧ σ = σ' ∧ Q q σ') := by
  unfold V_kDepthOfParts_35 at w
  refine wk_b tt_36 1 (pc' := 169) (ls' := [(3, .inl (b3))]) (st' := [.inl (b3)]) (σ' := σ) rfl ?_
  refine wk_if tt_36 (tgt := 176) rfl rfl rb3 (fun (h1 : b3 ≤ 0) => ?_) (fun (h1 : 0 < b3) => ?_)
  ·
    have w := w.1 h1
    refine wk_b tt_36 1 (pc' := 177) (ls' := [(3, .inl (b3))]) (st' := [.inl ((-1))]) (σ' := σ) rfl ?_
    exact wk_rI tt_36 rfl rfl ⟨_, rfl, (by decide), rfl, w⟩
  ·
    have w := w.2 h1
    refine wk_b tt_36 2 (pc' := 177) (ls' := [(3, .inl (b3))]) (st' := [.inl (0)]) (σ' := σ) rfl ?_
    exact wk_rI tt_36 rfl rfl ⟨_, rfl, (by decide), rfl, w⟩
-- NestedVectors$Checker.depthOfParts
def V_kDepthOfParts_91 (σ : sg_S) (b3 : Int) (b4 : Int) (Q : Int → sg_S → Prop) : Prop := ((b3 ≤ 0 → Q ((-1)) σ) ∧ (0 < b3 → ((¬ b4 = 0 → Q ((-1)) σ) ∧ (b4 = 0 → sg_R (b3 - 1) ∧ Q ((b3 - 1)) σ))))
set_option maxHeartbeats 4000000 in
set_option maxRecDepth 8000 in
theorem w_kDepthOfParts_91 (z : Value) (σ : sg_S) (b3 : Int) (b4 : Int) (Q : Int → sg_S → Prop) (rb3 : sg_R b3) (rb4 : sg_R b4) (w : V_kDepthOfParts_91 σ b3 b4 Q) : wx z 0 36 178 [(3, .inl (b3)), (4, .inl (b4))] [] σ (fun v σ' => ∃ q, v = some (.inl q) ∧ sg_R q ∧ σ = σ' ∧ Q q σ') := by
  unfold V_kDepthOfParts_91 at w
  refine wk_b tt_36 1 (pc' := 179) (ls' := [(3, .inl (b3)), (4, .inl (b4))]) (st' := [.inl (b3)]) (σ' := σ) rfl ?_
  refine wk_if tt_36 (tgt := 193) rfl rfl rb3 (fun (h1 : b3 ≤ 0) => ?_) (fun (h1 : 0 < b3) => ?_)
  ·
    have w := w.1 h1
    refine wk_b tt_36 1 (pc' := 194) (ls' := [(3, .inl (b3)), (4, .inl (b4))]) (st' := [.inl ((-1))]) (σ' := σ) rfl ?_
    exact wk_rI tt_36 rfl rfl ⟨_, rfl, (by decide), rfl, w⟩
  ·
    have w := w.2 h1
    refine wk_b tt_36 1 (pc' := 184) (ls' := [(3, .inl (b3)), (4, .inl (b4))]) (st' := [.inl (b4)]) (σ' := σ) rfl ?_
    refine wk_if tt_36 (tgt := 193) rfl rfl rb4 (fun (h2 : ¬ b4 = 0) => ?_) (fun (h2 : b4 = 0) => ?_)
    ·
      have w := w.1 h2
      refine wk_b tt_36 1 (pc' := 194) (ls' := [(3, .inl (b3)), (4, .inl (b4))]) (st' := [.inl ((-1))]) (σ' := σ) rfl ?_
      exact wk_rI tt_36 rfl rfl ⟨_, rfl, (by decide), rfl, w⟩
    ·
      have w := w.2 h2
      obtain ⟨c3, w⟩ := w
      refine wk_b tt_36 4 (pc' := 194) (ls' := [(3, .inl (b3)), (4, .inl (b4))]) (st' := [.inl ((b3 - 1))]) (σ' := σ) rfl ?_
      exact wk_rI tt_36 rfl rfl ⟨_, rfl, c3, rfl, w⟩
-- NestedVectors$Checker.depthOfParts
def V_kDepthOfParts_267 (σ : sg_S) (b3 : Int) (Q : Int → sg_S → Prop) : Prop := ((¬ b3 = 0 → Q ((-1)) σ) ∧ (b3 = 0 → Q (1) σ))
set_option maxHeartbeats 4000000 in
set_option maxRecDepth 8000 in
theorem w_kDepthOfParts_267 (z : Value) (σ : sg_S) (b3 : Int) (Q : Int → sg_S → Prop) (rb3 : sg_R b3) (w : V_kDepthOfParts_267 σ b3 Q) : wx z 0 36 195 [(3, .inl (b3))] [] σ (fun v σ' => ∃ q, v = some (.inl q) ∧ sg_R q ∧ σ = σ' ∧ Q q σ') := by
  unfold V_kDepthOfParts_267 at w
  refine wk_b tt_36 1 (pc' := 196) (ls' := [(3, .inl (b3))]) (st' := [.inl (b3)]) (σ' := σ) rfl ?_
  refine wk_if tt_36 (tgt := 203) rfl rfl rb3 (fun (h1 : ¬ b3 = 0) => ?_) (fun (h1 : b3 = 0) => ?_)
  ·
    have w := w.1 h1
    refine wk_b tt_36 1 (pc' := 204) (ls' := [(3, .inl (b3))]) (st' := [.inl ((-1))]) (σ' := σ) rfl ?_
    exact wk_rI tt_36 rfl rfl ⟨_, rfl, (by decide), rfl, w⟩
  ·
    have w := w.2 h1
    refine wk_b tt_36 2 (pc' := 204) (ls' := [(3, .inl (b3))]) (st' := [.inl (1)]) (σ' := σ) rfl ?_
    exact wk_rI tt_36 rfl rfl ⟨_, rfl, (by decide), rfl, w⟩
-- NestedVectors$Checker.depthOfParts
def V_kDepthOfParts_268 (σ : sg_S) (b3 : Int) (b4 : Int) (Q : Int → sg_S → Prop) : Prop := ((¬ b4 = 0 → Q ((-1)) σ) ∧ (b4 = 0 → sg_R (b3 + 1) ∧ Q ((b3 + 1)) σ))
set_option maxHeartbeats 4000000 in
set_option maxRecDepth 8000 in
theorem w_kDepthOfParts_268 (z : Value) (σ : sg_S) (b3 : Int) (b4 : Int) (Q : Int → sg_S → Prop) (rb3 : sg_R b3) (rb4 : sg_R b4) (w : V_kDepthOfParts_268 σ b3 b4 Q) : wx z 0 36 205 [(3, .inl (b3)), (4, .inl (b4))] [] σ (fun v σ' => ∃ q, v = some (.inl q) ∧ sg_R q ∧ σ = σ' ∧ Q q σ') := by
  unfold V_kDepthOfParts_268 at w
  refine wk_b tt_36 1 (pc' := 207) (ls' := [(3, .inl (b3)), (4, .inl (b4))]) (st' := [.inl (b4)]) (σ' := σ) rfl ?_
  refine wk_if tt_36 (tgt := 216) rfl rfl rb4 (fun (h1 : ¬ b4 = 0) => ?_) (fun (h1 : b4 = 0) => ?_)
  ·
    have w := w.1 h1
    refine wk_b tt_36 1 (pc' := 217) (ls' := [(3, .inl (b3)), (4, .inl (b4))]) (st' := [.inl ((-1))]) (σ' := σ) rfl ?_
    exact wk_rI tt_36 rfl rfl ⟨_, rfl, (by decide), rfl, w⟩
  ·
    have w := w.2 h1
    obtain ⟨c2, w⟩ := w
    refine wk_b tt_36 4 (pc' := 217) (ls' := [(3, .inl (b3)), (4, .inl (b4))]) (st' := [.inl ((b3 + 1))]) (σ' := σ) rfl ?_
    exact wk_rI tt_36 rfl rfl ⟨_, rfl, c2, rfl, w⟩
-- NestedVectors$Checker.depthOfParts
def V_kDepthOfParts_269 (σ : sg_S) (b3 : Int) (Q : Int → sg_S → Prop) : Prop := ((¬ b3 = 1 → Q ((-1)) σ) ∧ (b3 = 1 → Q (0) σ))
set_option maxHeartbeats 4000000 in
set_option maxRecDepth 8000 in
theorem w_kDepthOfParts_269 (z : Value) (σ : sg_S) (b3 : Int) (Q : Int → sg_S → Prop) (rb3 : sg_R b3) (w : V_kDepthOfParts_269 σ b3 Q) : wx z 0 36 218 [(3, .inl (b3))] [] σ (fun v σ' => ∃ q, v = some (.inl q) ∧ sg_R q ∧ σ = σ' ∧ Q q σ') := by
  unfold V_kDepthOfParts_269 at w
  refine wk_b tt_36 2 (pc' := 220) (ls' := [(3, .inl (b3))]) (st' := [.inl (1), .inl (b3)]) (σ' := σ) rfl ?_
  refine wk_if2 tt_36 (tgt := 227) rfl rfl rb3 (by decide) (fun (h1 : ¬ b3 = 1) => ?_) (fun (h1 : b3 = 1) => ?_)
  ·
    have w := w.1 h1
    refine wk_b tt_36 1 (pc' := 228) (ls' := [(3, .inl (b3))]) (st' := [.inl ((-1))]) (σ' := σ) rfl ?_
    exact wk_rI tt_36 rfl rfl ⟨_, rfl, (by decide), rfl, w⟩
  ·
    have w := w.2 h1
    refine wk_b tt_36 2 (pc' := 228) (ls' := [(3, .inl (b3))]) (st' := [.inl (0)]) (σ' := σ) rfl ?_
    exact wk_rI tt_36 rfl rfl ⟨_, rfl, (by decide), rfl, w⟩
-- NestedVectors$Checker.depthOfParts
def V_kDepthOfParts_272 (σ : sg_S) (b3 : Int) (Q : Int → sg_S → Prop) : Prop := ((¬ b3 = 1 → Q ((-1)) σ) ∧ (b3 = 1 → Q (1) σ))
set_option maxHeartbeats 4000000 in
set_option maxRecDepth 8000 in
theorem w_kDepthOfParts_272 (z : Value) (σ : sg_S) (b3 : Int) (Q : Int → sg_S → Prop) (rb3 : sg_R b3) (w : V_kDepthOfParts_272 σ b3 Q) : wx z 0 36 229 [(3, .inl (b3))] [] σ (fun v σ' => ∃ q, v = some (.inl q) ∧ sg_R q ∧ σ = σ' ∧ Q q σ') := by
  unfold V_kDepthOfParts_272 at w
  refine wk_b tt_36 2 (pc' := 231) (ls' := [(3, .inl (b3))]) (st' := [.inl (1), .inl (b3)]) (σ' := σ) rfl ?_
  refine wk_if2 tt_36 (tgt := 238) rfl rfl rb3 (by decide) (fun (h1 : ¬ b3 = 1) => ?_) (fun (h1 : b3 = 1) => ?_)
  ·
    have w := w.1 h1
    refine wk_b tt_36 1 (pc' := 239) (ls' := [(3, .inl (b3))]) (st' := [.inl ((-1))]) (σ' := σ) rfl ?_
    exact wk_rI tt_36 rfl rfl ⟨_, rfl, (by decide), rfl, w⟩
  ·
    have w := w.2 h1
    refine wk_b tt_36 2 (pc' := 239) (ls' := [(3, .inl (b3))]) (st' := [.inl (1)]) (σ' := σ) rfl ?_
    exact wk_rI tt_36 rfl rfl ⟨_, rfl, (by decide), rfl, w⟩
-- NestedVectors$Checker.depthOfParts
def V_kDepthOfParts_273 (σ : sg_S) (b3 : Int) (Q : Int → sg_S → Prop) : Prop := ((b3 ≤ 0 → Q ((-1)) σ) ∧ (0 < b3 → Q (b3) σ))
set_option maxHeartbeats 4000000 in
set_option maxRecDepth 8000 in
theorem w_kDepthOfParts_273 (z : Value) (σ : sg_S) (b3 : Int) (Q : Int → sg_S → Prop) (rb3 : sg_R b3) (w : V_kDepthOfParts_273 σ b3 Q) : wx z 0 36 240 [(3, .inl (b3))] [] σ (fun v σ' => ∃ q, v = some (.inl q) ∧ sg_R q ∧ σ = σ' ∧ Q q σ') := by
  unfold V_kDepthOfParts_273 at w
  refine wk_b tt_36 1 (pc' := 241) (ls' := [(3, .inl (b3))]) (st' := [.inl (b3)]) (σ' := σ) rfl ?_
  refine wk_if tt_36 (tgt := 248) rfl rfl rb3 (fun (h1 : b3 ≤ 0) => ?_) (fun (h1 : 0 < b3) => ?_)
  ·
    have w := w.1 h1
    refine wk_b tt_36 1 (pc' := 249) (ls' := [(3, .inl (b3))]) (st' := [.inl ((-1))]) (σ' := σ) rfl ?_
    exact wk_rI tt_36 rfl rfl ⟨_, rfl, (by decide), rfl, w⟩
  ·
    have w := w.2 h1
    refine wk_b tt_36 2 (pc' := 249) (ls' := [(3, .inl (b3))]) (st' := [.inl (b3)]) (σ' := σ) rfl ?_
    exact wk_rI tt_36 rfl rfl ⟨_, rfl, rb3, rfl, w⟩
-- NestedVectors$Checker.depthOfParts
def V_kDepthOfParts_274 (σ : sg_S) (b3 : Int) (b4 : Int) (Q : Int → sg_S → Prop) : Prop := ((b3 ≤ 0 → Q ((-1)) σ) ∧ (0 < b3 → ((¬ b3 = b4 → Q ((-1)) σ) ∧ (b3 = b4 → Q (b3) σ))))
set_option maxHeartbeats 4000000 in
set_option maxRecDepth 8000 in
theorem w_kDepthOfParts_274 (z : Value) (σ : sg_S) (b3 : Int) (b4 : Int) (Q : Int → sg_S → Prop) (rb3 : sg_R b3) (rb4 : sg_R b4) (w : V_kDepthOfParts_274 σ b3 b4 Q) : wx z 0 36 250 [(3, .inl (b3)), (4, .inl (b4))] [] σ (fun v σ' => ∃ q, v = some (.inl q) ∧ sg_R q ∧ σ = σ' ∧ Q q σ') := by
  unfold V_kDepthOfParts_274 at w
  refine wk_b tt_36 1 (pc' := 251) (ls' := [(3, .inl (b3)), (4, .inl (b4))]) (st' := [.inl (b3)]) (σ' := σ) rfl ?_
  refine wk_if tt_36 (tgt := 264) rfl rfl rb3 (fun (h1 : b3 ≤ 0) => ?_) (fun (h1 : 0 < b3) => ?_)
  ·
    have w := w.1 h1
    refine wk_b tt_36 1 (pc' := 265) (ls' := [(3, .inl (b3)), (4, .inl (b4))]) (st' := [.inl ((-1))]) (σ' := σ) rfl ?_
    exact wk_rI tt_36 rfl rfl ⟨_, rfl, (by decide), rfl, w⟩
  ·
    have w := w.2 h1
    refine wk_b tt_36 2 (pc' := 257) (ls' := [(3, .inl (b3)), (4, .inl (b4))]) (st' := [.inl (b4), .inl (b3)]) (σ' := σ) rfl ?_
    refine wk_if2 tt_36 (tgt := 264) rfl rfl rb3 rb4 (fun (h2 : ¬ b3 = b4) => ?_) (fun (h2 : b3 = b4) => ?_)
    ·
      have w := w.1 h2
      refine wk_b tt_36 1 (pc' := 265) (ls' := [(3, .inl (b3)), (4, .inl (b4))]) (st' := [.inl ((-1))]) (σ' := σ) rfl ?_
      exact wk_rI tt_36 rfl rfl ⟨_, rfl, (by decide), rfl, w⟩
    ·
      have w := w.2 h2
      refine wk_b tt_36 2 (pc' := 265) (ls' := [(3, .inl (b3)), (4, .inl (b4))]) (st' := [.inl (b3)]) (σ' := σ) rfl ?_
      exact wk_rI tt_36 rfl rfl ⟨_, rfl, rb3, rfl, w⟩
