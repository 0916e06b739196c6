/-! What the methods of the flat run ask for (4). -/
-- NestedVectors$FlatRun.branch
def V_fBranch (σ : sg_S) (a1 : Int) (a2 : Int) (a3 : Int) (Q : sg_S → Prop) : Prop := ∀ σ1, σ1 = (sg_w σ 61 21 (0)) → V_fWant σ1 (a2) ((sx_at σ 16 200 (a1))) (fun σ5 => sg_F [74, 22061] σ1 σ5 → V_fSaveWanted σ5 (a1) (fun σ11 => sg_F [71, 72, 73, 23061] σ5 σ11 → V_fNarrow σ11 ((sx_at σ 70 200 (a1))) (a3) ((sx_at σ 69 200 (a1))) (fun σ17 => sg_F [62, 78, 79, 80, 81, 82, 85, 86, 87, 11061, 11077, 12077, 13077, 14077, 15077, 16077, 17077, 18077, 19077, 24061] σ11 σ17 → Q σ17)))
set_option maxHeartbeats 4000000 in
set_option maxRecDepth 8000 in
theorem w_fBranch (z : Value) (σ : sg_S) (a1 : Int) (a2 : Int) (a3 : Int) (Q : sg_S → Prop) (ra1 : sg_R a1) (ra2 : sg_R a2) (ra3 : sg_R a3) (w : V_fBranch σ a1 a2 a3 Q) : wx z 4 53 0 [(0, .inr (.inr (.ref 61))), (1, .inl (a1)), (2, .inl (a2)), (3, .inl (a3))] [] σ (fun v σ' => v = none ∧ sg_F [62, 71, 72, 73, 74, 78, 79, 80, 81, 82, 85, 86, 87, 11061, 11077, 12077, 13077, 14077, 15077, 16077, 17077, 18077, 19077, 22061, 23061, 24061] σ σ' ∧ Q σ') := by
  unfold V_fBranch at w
  refine wk_b tt_53 3 (pc' := 5) (ls' := [(0, .inr (.inr (.ref 61))), (1, .inl (a1)), (2, .inl (a2)), (3, .inl (a3))]) (st' := []) (σ' := (sg_w σ 61 21 (0))) rfl ?_
  generalize hs2 : (sg_w σ 61 21 (0)) = σ1
  have w := w σ1 hs2.symm
  have hF3 : sg_F [22061] σ σ1 := by rw [← hs2]; exact sg_F_w (sg_F_r _ _) rfl _
  refine wk_b tt_53 6 (pc' := 15) (ls' := [(0, .inr (.inr (.ref 61))), (1, .inl (a1)), (2, .inl (a2)), (3, .inl (a3))]) (st' := [.inl (a1), .inr (.inr (.ref 16)), .inl (a2), .inr (.inr (.ref 61))]) (σ' := σ1) rfl ?_
  refine wk_callp tt_53 rfl rfl rfl rfl rfl tt_5 rfl (by decide) (at_i0 z σ1 16 200 (a1) rfl (by decide) ra1) ?_
  show wx z 4 53 18 [(0, .inr (.inr (.ref 61))), (1, .inl (a1)), (2, .inl (a2)), (3, .inl (a3))] [.inl ((sx_at σ1 16 200 (a1))), .inl (a2), .inr (.inr (.ref 61))] σ1 (fun v σ' => v = none ∧ sg_F [62, 71, 72, 73, 74, 78, 79, 80, 81, 82, 85, 86, 87, 11061, 11077, 12077, 13077, 14077, 15077, 16077, 17077, 18077, 19077, 22061, 23061, 24061] σ σ' ∧ Q σ')
  rw [sx_F (a := 16) (n := 200) (i := (a1)) hF3 rfl]
  refine wk_call tt_53 rfl rfl rfl rfl rfl tt_89 rfl (by decide) (w_fWant z σ1 (a2) ((sx_at σ 16 200 (a1))) _ ra2 (sx_R ..) w) (fun u9 σ5 hq7 => ?_)
  obtain ⟨rfl, hF6, w⟩ := hq7
  have w := w hF6
  refine wk_b tt_53 2 (pc' := 23) (ls' := [(0, .inr (.inr (.ref 61))), (1, .inl (a1)), (2, .inl (a2)), (3, .inl (a3))]) (st' := [.inl (a1), .inr (.inr (.ref 61))]) (σ' := σ5) rfl ?_
  refine wk_call tt_53 rfl rfl rfl rfl rfl tt_81 rfl (by decide) (w_fSaveWanted z σ5 (a1) _ ra1 w) (fun u15 σ11 hq13 => ?_)
  obtain ⟨rfl, hF12, w⟩ := hq13
  have w := w hF12
  refine wk_b tt_53 4 (pc' := 32) (ls' := [(0, .inr (.inr (.ref 61))), (1, .inl (a1)), (2, .inl (a2)), (3, .inl (a3))]) (st' := [.inl (a1), .inr (.inr (.ref 70)), .inr (.inr (.ref 61))]) (σ' := σ11) rfl ?_
  refine wk_callp tt_53 rfl rfl rfl rfl rfl tt_5 rfl (by decide) (at_i0 z σ11 70 200 (a1) rfl (by decide) ra1) ?_
  show wx z 4 53 35 [(0, .inr (.inr (.ref 61))), (1, .inl (a1)), (2, .inl (a2)), (3, .inl (a3))] [.inl ((sx_at σ11 70 200 (a1))), .inr (.inr (.ref 61))] σ11 (fun v σ' => v = none ∧ sg_F [62, 71, 72, 73, 74, 78, 79, 80, 81, 82, 85, 86, 87, 11061, 11077, 12077, 13077, 14077, 15077, 16077, 17077, 18077, 19077, 22061, 23061, 24061] σ σ' ∧ Q σ')
  rw [sx_F (a := 70) (n := 200) (i := (a1)) hF12 rfl, sx_F (a := 70) (n := 200) (i := (a1)) hF6 rfl, sx_F (a := 70) (n := 200) (i := (a1)) hF3 rfl]
  refine wk_b tt_53 4 (pc' := 41) (ls' := [(0, .inr (.inr (.ref 61))), (1, .inl (a1)), (2, .inl (a2)), (3, .inl (a3))]) (st' := [.inl (a1), .inr (.inr (.ref 69)), .inl (a3), .inl ((sx_at σ 70 200 (a1))), .inr (.inr (.ref 61))]) (σ' := σ11) rfl ?_
  refine wk_callp tt_53 rfl rfl rfl rfl rfl tt_5 rfl (by decide) (at_i0 z σ11 69 200 (a1) rfl (by decide) ra1) ?_
  show wx z 4 53 44 [(0, .inr (.inr (.ref 61))), (1, .inl (a1)), (2, .inl (a2)), (3, .inl (a3))] [.inl ((sx_at σ11 69 200 (a1))), .inl (a3), .inl ((sx_at σ 70 200 (a1))), .inr (.inr (.ref 61))] σ11 (fun v σ' => v = none ∧ sg_F [62, 71, 72, 73, 74, 78, 79, 80, 81, 82, 85, 86, 87, 11061, 11077, 12077, 13077, 14077, 15077, 16077, 17077, 18077, 19077, 22061, 23061, 24061] σ σ' ∧ Q σ')
  rw [sx_F (a := 69) (n := 200) (i := (a1)) hF12 rfl, sx_F (a := 69) (n := 200) (i := (a1)) hF6 rfl, sx_F (a := 69) (n := 200) (i := (a1)) hF3 rfl]
  refine wk_call tt_53 rfl rfl rfl rfl rfl tt_69 rfl (by decide) (w_fNarrow z σ11 ((sx_at σ 70 200 (a1))) (a3) ((sx_at σ 69 200 (a1))) _ (sx_R ..) ra3 (sx_R ..) w) (fun u21 σ17 hq19 => ?_)
  obtain ⟨rfl, hF18, w⟩ := hq19
  have w := w hF18
  exact wk_rV tt_53 rfl rfl ⟨rfl, (sg_F_t (sg_F_t (sg_F_t (sg_F_t (sg_F_r [62, 71, 72, 73, 74, 78, 79, 80, 81, 82, 85, 86, 87, 11061, 11077, 12077, 13077, 14077, 15077, 16077, 17077, 18077, 19077, 22061, 23061, 24061] σ) (sg_F_m (L := [62, 71, 72, 73, 74, 78, 79, 80, 81, 82, 85, 86, 87, 11061, 11077, 12077, 13077, 14077, 15077, 16077, 17077, 18077, 19077, 22061, 23061, 24061]) hF3 rfl)) (sg_F_m (L := [62, 71, 72, 73, 74, 78, 79, 80, 81, 82, 85, 86, 87, 11061, 11077, 12077, 13077, 14077, 15077, 16077, 17077, 18077, 19077, 22061, 23061, 24061]) hF6 rfl)) (sg_F_m (L := [62, 71, 72, 73, 74, 78, 79, 80, 81, 82, 85, 86, 87, 11061, 11077, 12077, 13077, 14077, 15077, 16077, 17077, 18077, 19077, 22061, 23061, 24061]) hF12 rfl)) (sg_F_m (L := [62, 71, 72, 73, 74, 78, 79, 80, 81, 82, 85, 86, 87, 11061, 11077, 12077, 13077, 14077, 15077, 16077, 17077, 18077, 19077, 22061, 23061, 24061]) hF18 rfl)), w⟩
-- NestedVectors$FlatRun.cannotDivide
def V_fCannotDivide (σ : sg_S) (a1 : Int) (a2 : Int) (a3 : Int) (a4 : Int) (Q : Int → sg_S → Prop) : Prop := (∃ (I5 : Nat → Int → Int → Prop) (X7 : Int → Prop), (∃ n, I5 n (0) (a3)) ∧ (∀ (n16 : Nat) (v1 : Int) (v2 : Int), sg_RL v1 → sg_R v2 → I5 n16 v1 v2 → ((a4 ≤ v2 → X7 (v1)) ∧ (v2 < a4 → p_lCell σ (a2) (v2) ∧ ((0 ≤ (v_lCell σ (a2) (v2)) → sg_RL (v1 + (v_lCell σ (a2) (v2))) ∧ sg_R (v2 + 1) ∧ (∃ m, m < n16 ∧ I5 m ((v1 + (v_lCell σ (a2) (v2)))) ((v2 + 1)))) ∧ ((v_lCell σ (a2) (v2)) < 0 → Q (5) σ))))) ∧ (∀ (v1 : Int), sg_RL v1 → X7 v1 → ((¬ v1 = a1 → Q (3) σ) ∧ (v1 = a1 → Q (0) σ))))
set_option maxHeartbeats 4000000 in
set_option maxRecDepth 8000 in
theorem w_fCannotDivide (z : Value) (σ : sg_S) (a1 : Int) (a2 : Int) (a3 : Int) (a4 : Int) (Q : Int → sg_S → Prop) (ra1 : sg_R a1) (ra2 : sg_R a2) (ra3 : sg_R a3) (ra4 : sg_R a4) (w : V_fCannotDivide σ a1 a2 a3 a4 Q) : wx z 1 54 0 [(0, .inr (.inr (.ref 61))), (1, .inl (a1)), (2, .inl (a2)), (3, .inl (a3)), (4, .inl (a4))] [] σ (fun v σ' => ∃ q, v = some (.inl q) ∧ sg_R q ∧ σ = σ' ∧ Q q σ') := by
  unfold V_fCannotDivide at w
  refine wk_b tt_54 4 (pc' := 6) (ls' := [(7, .inl (a3)), (5, .inr (.inl (0))), (0, .inr (.inr (.ref 61))), (1, .inl (a1)), (2, .inl (a2)), (3, .inl (a3)), (4, .inl (a4))]) (st' := []) (σ' := σ) rfl ?_
  obtain ⟨I5, X7, ⟨μ6, w13⟩, w14, w15⟩ := w
  have ex17 : ∀ (v1 : Int), sg_RL v1 → X7 v1 → wx z 1 54 46 [(1, .inl (a1)), (5, .inr (.inl (v1)))] [] σ (fun v σ' => ∃ q, v = some (.inl q) ∧ sg_R q ∧ σ = σ' ∧ Q q σ') := by
    intro v1 r8 w
    have w := w15 v1 r8 w
    refine wk_b tt_54 3 (pc' := 50) (ls' := [(1, .inl (a1)), (5, .inr (.inl (v1)))]) (st' := [.inr (.inl ((sg_n (a1)))), .inr (.inl (v1))]) (σ' := σ) rfl ?_
    rw [show (sg_n (a1)) = a1 from by rw [sg_id ra1]]
    refine wk_lcif tt_54 (tgt := 58) rfl rfl rfl r8 (sg_Rgl2 ra1) (fun (h18 : ¬ v1 = a1) => ?_) (fun (h18 : v1 = a1) => ?_)
    ·
      have w := w.1 h18
      refine wk_b tt_54 1 (pc' := 59) (ls' := [(1, .inl (a1)), (5, .inr (.inl (v1)))]) (st' := [.inl (3)]) (σ' := σ) rfl ?_
      exact wk_rI tt_54 rfl rfl ⟨_, rfl, (by decide), rfl, w⟩
    ·
      have w := w.2 h18
      refine wk_b tt_54 2 (pc' := 59) (ls' := [(1, .inl (a1)), (5, .inr (.inl (v1)))]) (st' := [.inl (0)]) (σ' := σ) rfl ?_
      exact wk_rI tt_54 rfl rfl ⟨_, rfl, (by decide), rfl, w⟩
  have lp12 : ∀ (n16 : Nat) (v1 : Int) (v2 : Int), sg_RL v1 → sg_R v2 → I5 n16 v1 v2 → wx z 1 54 6 [(0, .inr (.inr (.ref 61))), (1, .inl (a1)), (2, .inl (a2)), (4, .inl (a4)), (5, .inr (.inl (v1))), (7, .inl (v2))] [] σ (fun v σ' => ∃ q, v = some (.inl q) ∧ sg_R q ∧ σ = σ' ∧ Q q σ') := by
    intro n16
    induction n16 using Nat.strongRecOn with
    | _ n16 ih10 =>
      intro v1 v2 r8 r9 w
      have w := w14 n16 v1 v2 r8 r9 w
      refine wk_b tt_54 2 (pc' := 10) (ls' := [(0, .inr (.inr (.ref 61))), (1, .inl (a1)), (2, .inl (a2)), (4, .inl (a4)), (5, .inr (.inl (v1))), (7, .inl (v2))]) (st' := [.inl (a4), .inl (v2)]) (σ' := σ) rfl ?_
      refine wk_if2 tt_54 (tgt := 46) rfl rfl r9 ra4 (fun (h19 : a4 ≤ v2) => ?_) (fun (h19 : v2 < a4) => ?_)
      ·
        have w := w.1 h19
        exact wk_ls [(1, .inl (a1)), (5, .inr (.inl (v1)))] rfl ⟨rfl, rfl, trivial⟩ (ex17 (v1)  r8  w)
      ·
        have w := w.2 h19
        refine wk_b tt_54 4 (pc' := 20) (ls' := [(0, .inr (.inr (.ref 61))), (1, .inl (a1)), (2, .inl (a2)), (4, .inl (a4)), (5, .inr (.inl (v1))), (7, .inl (v2))]) (st' := [.inl (v2), .inl (a2), .inr (.inr (.ref 77))]) (σ' := σ) rfl ?_
        obtain ⟨c20, w⟩ := w
        refine wk_callp tt_54 rfl rfl rfl rfl rfl tt_100 rfl (by decide) (w_lCell z σ (a2) (v2) ra2 r9 c20) ?_
        have r21 := vr_lCell σ  (a2) (v2) ra2 r9 c20
        refine wk_b tt_54 2 (pc' := 27) (ls' := [(8, .inl ((v_lCell σ (a2) (v2)))), (0, .inr (.inr (.ref 61))), (1, .inl (a1)), (2, .inl (a2)), (4, .inl (a4)), (5, .inr (.inl (v1))), (7, .inl (v2))]) (st' := [.inl ((v_lCell σ (a2) (v2)))]) (σ' := σ) rfl ?_
        refine wk_if tt_54 (tgt := 32) rfl rfl r21 (fun (h22 : 0 ≤ (v_lCell σ (a2) (v2))) => ?_) (fun (h22 : (v_lCell σ (a2) (v2)) < 0) => ?_)
        ·
          have w := w.1 h22
          obtain ⟨c23, w⟩ := w
          obtain ⟨c24, w⟩ := w
          refine wk_b tt_54 7 (pc' := 6) (ls' := [(7, .inl ((v2 + 1))), (5, .inr (.inl ((v1 + (sg_n ((v_lCell σ (a2) (v2)))))))), (8, .inl ((v_lCell σ (a2) (v2)))), (0, .inr (.inr (.ref 61))), (1, .inl (a1)), (2, .inl (a2)), (4, .inl (a4))]) (st' := []) (σ' := σ) rfl ?_
          rw [show (sg_n ((v_lCell σ (a2) (v2)))) = (v_lCell σ (a2) (v2)) from by rw [sg_id r21]]
          obtain ⟨m25, hm25, w⟩ := w
          exact wk_ls [(0, .inr (.inr (.ref 61))), (1, .inl (a1)), (2, .inl (a2)), (4, .inl (a4)), (5, .inr (.inl ((v1 + (v_lCell σ (a2) (v2)))))), (7, .inl ((v2 + 1)))] rfl ⟨rfl, rfl, rfl, rfl, rfl, rfl, trivial⟩ (ih10 m25 hm25 ((v1 + (v_lCell σ (a2) (v2)))) ((v2 + 1))  c23 c24  w)
        ·
          have w := w.2 h22
          refine wk_b tt_54 1 (pc' := 31) (ls' := [(8, .inl ((v_lCell σ (a2) (v2)))), (0, .inr (.inr (.ref 61))), (1, .inl (a1)), (2, .inl (a2)), (4, .inl (a4)), (5, .inr (.inl (v1))), (7, .inl (v2))]) (st' := [.inl (5)]) (σ' := σ) rfl ?_
          exact wk_rI tt_54 rfl rfl ⟨_, rfl, (by decide), rfl, w⟩
  exact wk_ls [(0, .inr (.inr (.ref 61))), (1, .inl (a1)), (2, .inl (a2)), (4, .inl (a4)), (5, .inr (.inl (0))), (7, .inl (a3))] rfl ⟨rfl, rfl, rfl, rfl, rfl, rfl, trivial⟩ (lp12 μ6 (0) (a3)  (by decide) ra3  w13)
-- NestedVectors$Machine.pop
def V_mPop (σ : sg_S) (Q : Int → sg_S → Prop) : Prop := sg_R ((sg_g σ 61 7) - 1) ∧ ∀ σ2, σ2 = (sg_w σ 61 7 (((sg_g σ 61 7) - 1))) → Q ((sx_at σ 64 400 (((sg_g σ 61 7) - 1)))) σ2
set_option maxHeartbeats 4000000 in
set_option maxRecDepth 8000 in
theorem w_mPop (z : Value) (σ : sg_S) (Q : Int → sg_S → Prop)  (w : V_mPop σ  Q) : wx z 1 124 0 [(0, .inr (.inr (.ref 61)))] [] σ (fun v σ' => ∃ q, v = some (.inl q) ∧ sg_R q ∧ sg_F [8061] σ σ' ∧ Q q σ') := by
  unfold V_mPop at w
  obtain ⟨c1, w⟩ := w
  refine wk_b tt_124 6 (pc' := 10) (ls' := [(0, .inr (.inr (.ref 61)))]) (st' := []) (σ' := (sg_w σ 61 7 (((sg_g σ 61 7) - 1)))) rfl ?_
  generalize hs3 : (sg_w σ 61 7 (((sg_g σ 61 7) - 1))) = σ2
  have w := w σ2 hs3.symm
  have hF4 : sg_F [8061] σ σ2 := by rw [← hs3]; exact sg_F_w (sg_F_r _ _) rfl _
  refine wk_b tt_124 4 (pc' := 18) (ls' := [(0, .inr (.inr (.ref 61)))]) (st' := [.inl ((sg_g σ2 61 7)), .inr (.inr (.ref 64))]) (σ' := σ2) rfl ?_
  rw [show (sg_g σ2 61 7) = ((sg_g σ 61 7) - 1) from by rw [(show sg_g σ2 61 7 = ((sg_g σ 61 7) - 1) from by rw [← hs3]; exact sg_gw_e _ _ _ _ c1)]]
  refine wk_callp tt_124 rfl rfl rfl rfl rfl tt_5 rfl (by decide) (at_i0 z σ2 64 400 (((sg_g σ 61 7) - 1)) rfl (by decide) c1) ?_
  show wx z 1 124 21 [(0, .inr (.inr (.ref 61)))] [.inl ((sx_at σ2 64 400 (((sg_g σ 61 7) - 1))))] σ2 (fun v σ' => ∃ q, v = some (.inl q) ∧ sg_R q ∧ sg_F [8061] σ σ' ∧ Q q σ')
  rw [sx_F (a := 64) (n := 400) (i := (((sg_g σ 61 7) - 1))) hF4 rfl]
  exact wk_rI tt_124 rfl rfl ⟨_, rfl, (sx_R ..), (sg_F_t (sg_F_r [8061] σ) (sg_F_m (L := [8061]) hF4 rfl)), w⟩
-- NestedVectors$FlatRun.restore
def V_fRestore (σ : sg_S) (a1 : Int) (Q : sg_S → Prop) : Prop := ∀ v1 : Int, v1 = (if 2400 < (sg_g σ 61 22) then 2400 else (sg_g σ 61 22)) → sg_R v1 → sg_R (v1 - 1) ∧ (∃ (I8 : Nat → Int → sg_S → Prop) (X10 : sg_S → Prop), (∃ n, I8 n ((v1 - 1)) σ) ∧ (∀ (n18 : Nat) (v5 : Int) (σ6 : sg_S), sg_R v5 → sg_F [62] σ σ6 → I8 n18 v5 σ6 → ((v5 < (sx_at σ 71 200 (a1)) → X10 σ6) ∧ ((sx_at σ 71 200 (a1)) ≤ v5 → ((v5 < 0 → X10 σ6) ∧ (0 ≤ v5 → ∀ σ25, σ25 = (sx_put σ6 62 272 ((sx_at σ 72 2400 (v5))) ((sx_at σ 73 2400 (v5)))) → sg_R (v5 + (-1)) ∧ (∃ m, m < n18 ∧ I8 m ((v5 + (-1))) σ25)))))) ∧ (∀ (σ6 : sg_S), sg_F [62] σ σ6 → X10 σ6 → ∀ σ20, σ20 = (sg_w σ6 61 22 ((sx_at σ 71 200 (a1)))) → Q σ20))
set_option maxHeartbeats 4000000 in
set_option maxRecDepth 8000 in
theorem w_fRestore (z : Value) (σ : sg_S) (a1 : Int) (Q : sg_S → Prop) (ra1 : sg_R a1) (w : V_fRestore σ a1 Q) : wx z 1 78 0 [(0, .inr (.inr (.ref 61))), (1, .inl (a1))] [] σ (fun v σ' => v = none ∧ sg_F [62, 23061] σ σ' ∧ Q σ') := by
  unfold V_fRestore at w
  refine wk_b tt_78 3 (pc' := 7) (ls' := [(0, .inr (.inr (.ref 61))), (1, .inl (a1))]) (st' := [.inl (2400), .inl ((sg_g σ 61 22))]) (σ' := σ) rfl ?_
  refine wk_min (k0 := 0) tt_78 rfl (sg_Rg _ _ _) (by decide) rfl ?_
  obtain ⟨v1, e2⟩ : ∃ q, q = (if 2400 < (sg_g σ 61 22) then 2400 else (sg_g σ 61 22)) := ⟨_, rfl⟩
  have r3 : sg_R v1 := by rw [e2]; split <;> first | exact (sg_Rg _ _ _) | exact (by decide)
  rw [← e2]
  have w := w v1 e2 r3
  obtain ⟨c4, w⟩ := w
  refine wk_b tt_78 3 (pc' := 13) (ls' := [(2, .inl ((v1 - 1))), (0, .inr (.inr (.ref 61))), (1, .inl (a1))]) (st' := []) (σ' := σ) rfl ?_
  obtain ⟨I8, X10, ⟨μ9, w15⟩, w16, w17⟩ := w
  have ex19 : ∀ (σ6 : sg_S), sg_F [62] σ σ6 → X10 σ6 → wx z 1 78 58 [(0, .inr (.inr (.ref 61))), (1, .inl (a1))] [] σ6 (fun v σ' => v = none ∧ sg_F [62, 23061] σ σ' ∧ Q σ') := by
    intro σ6 hF7 w
    have w := w17 σ6 hF7 w
    refine wk_b tt_78 4 (pc' := 64) (ls' := [(0, .inr (.inr (.ref 61))), (1, .inl (a1))]) (st' := [.inl (a1), .inr (.inr (.ref 71)), .inr (.inr (.ref 61))]) (σ' := σ6) rfl ?_
    refine wk_callp tt_78 rfl rfl rfl rfl rfl tt_5 rfl (by decide) (at_i0 z σ6 71 200 (a1) rfl (by decide) ra1) ?_
    show wx z 1 78 67 [(0, .inr (.inr (.ref 61))), (1, .inl (a1))] [.inl ((sx_at σ6 71 200 (a1))), .inr (.inr (.ref 61))] σ6 (fun v σ' => v = none ∧ sg_F [62, 23061] σ σ' ∧ Q σ')
    rw [sx_F (a := 71) (n := 200) (i := (a1)) hF7 rfl]
    refine wk_b tt_78 1 (pc' := 70) (ls' := [(0, .inr (.inr (.ref 61))), (1, .inl (a1))]) (st' := []) (σ' := (sg_w σ6 61 22 ((sx_at σ 71 200 (a1))))) rfl ?_
    generalize hs21 : (sg_w σ6 61 22 ((sx_at σ 71 200 (a1)))) = σ20
    have w := w σ20 hs21.symm
    have hF22 : sg_F [23061] σ6 σ20 := by rw [← hs21]; exact sg_F_w (sg_F_r _ _) rfl _
    exact wk_rV tt_78 rfl rfl ⟨rfl, (sg_F_t (sg_F_t (sg_F_r [62, 23061] σ) (sg_F_m (L := [62, 23061]) hF7 rfl)) (sg_F_m (L := [62, 23061]) hF22 rfl)), w⟩
  have lp14 : ∀ (n18 : Nat) (v5 : Int) (σ6 : sg_S), sg_R v5 → sg_F [62] σ σ6 → I8 n18 v5 σ6 → wx z 1 78 13 [(0, .inr (.inr (.ref 61))), (1, .inl (a1)), (2, .inl (v5))] [] σ6 (fun v σ' => v = none ∧ sg_F [62, 23061] σ σ' ∧ Q σ') := by
    intro n18
    induction n18 using Nat.strongRecOn with
    | _ n18 ih12 =>
      intro v5 σ6 r11 hF7 w
      have w := w16 n18 v5 σ6 r11 hF7 w
      refine wk_b tt_78 4 (pc' := 19) (ls' := [(0, .inr (.inr (.ref 61))), (1, .inl (a1)), (2, .inl (v5))]) (st' := [.inl (a1), .inr (.inr (.ref 71)), .inl (v5)]) (σ' := σ6) rfl ?_
      refine wk_callp tt_78 rfl rfl rfl rfl rfl tt_5 rfl (by decide) (at_i0 z σ6 71 200 (a1) rfl (by decide) ra1) ?_
      show wx z 1 78 22 [(0, .inr (.inr (.ref 61))), (1, .inl (a1)), (2, .inl (v5))] [.inl ((sx_at σ6 71 200 (a1))), .inl (v5)] σ6 (fun v σ' => v = none ∧ sg_F [62, 23061] σ σ' ∧ Q σ')
      rw [sx_F (a := 71) (n := 200) (i := (a1)) hF7 rfl]
      refine wk_if2 tt_78 (tgt := 58) rfl rfl r11 (sx_R ..) (fun (h23 : v5 < (sx_at σ 71 200 (a1))) => ?_) (fun (h23 : (sx_at σ 71 200 (a1)) ≤ v5) => ?_)
      ·
        have w := w.1 h23
        exact wk_ls [(0, .inr (.inr (.ref 61))), (1, .inl (a1))] rfl ⟨rfl, rfl, trivial⟩ (ex19  σ6  (sg_F_t (sg_F_r [62] σ) (sg_F_m (L := [62]) hF7 rfl)) w)
      ·
        have w := w.2 h23
        refine wk_b tt_78 1 (pc' := 26) (ls' := [(0, .inr (.inr (.ref 61))), (1, .inl (a1)), (2, .inl (v5))]) (st' := [.inl (v5)]) (σ' := σ6) rfl ?_
        refine wk_if tt_78 (tgt := 58) rfl rfl r11 (fun (h24 : v5 < 0) => ?_) (fun (h24 : 0 ≤ v5) => ?_)
        ·
          have w := w.1 h24
          exact wk_ls [(0, .inr (.inr (.ref 61))), (1, .inl (a1))] rfl ⟨rfl, rfl, trivial⟩ (ex19  σ6  (sg_F_t (sg_F_r [62] σ) (sg_F_m (L := [62]) hF7 rfl)) w)
        ·
          have w := w.2 h24
          refine wk_b tt_78 5 (pc' := 38) (ls' := [(0, .inr (.inr (.ref 61))), (1, .inl (a1)), (2, .inl (v5))]) (st' := [.inl (v5), .inr (.inr (.ref 72)), .inr (.inr (.ref 62))]) (σ' := σ6) rfl ?_
          refine wk_callp tt_78 rfl rfl rfl rfl rfl tt_5 rfl (by decide) (at_i0 z σ6 72 2400 (v5) rfl (by decide) r11) ?_
          show wx z 1 78 41 [(0, .inr (.inr (.ref 61))), (1, .inl (a1)), (2, .inl (v5))] [.inl ((sx_at σ6 72 2400 (v5))), .inr (.inr (.ref 62))] σ6 (fun v σ' => v = none ∧ sg_F [62, 23061] σ σ' ∧ Q σ')
          rw [sx_F (a := 72) (n := 2400) (i := (v5)) hF7 rfl]
          refine wk_b tt_78 3 (pc' := 46) (ls' := [(0, .inr (.inr (.ref 61))), (1, .inl (a1)), (2, .inl (v5))]) (st' := [.inl (v5), .inr (.inr (.ref 73)), .inl ((sx_at σ 72 2400 (v5))), .inr (.inr (.ref 62))]) (σ' := σ6) rfl ?_
          refine wk_callp tt_78 rfl rfl rfl rfl rfl tt_5 rfl (by decide) (at_i0 z σ6 73 2400 (v5) rfl (by decide) r11) ?_
          show wx z 1 78 49 [(0, .inr (.inr (.ref 61))), (1, .inl (a1)), (2, .inl (v5))] [.inl ((sx_at σ6 73 2400 (v5))), .inl ((sx_at σ 72 2400 (v5))), .inr (.inr (.ref 62))] σ6 (fun v σ' => v = none ∧ sg_F [62, 23061] σ σ' ∧ Q σ')
          rw [sx_F (a := 73) (n := 2400) (i := (v5)) hF7 rfl]
          refine wk_callp tt_78 rfl rfl rfl rfl rfl tt_21 rfl (by decide) (pt_i0 z σ6 62 272 ((sx_at σ 72 2400 (v5))) ((sx_at σ 73 2400 (v5))) rfl (by decide) (sx_R ..)) ?_
          show wx z 1 78 52 [(0, .inr (.inr (.ref 61))), (1, .inl (a1)), (2, .inl (v5))] [] (sx_put σ6 62 272 ((sx_at σ 72 2400 (v5))) ((sx_at σ 73 2400 (v5)))) (fun v σ' => v = none ∧ sg_F [62, 23061] σ σ' ∧ Q σ')
          generalize hs26 : (sx_put σ6 62 272 ((sx_at σ 72 2400 (v5))) ((sx_at σ 73 2400 (v5)))) = σ25
          have w := w σ25 hs26.symm
          have hF27 : sg_F [62] σ6 σ25 := by rw [← hs26]; exact sg_F_p (sg_F_r _ _) rfl _ _ _
          obtain ⟨c28, w⟩ := w
          refine wk_b tt_78 2 (pc' := 13) (ls' := [(2, .inl ((v5 + (-1)))), (0, .inr (.inr (.ref 61))), (1, .inl (a1))]) (st' := []) (σ' := σ25) rfl ?_
          obtain ⟨m29, hm29, w⟩ := w
          exact wk_ls [(0, .inr (.inr (.ref 61))), (1, .inl (a1)), (2, .inl ((v5 + (-1))))] rfl ⟨rfl, rfl, rfl, trivial⟩ (ih12 m29 hm29 ((v5 + (-1))) σ25 c28 (sg_F_t (sg_F_t (sg_F_r [62] σ) (sg_F_m (L := [62]) hF7 rfl)) (sg_F_m (L := [62]) hF27 rfl)) w)
  exact wk_ls [(0, .inr (.inr (.ref 61))), (1, .inl (a1)), (2, .inl ((v1 - 1)))] rfl ⟨rfl, rfl, rfl, trivial⟩ (lp14 μ9 ((v1 - 1)) σ c4 (sg_F_r _ _) w15)
-- NestedVectors$FlatRun.collect
def V_fCollect (σ : sg_S) (a1 : Int) (Q : sg_S → Prop) : Prop := V_mPop σ  (fun q1 σ2 => sg_R q1 → sg_F [8061] σ σ2 → V_fRestore σ2 (a1) (fun σ8 => sg_F [62, 23061] σ2 σ8 → ∀ σ13, σ13 = (sg_w σ8 61 23 ((sx_at σ 69 200 (a1)))) → V_lBundle σ13 ((sx_at σ 70 200 (a1))) (q1) (fun q16 σ17 => sg_R q16 → sg_F [79, 80, 81, 82, 11077] σ13 σ17 → V_mPush σ17 (q16) (fun σ23 => sg_F [64, 8061] σ17 σ23 → Q σ23))))
set_option maxHeartbeats 4000000 in
set_option maxRecDepth 8000 in
theorem w_fCollect (z : Value) (σ : sg_S) (a1 : Int) (Q : sg_S → Prop) (ra1 : sg_R a1) (w : V_fCollect σ a1 Q) : wx z 3 56 0 [(0, .inr (.inr (.ref 61))), (1, .inl (a1))] [] σ (fun v σ' => v = none ∧ sg_F [62, 64, 79, 80, 81, 82, 8061, 11077, 23061, 24061] σ σ' ∧ Q σ') := by
  unfold V_fCollect at w
  refine wk_b tt_56 1 (pc' := 1) (ls' := [(0, .inr (.inr (.ref 61))), (1, .inl (a1))]) (st' := [.inr (.inr (.ref 61))]) (σ' := σ) rfl ?_
  refine wk_call tt_56 rfl rfl rfl rfl rfl tt_124 rfl (by decide) (w_mPop z σ  _  w) (fun u6 σ2 hq4 => ?_)
  obtain ⟨q1, rfl, r5, hF3, w⟩ := hq4
  have w := w r5 hF3
  refine wk_b tt_56 3 (pc' := 7) (ls' := [(2, .inl (q1)), (0, .inr (.inr (.ref 61))), (1, .inl (a1))]) (st' := [.inl (a1), .inr (.inr (.ref 61))]) (σ' := σ2) rfl ?_
  refine wk_call tt_56 rfl rfl rfl rfl rfl tt_78 rfl (by decide) (w_fRestore z σ2 (a1) _ ra1 w) (fun u12 σ8 hq10 => ?_)
  obtain ⟨rfl, hF9, w⟩ := hq10
  have w := w hF9
  refine wk_b tt_56 4 (pc' := 16) (ls' := [(2, .inl (q1)), (0, .inr (.inr (.ref 61))), (1, .inl (a1))]) (st' := [.inl (a1), .inr (.inr (.ref 69)), .inr (.inr (.ref 61))]) (σ' := σ8) rfl ?_
  refine wk_callp tt_56 rfl rfl rfl rfl rfl tt_5 rfl (by decide) (at_i0 z σ8 69 200 (a1) rfl (by decide) ra1) ?_
  show wx z 3 56 19 [(2, .inl (q1)), (0, .inr (.inr (.ref 61))), (1, .inl (a1))] [.inl ((sx_at σ8 69 200 (a1))), .inr (.inr (.ref 61))] σ8 (fun v σ' => v = none ∧ sg_F [62, 64, 79, 80, 81, 82, 8061, 11077, 23061, 24061] σ σ' ∧ Q σ')
  rw [sx_F (a := 69) (n := 200) (i := (a1)) hF9 rfl, sx_F (a := 69) (n := 200) (i := (a1)) hF3 rfl]
  refine wk_b tt_56 1 (pc' := 22) (ls' := [(2, .inl (q1)), (0, .inr (.inr (.ref 61))), (1, .inl (a1))]) (st' := []) (σ' := (sg_w σ8 61 23 ((sx_at σ 69 200 (a1))))) rfl ?_
  generalize hs14 : (sg_w σ8 61 23 ((sx_at σ 69 200 (a1)))) = σ13
  have w := w σ13 hs14.symm
  have hF15 : sg_F [24061] σ8 σ13 := by rw [← hs14]; exact sg_F_w (sg_F_r _ _) rfl _
  refine wk_b tt_56 6 (pc' := 32) (ls' := [(2, .inl (q1)), (0, .inr (.inr (.ref 61))), (1, .inl (a1))]) (st' := [.inl (a1), .inr (.inr (.ref 70)), .inr (.inr (.ref 77)), .inr (.inr (.ref 61))]) (σ' := σ13) rfl ?_
  refine wk_callp tt_56 rfl rfl rfl rfl rfl tt_5 rfl (by decide) (at_i0 z σ13 70 200 (a1) rfl (by decide) ra1) ?_
  show wx z 3 56 35 [(2, .inl (q1)), (0, .inr (.inr (.ref 61))), (1, .inl (a1))] [.inl ((sx_at σ13 70 200 (a1))), .inr (.inr (.ref 77)), .inr (.inr (.ref 61))] σ13 (fun v σ' => v = none ∧ sg_F [62, 64, 79, 80, 81, 82, 8061, 11077, 23061, 24061] σ σ' ∧ Q σ')
  rw [sx_F (a := 70) (n := 200) (i := (a1)) hF15 rfl, sx_F (a := 70) (n := 200) (i := (a1)) hF9 rfl, sx_F (a := 70) (n := 200) (i := (a1)) hF3 rfl]
  refine wk_b tt_56 1 (pc' := 36) (ls' := [(2, .inl (q1)), (0, .inr (.inr (.ref 61))), (1, .inl (a1))]) (st' := [.inl (q1), .inl ((sx_at σ 70 200 (a1))), .inr (.inr (.ref 77)), .inr (.inr (.ref 61))]) (σ' := σ13) rfl ?_
  refine wk_call tt_56 rfl rfl rfl rfl rfl tt_99 rfl (by decide) (w_lBundle z σ13 ((sx_at σ 70 200 (a1))) (q1) _ (sx_R ..) r5 w) (fun u21 σ17 hq19 => ?_)
  obtain ⟨q16, rfl, r20, hF18, w⟩ := hq19
  have w := w r20 hF18
  refine wk_call tt_56 rfl rfl rfl rfl rfl tt_125 rfl (by decide) (w_mPush z σ17 (q16) _ r20 w) (fun u27 σ23 hq25 => ?_)
  obtain ⟨rfl, hF24, w⟩ := hq25
  have w := w hF24
  exact wk_rV tt_56 rfl rfl ⟨rfl, (sg_F_t (sg_F_t (sg_F_t (sg_F_t (sg_F_t (sg_F_r [62, 64, 79, 80, 81, 82, 8061, 11077, 23061, 24061] σ) (sg_F_m (L := [62, 64, 79, 80, 81, 82, 8061, 11077, 23061, 24061]) hF3 rfl)) (sg_F_m (L := [62, 64, 79, 80, 81, 82, 8061, 11077, 23061, 24061]) hF9 rfl)) (sg_F_m (L := [62, 64, 79, 80, 81, 82, 8061, 11077, 23061, 24061]) hF15 rfl)) (sg_F_m (L := [62, 64, 79, 80, 81, 82, 8061, 11077, 23061, 24061]) hF18 rfl)) (sg_F_m (L := [62, 64, 79, 80, 81, 82, 8061, 11077, 23061, 24061]) hF24 rfl)), w⟩
-- NestedVectors.dividesByZero
def v_xDividesByZero  (a0 : Int) (a1 : Int) : Int := (if ¬ a1 = 0 then (0 : Int) else (if a0 = 47 then (1 : Int) else (if ¬ a0 = 37 then (0 : Int) else (1 : Int))))
theorem vz_xDividesByZero  {a0 : Int} {a1 : Int} : v_xDividesByZero a0 a1 = 0 ∨ v_xDividesByZero a0 a1 = 1 := by
  unfold v_xDividesByZero
  by_cases h : ¬ a1 = 0
  · rw [if_pos h]
    exact Or.inl rfl
  · rw [if_neg h]
    by_cases h : a0 = 47
    · rw [if_pos h]
      exact Or.inr rfl
    · rw [if_neg h]
      by_cases h : ¬ a0 = 37
      · rw [if_pos h]
        exact Or.inl rfl
      · rw [if_neg h]
        exact Or.inr rfl
set_option maxHeartbeats 4000000 in
set_option maxRecDepth 8000 in
theorem w_xDividesByZero (z : Value) (σ : sg_S) (a0 : Int) (a1 : Int) (ra0 : sg_R a0) (ra1 : sg_R a1) : wx z 0 12 0 [(0, .inl (a0)), (1, .inl (a1))] [] σ (fun v σ' => v = some (.inl (v_xDividesByZero a0 a1)) ∧ σ' = σ) := by
  refine wk_b tt_12 1 (pc' := 1) (ls' := [(0, .inl (a0)), (1, .inl (a1))]) (st' := [.inl (a1)]) (σ' := σ) rfl ?_
  refine wk_if tt_12 (tgt := 20) rfl rfl ra1 (fun (h1 : ¬ a1 = 0) => ?_) (fun (h1 : a1 = 0) => ?_)
  ·
    refine wk_b tt_12 1 (pc' := 21) (ls' := [(0, .inl (a0)), (1, .inl (a1))]) (st' := [.inl (0)]) (σ' := σ) rfl ?_
    exact wk_rZ tt_12 rfl rfl (by decide) ⟨by rw [v_xDividesByZero, if_pos h1], rfl⟩
  ·
    refine wk_b tt_12 2 (pc' := 7) (ls' := [(0, .inl (a0)), (1, .inl (a1))]) (st' := [.inl (47), .inl (a0)]) (σ' := σ) rfl ?_
    refine wk_if2 tt_12 (tgt := 16) rfl rfl ra0 (by decide) (fun (h2 : a0 = 47) => ?_) (fun (h2 : ¬ a0 = 47) => ?_)
    ·
      refine wk_b tt_12 2 (pc' := 21) (ls' := [(0, .inl (a0)), (1, .inl (a1))]) (st' := [.inl (1)]) (σ' := σ) rfl ?_
      exact wk_rZ tt_12 rfl rfl (by decide) ⟨by rw [v_xDividesByZero, if_neg (show ¬ (¬ a1 = 0) by omega), if_pos h2], rfl⟩
    ·
      refine wk_b tt_12 2 (pc' := 13) (ls' := [(0, .inl (a0)), (1, .inl (a1))]) (st' := [.inl (37), .inl (a0)]) (σ' := σ) rfl ?_
      refine wk_if2 tt_12 (tgt := 20) rfl rfl ra0 (by decide) (fun (h3 : ¬ a0 = 37) => ?_) (fun (h3 : a0 = 37) => ?_)
      ·
        refine wk_b tt_12 1 (pc' := 21) (ls' := [(0, .inl (a0)), (1, .inl (a1))]) (st' := [.inl (0)]) (σ' := σ) rfl ?_
        exact wk_rZ tt_12 rfl rfl (by decide) ⟨by rw [v_xDividesByZero, if_neg (show ¬ (¬ a1 = 0) by omega), if_neg (show ¬ (a0 = 47) by omega), if_pos h3], rfl⟩
      ·
        refine wk_b tt_12 2 (pc' := 21) (ls' := [(0, .inl (a0)), (1, .inl (a1))]) (st' := [.inl (1)]) (σ' := σ) rfl ?_
        exact wk_rZ tt_12 rfl rfl (by decide) ⟨by rw [v_xDividesByZero, if_neg (show ¬ (¬ a1 = 0) by omega), if_neg (show ¬ (a0 = 47) by omega), if_neg (show ¬ (¬ a0 = 37) by omega)], rfl⟩
-- NestedVectors.compute
def V_xCompute_37 (σ : sg_S) (b1 : Int) (b2 : Int) (Q : Int → sg_S → Prop) : Prop := ((¬ b2 = 0 → (¬ b2 = 0) ∧ Q (((sg_i (b1) - sg_i (b1) / sg_i (b2) * sg_i (b2)).toInt)) σ) ∧ (b2 = 0 → Q (0) σ))
set_option maxHeartbeats 4000000 in
set_option maxRecDepth 8000 in
theorem w_xCompute_37 (z : Value) (σ : sg_S) (b1 : Int) (b2 : Int) (Q : Int → sg_S → Prop) (rb1 : sg_R b1) (rb2 : sg_R b2) (w : V_xCompute_37 σ b1 b2 Q) : wx z 0 10 162 [(1, .inl (b1)), (2, .inl (b2))] [] σ (fun v σ' => ∃ q, v = some (.inl q) ∧ sg_R q ∧ σ = σ' ∧ Q q σ') := by
  unfold V_xCompute_37 at w
  refine wk_b tt_10 1 (pc' := 163) (ls' := [(1, .inl (b1)), (2, .inl (b2))]) (st' := [.inl (b2)]) (σ' := σ) rfl ?_
  refine wk_if tt_10 (tgt := 170) rfl rfl rb2 (fun (h1 : ¬ b2 = 0) => ?_) (fun (h1 : b2 = 0) => ?_)
  ·
    have w := w.1 h1
    refine wk_b tt_10 2 (pc' := 172) (ls' := [(1, .inl (b1)), (2, .inl (b2))]) (st' := [.inl (b2), .inl (b1)]) (σ' := σ) rfl ?_
    obtain ⟨c2, w⟩ := w
    refine wk_rem tt_10 rfl (by rw [sg_id rb2]; exact c2) ?_
    exact wk_rI tt_10 rfl rfl ⟨_, rfl, (sg_Rr _), rfl, w⟩
  ·
    have w := w.2 h1
    refine wk_b tt_10 2 (pc' := 173) (ls' := [(1, .inl (b1)), (2, .inl (b2))]) (st' := [.inl (0)]) (σ' := σ) rfl ?_
    exact wk_rI tt_10 rfl rfl ⟨_, rfl, (by decide), rfl, w⟩
-- NestedVectors.compute
def V_xCompute_42 (σ : sg_S) (b1 : Int) (b2 : Int) (Q : Int → sg_S → Prop) : Prop := Q ((sg_n (b1 * b2))) σ
set_option maxHeartbeats 4000000 in
set_option maxRecDepth 8000 in
theorem w_xCompute_42 (z : Value) (σ : sg_S) (b1 : Int) (b2 : Int) (Q : Int → sg_S → Prop) (rb1 : sg_R b1) (rb2 : sg_R b2) (w : V_xCompute_42 σ b1 b2 Q) : wx z 0 10 146 [(1, .inl (b1)), (2, .inl (b2))] [] σ (fun v σ' => ∃ q, v = some (.inl q) ∧ sg_R q ∧ σ = σ' ∧ Q q σ') := by
  unfold V_xCompute_42 at w
  refine wk_b tt_10 3 (pc' := 149) (ls' := [(1, .inl (b1)), (2, .inl (b2))]) (st' := [.inl ((b1 * b2))]) (σ' := σ) rfl ?_
  refine wk_n ?_
  exact wk_rI tt_10 rfl rfl ⟨_, rfl, (sg_Rn _), rfl, w⟩
-- NestedVectors.compute
def V_xCompute_43 (σ : sg_S) (b1 : Int) (b2 : Int) (Q : Int → sg_S → Prop) : Prop := Q ((sg_n (b1 + b2))) σ
set_option maxHeartbeats 4000000 in
set_option maxRecDepth 8000 in
theorem w_xCompute_43 (z : Value) (σ : sg_S) (b1 : Int) (b2 : Int) (Q : Int → sg_S → Prop) (rb1 : sg_R b1) (rb2 : sg_R b2) (w : V_xCompute_43 σ b1 b2 Q) : wx z 0 10 138 [(1, .inl (b1)), (2, .inl (b2))] [] σ (fun v σ' => ∃ q, v = some (.inl q) ∧ sg_R q ∧ σ = σ' ∧ Q q σ') := by
  unfold V_xCompute_43 at w
  refine wk_b tt_10 3 (pc' := 141) (ls' := [(1, .inl (b1)), (2, .inl (b2))]) (st' := [.inl ((b1 + b2))]) (σ' := σ) rfl ?_
  refine wk_n ?_
  exact wk_rI tt_10 rfl rfl ⟨_, rfl, (sg_Rn _), rfl, w⟩
-- NestedVectors.compute
def V_xCompute_45 (σ : sg_S) (b1 : Int) (b2 : Int) (Q : Int → sg_S → Prop) : Prop := Q ((sg_n (b1 - b2))) σ
set_option maxHeartbeats 4000000 in
set_option maxRecDepth 8000 in
theorem w_xCompute_45 (z : Value) (σ : sg_S) (b1 : Int) (b2 : Int) (Q : Int → sg_S → Prop) (rb1 : sg_R b1) (rb2 : sg_R b2) (w : V_xCompute_45 σ b1 b2 Q) : wx z 0 10 142 [(1, .inl (b1)), (2, .inl (b2))] [] σ (fun v σ' => ∃ q, v = some (.inl q) ∧ sg_R q ∧ σ = σ' ∧ Q q σ') := by
  unfold V_xCompute_45 at w
  refine wk_b tt_10 3 (pc' := 145) (ls' := [(1, .inl (b1)), (2, .inl (b2))]) (st' := [.inl ((b1 - b2))]) (σ' := σ) rfl ?_
  refine wk_n ?_
  exact wk_rI tt_10 rfl rfl ⟨_, rfl, (sg_Rn _), rfl, w⟩
-- NestedVectors.compute
def V_xCompute_47 (σ : sg_S) (b1 : Int) (b2 : Int) (Q : Int → sg_S → Prop) : Prop := ((¬ b2 = 0 → (¬ b2 = 0) ∧ Q (((sg_i (b1) / sg_i (b2)).toInt)) σ) ∧ (b2 = 0 → Q (0) σ))
set_option maxHeartbeats 4000000 in
set_option maxRecDepth 8000 in
theorem w_xCompute_47 (z : Value) (σ : sg_S) (b1 : Int) (b2 : Int) (Q : Int → sg_S → Prop) (rb1 : sg_R b1) (rb2 : sg_R b2) (w : V_xCompute_47 σ b1 b2 Q) : wx z 0 10 150 [(1, .inl (b1)), (2, .inl (b2))] [] σ (fun v σ' => ∃ q, v = some (.inl q) ∧ sg_R q ∧ σ = σ' ∧ Q q σ') := by
  unfold V_xCompute_47 at w
  refine wk_b tt_10 1 (pc' := 151) (ls' := [(1, .inl (b1)), (2, .inl (b2))]) (st' := [.inl (b2)]) (σ' := σ) rfl ?_
  refine wk_if tt_10 (tgt := 158) rfl rfl rb2 (fun (h1 : ¬ b2 = 0) => ?_) (fun (h1 : b2 = 0) => ?_)
  ·
    have w := w.1 h1
    refine wk_b tt_10 2 (pc' := 160) (ls' := [(1, .inl (b1)), (2, .inl (b2))]) (st' := [.inl (b2), .inl (b1)]) (σ' := σ) rfl ?_
    obtain ⟨c2, w⟩ := w
    refine wk_div tt_10 rfl (by rw [sg_id rb2]; exact c2) ?_
    exact wk_rI tt_10 rfl rfl ⟨_, rfl, (sg_Rr _), rfl, w⟩
  ·
    have w := w.2 h1
    refine wk_b tt_10 2 (pc' := 161) (ls' := [(1, .inl (b1)), (2, .inl (b2))]) (st' := [.inl (0)]) (σ' := σ) rfl ?_
    exact wk_rI tt_10 rfl rfl ⟨_, rfl, (by decide), rfl, w⟩
-- NestedVectors.compute
def V_xCompute_60 (σ : sg_S) (b1 : Int) (b2 : Int) (Q : Int → sg_S → Prop) : Prop := ((b2 ≤ b1 → Q (0) σ) ∧ (b1 < b2 → Q (1) σ))
set_option maxHeartbeats 4000000 in
set_option maxRecDepth 8000 in
theorem w_xCompute_60 (z : Value) (σ : sg_S) (b1 : Int) (b2 : Int) (Q : Int → sg_S → Prop) (rb1 : sg_R b1) (rb2 : sg_R b2) (w : V_xCompute_60 σ b1 b2 Q) : wx z 0 10 116 [(1, .inl (b1)), (2, .inl (b2))] [] σ (fun v σ' => ∃ q, v = some (.inl q) ∧ sg_R q ∧ σ = σ' ∧ Q q σ') := by
  unfold V_xCompute_60 at w
  refine wk_b tt_10 2 (pc' := 118) (ls' := [(1, .inl (b1)), (2, .inl (b2))]) (st' := [.inl (b2), .inl (b1)]) (σ' := σ) rfl ?_
  refine wk_if2 tt_10 (tgt := 125) rfl rfl rb1 rb2 (fun (h1 : b2 ≤ b1) => ?_) (fun (h1 : b1 < b2) => ?_)
  ·
    have w := w.1 h1
    refine wk_b tt_10 1 (pc' := 126) (ls' := [(1, .inl (b1)), (2, .inl (b2))]) (st' := [.inl (0)]) (σ' := σ) rfl ?_
    exact wk_rI tt_10 rfl rfl ⟨_, rfl, (by decide), rfl, w⟩
  ·
    have w := w.2 h1
    refine wk_b tt_10 2 (pc' := 126) (ls' := [(1, .inl (b1)), (2, .inl (b2))]) (st' := [.inl (1)]) (σ' := σ) rfl ?_
    exact wk_rI tt_10 rfl rfl ⟨_, rfl, (by decide), rfl, w⟩
-- NestedVectors.compute
def V_xCompute_61 (σ : sg_S) (b1 : Int) (b2 : Int) (Q : Int → sg_S → Prop) : Prop := ((¬ b1 = b2 → Q (0) σ) ∧ (b1 = b2 → Q (1) σ))
set_option maxHeartbeats 4000000 in
set_option maxRecDepth 8000 in
theorem w_xCompute_61 (z : Value) (σ : sg_S) (b1 : Int) (b2 : Int) (Q : Int → sg_S → Prop) (rb1 : sg_R b1) (rb2 : sg_R b2) (w : V_xCompute_61 σ b1 b2 Q) : wx z 0 10 127 [(1, .inl (b1)), (2, .inl (b2))] [] σ (fun v σ' => ∃ q, v = some (.inl q) ∧ sg_R q ∧ σ = σ' ∧ Q q σ') := by
  unfold V_xCompute_61 at w
  refine wk_b tt_10 2 (pc' := 129) (ls' := [(1, .inl (b1)), (2, .inl (b2))]) (st' := [.inl (b2), .inl (b1)]) (σ' := σ) rfl ?_
  refine wk_if2 tt_10 (tgt := 136) rfl rfl rb1 rb2 (fun (h1 : ¬ b1 = b2) => ?_) (fun (h1 : b1 = b2) => ?_)
  ·
    have w := w.1 h1
    refine wk_b tt_10 1 (pc' := 137) (ls' := [(1, .inl (b1)), (2, .inl (b2))]) (st' := [.inl (0)]) (σ' := σ) rfl ?_
    exact wk_rI tt_10 rfl rfl ⟨_, rfl, (by decide), rfl, w⟩
  ·
    have w := w.2 h1
    refine wk_b tt_10 2 (pc' := 137) (ls' := [(1, .inl (b1)), (2, .inl (b2))]) (st' := [.inl (1)]) (σ' := σ) rfl ?_
    exact wk_rI tt_10 rfl rfl ⟨_, rfl, (by decide), rfl, w⟩
-- NestedVectors.compute
def V_xCompute_d (σ : sg_S) (Q : Int → sg_S → Prop) : Prop := Q (0) σ
set_option maxHeartbeats 4000000 in
set_option maxRecDepth 8000 in
theorem w_xCompute_d (z : Value) (σ : sg_S) (Q : Int → sg_S → Prop)  (w : V_xCompute_d σ  Q) : wx z 0 10 174 [] [] σ (fun v σ' => ∃ q, v = some (.inl q) ∧ sg_R q ∧ σ = σ' ∧ Q q σ') := by
  unfold V_xCompute_d at w
  refine wk_b tt_10 1 (pc' := 175) (ls' := []) (st' := [.inl (0)]) (σ' := σ) rfl ?_
  exact wk_rI tt_10 rfl rfl ⟨_, rfl, (by decide), rfl, w⟩
-- NestedVectors.compute
def V_xCompute (σ : sg_S) (a0 : Int) (a1 : Int) (a2 : Int) (Q : Int → sg_S → Prop) : Prop := ((a0 = 37 → V_xCompute_37 σ (a1) (a2) Q) ∧ (¬ a0 = 37 → ((a0 = 42 → V_xCompute_42 σ (a1) (a2) Q) ∧ (¬ a0 = 42 → ((a0 = 43 → V_xCompute_43 σ (a1) (a2) Q) ∧ (¬ a0 = 43 → ((a0 = 45 → V_xCompute_45 σ (a1) (a2) Q) ∧ (¬ a0 = 45 → ((a0 = 47 → V_xCompute_47 σ (a1) (a2) Q) ∧ (¬ a0 = 47 → ((a0 = 60 → V_xCompute_60 σ (a1) (a2) Q) ∧ (¬ a0 = 60 → ((a0 = 61 → V_xCompute_61 σ (a1) (a2) Q) ∧ (¬ a0 = 61 → V_xCompute_d σ  Q))))))))))))))
set_option maxHeartbeats 4000000 in
set_option maxRecDepth 8000 in
theorem w_xCompute (z : Value) (σ : sg_S) (a0 : Int) (a1 : Int) (a2 : Int) (Q : Int → sg_S → Prop) (ra0 : sg_R a0) (ra1 : sg_R a1) (ra2 : sg_R a2) (w : V_xCompute σ a0 a1 a2 Q) : wx z 0 10 0 [(0, .inl (a0)), (1, .inl (a1)), (2, .inl (a2))] [] σ (fun v σ' => ∃ q, v = some (.inl q) ∧ sg_R q ∧ σ = σ' ∧ Q q σ') := by
  unfold V_xCompute at w
  refine wk_b tt_10 1 (pc' := 1) (ls' := [(0, .inl (a0)), (1, .inl (a1)), (2, .inl (a2))]) (st' := [.inl (a0)]) (σ' := σ) rfl ?_
  by_cases e1 : a0 = 37
  · have w := w.1 e1
    refine wk_ts tt_10 (off := 161) (tgt := 162) rfl ra0 (by rw [e1]; decide) rfl ?_
    refine wk_ls [(1, .inl (a1)), (2, .inl (a2))] rfl ⟨rfl, rfl, trivial⟩ ?_
    exact wk_post (wk_d (by decide) (w_xCompute_37 z σ (a1) (a2) Q ra1 ra2 w)) (fun v σ' ⟨q, e, r, hF, hQ⟩ => ⟨q, e, r, hF, hQ⟩)
  have w := w.2 e1
  by_cases e3 : a0 = 42
  · have w := w.1 e3
    refine wk_ts tt_10 (off := 145) (tgt := 146) rfl ra0 (by rw [e3]; decide) rfl ?_
    refine wk_ls [(1, .inl (a1)), (2, .inl (a2))] rfl ⟨rfl, rfl, trivial⟩ ?_
    exact wk_post (wk_d (by decide) (w_xCompute_42 z σ (a1) (a2) Q ra1 ra2 w)) (fun v σ' ⟨q, e, r, hF, hQ⟩ => ⟨q, e, r, hF, hQ⟩)
  have w := w.2 e3
  by_cases e5 : a0 = 43
  · have w := w.1 e5
    refine wk_ts tt_10 (off := 137) (tgt := 138) rfl ra0 (by rw [e5]; decide) rfl ?_
    refine wk_ls [(1, .inl (a1)), (2, .inl (a2))] rfl ⟨rfl, rfl, trivial⟩ ?_
    exact wk_post (wk_d (by decide) (w_xCompute_43 z σ (a1) (a2) Q ra1 ra2 w)) (fun v σ' ⟨q, e, r, hF, hQ⟩ => ⟨q, e, r, hF, hQ⟩)
  have w := w.2 e5
  by_cases e7 : a0 = 45
  · have w := w.1 e7
    refine wk_ts tt_10 (off := 141) (tgt := 142) rfl ra0 (by rw [e7]; decide) rfl ?_
    refine wk_ls [(1, .inl (a1)), (2, .inl (a2))] rfl ⟨rfl, rfl, trivial⟩ ?_
    exact wk_post (wk_d (by decide) (w_xCompute_45 z σ (a1) (a2) Q ra1 ra2 w)) (fun v σ' ⟨q, e, r, hF, hQ⟩ => ⟨q, e, r, hF, hQ⟩)
  have w := w.2 e7
  by_cases e9 : a0 = 47
  · have w := w.1 e9
    refine wk_ts tt_10 (off := 149) (tgt := 150) rfl ra0 (by rw [e9]; decide) rfl ?_
    refine wk_ls [(1, .inl (a1)), (2, .inl (a2))] rfl ⟨rfl, rfl, trivial⟩ ?_
    exact wk_post (wk_d (by decide) (w_xCompute_47 z σ (a1) (a2) Q ra1 ra2 w)) (fun v σ' ⟨q, e, r, hF, hQ⟩ => ⟨q, e, r, hF, hQ⟩)
  have w := w.2 e9
  by_cases e11 : a0 = 60
  · have w := w.1 e11
    refine wk_ts tt_10 (off := 115) (tgt := 116) rfl ra0 (by rw [e11]; decide) rfl ?_
    refine wk_ls [(1, .inl (a1)), (2, .inl (a2))] rfl ⟨rfl, rfl, trivial⟩ ?_
    exact wk_post (wk_d (by decide) (w_xCompute_60 z σ (a1) (a2) Q ra1 ra2 w)) (fun v σ' ⟨q, e, r, hF, hQ⟩ => ⟨q, e, r, hF, hQ⟩)
  have w := w.2 e11
  by_cases e13 : a0 = 61
  · have w := w.1 e13
    refine wk_ts tt_10 (off := 126) (tgt := 127) rfl ra0 (by rw [e13]; decide) rfl ?_
    refine wk_ls [(1, .inl (a1)), (2, .inl (a2))] rfl ⟨rfl, rfl, trivial⟩ ?_
    exact wk_post (wk_d (by decide) (w_xCompute_61 z σ (a1) (a2) Q ra1 ra2 w)) (fun v σ' ⟨q, e, r, hF, hQ⟩ => ⟨q, e, r, hF, hQ⟩)
  have w := w.2 e13
  refine wk_ts tt_10 (off := 173) (tgt := 174) rfl ra0 (by rcases sw_lo (a0) 37 with h | h; (unfold bm_swt; rw [if_pos (Or.inl h)]); by_cases g38 : a0 = 38; (rw [g38]; decide); by_cases g39 : a0 = 39; (rw [g39]; decide); by_cases g40 : a0 = 40; (rw [g40]; decide); by_cases g41 : a0 = 41; (rw [g41]; decide); by_cases g44 : a0 = 44; (rw [g44]; decide); by_cases g46 : a0 = 46; (rw [g46]; decide); by_cases g48 : a0 = 48; (rw [g48]; decide); by_cases g49 : a0 = 49; (rw [g49]; decide); by_cases g50 : a0 = 50; (rw [g50]; decide); by_cases g51 : a0 = 51; (rw [g51]; decide); by_cases g52 : a0 = 52; (rw [g52]; decide); by_cases g53 : a0 = 53; (rw [g53]; decide); by_cases g54 : a0 = 54; (rw [g54]; decide); by_cases g55 : a0 = 55; (rw [g55]; decide); by_cases g56 : a0 = 56; (rw [g56]; decide); by_cases g57 : a0 = 57; (rw [g57]; decide); by_cases g58 : a0 = 58; (rw [g58]; decide); by_cases g59 : a0 = 59; (rw [g59]; decide); (unfold bm_swt; rw [if_pos (Or.inr (Int.lt_of_add_one_le (sw_st (k := 61) (sw_st (k := 60) (sw_st (k := 59) (sw_st (k := 58) (sw_st (k := 57) (sw_st (k := 56) (sw_st (k := 55) (sw_st (k := 54) (sw_st (k := 53) (sw_st (k := 52) (sw_st (k := 51) (sw_st (k := 50) (sw_st (k := 49) (sw_st (k := 48) (sw_st (k := 47) (sw_st (k := 46) (sw_st (k := 45) (sw_st (k := 44) (sw_st (k := 43) (sw_st (k := 42) (sw_st (k := 41) (sw_st (k := 40) (sw_st (k := 39) (sw_st (k := 38) (sw_st (k := 37) h e1) g38) g39) g40) g41) e3) e5) g44) e7) g46) e9) g48) g49) g50) g51) g52) g53) g54) g55) g56) g57) g58) g59) e11) e13)))])) rfl ?_
  refine wk_ls [] rfl trivial ?_
  exact wk_post (wk_d (by decide) (w_xCompute_d z σ  Q  w)) (fun v σ' ⟨q, e, r, hF, hQ⟩ => ⟨q, e, r, hF, hQ⟩)
-- NestedVectors$FlatRun.combine
def V_fCombine (σ : sg_S) (a1 : Int) (a2 : Int) (a3 : Int) (Q : sg_S → Prop) : Prop := (∃ (I4 : Nat → Int → sg_S → Prop) (X6 : sg_S → Prop), (∃ n, I4 n (0) σ) ∧ (∀ (n14 : Nat) (v1 : Int) (σ2 : sg_S), sg_R v1 → sg_F [83, 12077, 15077, 16077] σ σ2 → I4 n14 v1 σ2 → (((sg_g σ 61 23) ≤ v1 → X6 σ2) ∧ (v1 < (sg_g σ 61 23) → p_lCell σ (a3) (v1) ∧ (∃ P27 : sg_S → Prop, (((v_xDividesByZero (a1) ((v_lCell σ (a3) (v1)))) = 0 → P27 σ2) ∧ (¬ (v_xDividesByZero (a1) ((v_lCell σ (a3) (v1)))) = 0 → V_lMiss σ2 (1) (fun σ48 => sg_F [15077] σ2 σ48 → P27 σ48))) ∧ (∀ (σ28 : sg_S), sg_F [15077] σ2 σ28 → P27 σ28 → p_lCell σ (a2) (v1) ∧ V_xCompute σ28 (a1) ((v_lCell σ (a2) (v1))) ((v_lCell σ (a3) (v1))) (fun q33 _ => sg_R q33 → V_lFirst σ28 (q33) (fun σ40 => sg_F [83, 12077, 16077] σ28 σ40 → sg_R (v1 + 1) ∧ (∃ m, m < n14 ∧ I4 m ((v1 + 1)) σ40)))))))) ∧ (∀ (σ2 : sg_S), sg_F [83, 12077, 15077, 16077] σ σ2 → X6 σ2 → V_fGive σ2 (1) (fun σ17 => sg_F [64, 78, 79, 80, 81, 82, 85, 86, 87, 8061, 11061, 11077, 12077, 13077, 14077, 15077, 16077, 17077, 18077, 19077] σ2 σ17 → Q σ17)))
set_option maxHeartbeats 4000000 in
set_option maxRecDepth 8000 in
theorem w_fCombine (z : Value) (σ : sg_S) (a1 : Int) (a2 : Int) (a3 : Int) (Q : sg_S → Prop) (ra1 : sg_R a1) (ra2 : sg_R a2) (ra3 : sg_R a3) (w : V_fCombine σ a1 a2 a3 Q) : wx z 4 57 0 [(0, .inr (.inr (.ref 61))), (1, .inl (a1)), (2, .inl (a2)), (3, .inl (a3))] [] σ (fun v σ' => v = none ∧ sg_F [64, 78, 79, 80, 81, 82, 83, 85, 86, 87, 8061, 11061, 11077, 12077, 13077, 14077, 15077, 16077, 17077, 18077, 19077] σ σ' ∧ Q σ') := by
  unfold V_fCombine at w
  refine wk_b tt_57 2 (pc' := 3) (ls' := [(4, .inl (0)), (0, .inr (.inr (.ref 61))), (1, .inl (a1)), (2, .inl (a2)), (3, .inl (a3))]) (st' := []) (σ' := σ) rfl ?_
  obtain ⟨I4, X6, ⟨μ5, w11⟩, w12, w13⟩ := w
  have ex15 : ∀ (σ2 : sg_S), sg_F [83, 12077, 15077, 16077] σ σ2 → X6 σ2 → wx z 4 57 70 [(0, .inr (.inr (.ref 61)))] [] σ2 (fun v σ' => v = none ∧ sg_F [64, 78, 79, 80, 81, 82, 83, 85, 86, 87, 8061, 11061, 11077, 12077, 13077, 14077, 15077, 16077, 17077, 18077, 19077] σ σ' ∧ Q σ') := by
    intro σ2 hF3 w
    have w := w13 σ2 hF3 w
    refine wk_b tt_57 2 (pc' := 72) (ls' := [(0, .inr (.inr (.ref 61)))]) (st' := [.inl (1), .inr (.inr (.ref 61))]) (σ' := σ2) rfl ?_
    refine wk_call tt_57 rfl rfl rfl rfl rfl tt_65 rfl (by decide) (w_fGive z σ2 (1) _ (by decide) w) (fun u21 σ17 hq19 => ?_)
    obtain ⟨rfl, hF18, w⟩ := hq19
    have w := w hF18
    exact wk_rV tt_57 rfl rfl ⟨rfl, (sg_F_t (sg_F_t (sg_F_r [64, 78, 79, 80, 81, 82, 83, 85, 86, 87, 8061, 11061, 11077, 12077, 13077, 14077, 15077, 16077, 17077, 18077, 19077] σ) (sg_F_m (L := [64, 78, 79, 80, 81, 82, 83, 85, 86, 87, 8061, 11061, 11077, 12077, 13077, 14077, 15077, 16077, 17077, 18077, 19077]) hF3 rfl)) (sg_F_m (L := [64, 78, 79, 80, 81, 82, 83, 85, 86, 87, 8061, 11061, 11077, 12077, 13077, 14077, 15077, 16077, 17077, 18077, 19077]) hF18 rfl)), w⟩
  have lp10 : ∀ (n14 : Nat) (v1 : Int) (σ2 : sg_S), sg_R v1 → sg_F [83, 12077, 15077, 16077] σ σ2 → I4 n14 v1 σ2 → wx z 4 57 3 [(0, .inr (.inr (.ref 61))), (1, .inl (a1)), (2, .inl (a2)), (3, .inl (a3)), (4, .inl (v1))] [] σ2 (fun v σ' => v = none ∧ sg_F [64, 78, 79, 80, 81, 82, 83, 85, 86, 87, 8061, 11061, 11077, 12077, 13077, 14077, 15077, 16077, 17077, 18077, 19077] σ σ' ∧ Q σ') := by
    intro n14
    induction n14 using Nat.strongRecOn with
    | _ n14 ih8 =>
      intro v1 σ2 r7 hF3 w
      have w := w12 n14 v1 σ2 r7 hF3 w
      refine wk_b tt_57 3 (pc' := 9) (ls' := [(0, .inr (.inr (.ref 61))), (1, .inl (a1)), (2, .inl (a2)), (3, .inl (a3)), (4, .inl (v1))]) (st' := [.inl ((sg_g σ2 61 23)), .inl (v1)]) (σ' := σ2) rfl ?_
      rw [show (sg_g σ2 61 23) = (sg_g σ 61 23) from by rw [sg_F_ga hF3 rfl]]
      refine wk_if2 tt_57 (tgt := 70) rfl rfl r7 (sg_Rg _ _ _) (fun (h22 : (sg_g σ 61 23) ≤ v1) => ?_) (fun (h22 : v1 < (sg_g σ 61 23)) => ?_)
      ·
        have w := w.1 h22
        exact wk_ls [(0, .inr (.inr (.ref 61)))] rfl ⟨rfl, trivial⟩ (ex15  σ2  (sg_F_t (sg_F_r [83, 12077, 15077, 16077] σ) (sg_F_m (L := [83, 12077, 15077, 16077]) hF3 rfl)) w)
      ·
        have w := w.2 h22
        refine wk_b tt_57 4 (pc' := 19) (ls' := [(0, .inr (.inr (.ref 61))), (1, .inl (a1)), (2, .inl (a2)), (3, .inl (a3)), (4, .inl (v1))]) (st' := [.inl (v1), .inl (a3), .inr (.inr (.ref 77))]) (σ' := σ2) rfl ?_
        obtain ⟨c23, w⟩ := w
        have c23 : p_lCell σ2 (a3) (v1) := by
          rw [pF_lCell hF3 rfl rfl]; exact c23
        refine wk_callp tt_57 rfl rfl rfl rfl rfl tt_100 rfl (by decide) (w_lCell z σ2 (a3) (v1) ra3 r7 c23) ?_
        rw [vF_lCell hF3 rfl rfl]
        have r24 := vr_lCell σ  (a3) (v1) ra3 r7 (by have q := c23; rw [pF_lCell hF3 rfl rfl] at q; exact q)
        refine wk_b tt_57 3 (pc' := 27) (ls' := [(5, .inl ((v_lCell σ (a3) (v1)))), (0, .inr (.inr (.ref 61))), (1, .inl (a1)), (2, .inl (a2)), (3, .inl (a3)), (4, .inl (v1))]) (st' := [.inl ((v_lCell σ (a3) (v1))), .inl (a1)]) (σ' := σ2) rfl ?_
        refine wk_callp tt_57 rfl rfl rfl rfl rfl tt_12 rfl (by decide) (w_xDividesByZero z σ2 (a1) ((v_lCell σ (a3) (v1))) ra1 r24 ) ?_
        obtain ⟨P27, w, w30⟩ := w
        have jn26 : ∀ (σ28 : sg_S), sg_F [15077] σ2 σ28 → P27 σ28 → wx z 4 57 41 [(0, .inr (.inr (.ref 61))), (1, .inl (a1)), (2, .inl (a2)), (3, .inl (a3)), (4, .inl (v1)), (5, .inl ((v_lCell σ (a3) (v1))))] [] σ28 (fun v σ' => v = none ∧ sg_F [64, 78, 79, 80, 81, 82, 83, 85, 86, 87, 8061, 11061, 11077, 12077, 13077, 14077, 15077, 16077, 17077, 18077, 19077] σ σ' ∧ Q σ') := by
          intro σ28 hF29 w
          have w := w30 σ28 hF29 w
          refine wk_b tt_57 7 (pc' := 53) (ls' := [(0, .inr (.inr (.ref 61))), (1, .inl (a1)), (2, .inl (a2)), (3, .inl (a3)), (4, .inl (v1)), (5, .inl ((v_lCell σ (a3) (v1))))]) (st' := [.inl (v1), .inl (a2), .inr (.inr (.ref 77)), .inl (a1), .inr (.inr (.ref 77))]) (σ' := σ28) rfl ?_
          obtain ⟨c31, w⟩ := w
          have c31 : p_lCell σ28 (a2) (v1) := by
            rw [pF_lCell hF29 rfl rfl, pF_lCell hF3 rfl rfl]; exact c31
          refine wk_callp tt_57 rfl rfl rfl rfl rfl tt_100 rfl (by decide) (w_lCell z σ28 (a2) (v1) ra2 r7 c31) ?_
          rw [vF_lCell hF29 rfl rfl, vF_lCell hF3 rfl rfl]
          have r32 := vr_lCell σ  (a2) (v1) ra2 r7 (by have q := c31; rw [pF_lCell hF29 rfl rfl, pF_lCell hF3 rfl rfl] at q; exact q)
          refine wk_b tt_57 1 (pc' := 58) (ls' := [(0, .inr (.inr (.ref 61))), (1, .inl (a1)), (2, .inl (a2)), (3, .inl (a3)), (4, .inl (v1)), (5, .inl ((v_lCell σ (a3) (v1))))]) (st' := [.inl ((v_lCell σ (a3) (v1))), .inl ((v_lCell σ (a2) (v1))), .inl (a1), .inr (.inr (.ref 77))]) (σ' := σ28) rfl ?_
          refine wk_call tt_57 rfl rfl rfl rfl rfl tt_10 rfl (by decide) (w_xCompute z σ28 (a1) ((v_lCell σ (a2) (v1))) ((v_lCell σ (a3) (v1))) _ ra1 r32 r24 w) (fun u38 σ34 hq36 => ?_)
          obtain ⟨q33, rfl, r37, rfl, w⟩ := hq36
          have w := w r37
          refine wk_call tt_57 rfl rfl rfl rfl rfl tt_105 rfl (by decide) (w_lFirst z σ28 (q33) _ r37 w) (fun u44 σ40 hq42 => ?_)
          obtain ⟨rfl, hF41, w⟩ := hq42
          have w := w hF41
          obtain ⟨c45, w⟩ := w
          refine wk_b tt_57 2 (pc' := 3) (ls' := [(4, .inl ((v1 + 1))), (0, .inr (.inr (.ref 61))), (1, .inl (a1)), (2, .inl (a2)), (3, .inl (a3)), (5, .inl ((v_lCell σ (a3) (v1))))]) (st' := []) (σ' := σ40) rfl ?_
          obtain ⟨m46, hm46, w⟩ := w
          exact wk_ls [(0, .inr (.inr (.ref 61))), (1, .inl (a1)), (2, .inl (a2)), (3, .inl (a3)), (4, .inl ((v1 + 1)))] rfl ⟨rfl, rfl, rfl, rfl, rfl, trivial⟩ (ih8 m46 hm46 ((v1 + 1)) σ40 c45 (sg_F_t (sg_F_t (sg_F_t (sg_F_r [83, 12077, 15077, 16077] σ) (sg_F_m (L := [83, 12077, 15077, 16077]) hF3 rfl)) (sg_F_m (L := [83, 12077, 15077, 16077]) hF29 rfl)) (sg_F_m (L := [83, 12077, 15077, 16077]) hF41 rfl)) w)
        refine wk_if tt_57 (tgt := 41) rfl rfl (sg_Rz (vz_xDividesByZero ..)) (fun (h25 : (v_xDividesByZero (a1) ((v_lCell σ (a3) (v1)))) = 0) => ?_) (fun (h25 : ¬ (v_xDividesByZero (a1) ((v_lCell σ (a3) (v1)))) = 0) => ?_)
        ·
          have w := w.1 h25
          exact wk_ls [(0, .inr (.inr (.ref 61))), (1, .inl (a1)), (2, .inl (a2)), (3, .inl (a3)), (4, .inl (v1)), (5, .inl ((v_lCell σ (a3) (v1))))] rfl ⟨rfl, rfl, rfl, rfl, rfl, rfl, trivial⟩ (jn26 σ2 (sg_F_r [15077] σ2) w)
        ·
          have w := w.2 h25
          refine wk_b tt_57 3 (pc' := 38) (ls' := [(5, .inl ((v_lCell σ (a3) (v1)))), (0, .inr (.inr (.ref 61))), (1, .inl (a1)), (2, .inl (a2)), (3, .inl (a3)), (4, .inl (v1))]) (st' := [.inl (1), .inr (.inr (.ref 77))]) (σ' := σ2) rfl ?_
          refine wk_call tt_57 rfl rfl rfl rfl rfl tt_108 rfl (by decide) (w_lMiss z σ2 (1) _ (by decide) w) (fun u52 σ48 hq50 => ?_)
          obtain ⟨rfl, hF49, w⟩ := hq50
          have w := w hF49
          exact wk_ls [(0, .inr (.inr (.ref 61))), (1, .inl (a1)), (2, .inl (a2)), (3, .inl (a3)), (4, .inl (v1)), (5, .inl ((v_lCell σ (a3) (v1))))] rfl ⟨rfl, rfl, rfl, rfl, rfl, rfl, trivial⟩ (jn26 σ48 (sg_F_t (sg_F_r [15077] σ2) (sg_F_m (L := [15077]) hF49 rfl)) w)
  exact wk_ls [(0, .inr (.inr (.ref 61))), (1, .inl (a1)), (2, .inl (a2)), (3, .inl (a3)), (4, .inl (0))] rfl ⟨rfl, rfl, rfl, rfl, rfl, trivial⟩ (lp10 μ5 (0) σ (by decide) (sg_F_r _ _) w11)
-- NestedVectors$FlatRun.constant
def V_fConstant (σ : sg_S) (a1 : Int) (Q : sg_S → Prop) : Prop := (∃ (I4 : Nat → Int → sg_S → Prop) (X6 : sg_S → Prop), (∃ n, I4 n (0) σ) ∧ (∀ (n14 : Nat) (v1 : Int) (σ2 : sg_S), sg_R v1 → sg_F [83, 12077, 16077] σ σ2 → I4 n14 v1 σ2 → (((sg_g σ 61 23) ≤ v1 → X6 σ2) ∧ (v1 < (sg_g σ 61 23) → V_lFirst σ2 (a1) (fun σ24 => sg_F [83, 12077, 16077] σ2 σ24 → sg_R (v1 + 1) ∧ (∃ m, m < n14 ∧ I4 m ((v1 + 1)) σ24))))) ∧ (∀ (σ2 : sg_S), sg_F [83, 12077, 16077] σ σ2 → X6 σ2 → V_fGive σ2 (1) (fun σ17 => sg_F [64, 78, 79, 80, 81, 82, 85, 86, 87, 8061, 11061, 11077, 12077, 13077, 14077, 15077, 16077, 17077, 18077, 19077] σ2 σ17 → Q σ17)))
set_option maxHeartbeats 4000000 in
set_option maxRecDepth 8000 in
theorem w_fConstant (z : Value) (σ : sg_S) (a1 : Int) (Q : sg_S → Prop) (ra1 : sg_R a1) (w : V_fConstant σ a1 Q) : wx z 4 58 0 [(0, .inr (.inr (.ref 61))), (1, .inl (a1))] [] σ (fun v σ' => v = none ∧ sg_F [64, 78, 79, 80, 81, 82, 83, 85, 86, 87, 8061, 11061, 11077, 12077, 13077, 14077, 15077, 16077, 17077, 18077, 19077] σ σ' ∧ Q σ') := by
  unfold V_fConstant at w
  refine wk_b tt_58 2 (pc' := 2) (ls' := [(2, .inl (0)), (0, .inr (.inr (.ref 61))), (1, .inl (a1))]) (st' := []) (σ' := σ) rfl ?_
  obtain ⟨I4, X6, ⟨μ5, w11⟩, w12, w13⟩ := w
  have ex15 : ∀ (σ2 : sg_S), sg_F [83, 12077, 16077] σ σ2 → X6 σ2 → wx z 4 58 24 [(0, .inr (.inr (.ref 61)))] [] σ2 (fun v σ' => v = none ∧ sg_F [64, 78, 79, 80, 81, 82, 83, 85, 86, 87, 8061, 11061, 11077, 12077, 13077, 14077, 15077, 16077, 17077, 18077, 19077] σ σ' ∧ Q σ') := by
    intro σ2 hF3 w
    have w := w13 σ2 hF3 w
    refine wk_b tt_58 2 (pc' := 26) (ls' := [(0, .inr (.inr (.ref 61)))]) (st' := [.inl (1), .inr (.inr (.ref 61))]) (σ' := σ2) rfl ?_
    refine wk_call tt_58 rfl rfl rfl rfl rfl tt_65 rfl (by decide) (w_fGive z σ2 (1) _ (by decide) w) (fun u21 σ17 hq19 => ?_)
    obtain ⟨rfl, hF18, w⟩ := hq19
    have w := w hF18
    exact wk_rV tt_58 rfl rfl ⟨rfl, (sg_F_t (sg_F_t (sg_F_r [64, 78, 79, 80, 81, 82, 83, 85, 86, 87, 8061, 11061, 11077, 12077, 13077, 14077, 15077, 16077, 17077, 18077, 19077] σ) (sg_F_m (L := [64, 78, 79, 80, 81, 82, 83, 85, 86, 87, 8061, 11061, 11077, 12077, 13077, 14077, 15077, 16077, 17077, 18077, 19077]) hF3 rfl)) (sg_F_m (L := [64, 78, 79, 80, 81, 82, 83, 85, 86, 87, 8061, 11061, 11077, 12077, 13077, 14077, 15077, 16077, 17077, 18077, 19077]) hF18 rfl)), w⟩
  have lp10 : ∀ (n14 : Nat) (v1 : Int) (σ2 : sg_S), sg_R v1 → sg_F [83, 12077, 16077] σ σ2 → I4 n14 v1 σ2 → wx z 4 58 2 [(0, .inr (.inr (.ref 61))), (1, .inl (a1)), (2, .inl (v1))] [] σ2 (fun v σ' => v = none ∧ sg_F [64, 78, 79, 80, 81, 82, 83, 85, 86, 87, 8061, 11061, 11077, 12077, 13077, 14077, 15077, 16077, 17077, 18077, 19077] σ σ' ∧ Q σ') := by
    intro n14
    induction n14 using Nat.strongRecOn with
    | _ n14 ih8 =>
      intro v1 σ2 r7 hF3 w
      have w := w12 n14 v1 σ2 r7 hF3 w
      refine wk_b tt_58 3 (pc' := 7) (ls' := [(0, .inr (.inr (.ref 61))), (1, .inl (a1)), (2, .inl (v1))]) (st' := [.inl ((sg_g σ2 61 23)), .inl (v1)]) (σ' := σ2) rfl ?_
      rw [show (sg_g σ2 61 23) = (sg_g σ 61 23) from by rw [sg_F_ga hF3 rfl]]
      refine wk_if2 tt_58 (tgt := 24) rfl rfl r7 (sg_Rg _ _ _) (fun (h22 : (sg_g σ 61 23) ≤ v1) => ?_) (fun (h22 : v1 < (sg_g σ 61 23)) => ?_)
      ·
        have w := w.1 h22
        exact wk_ls [(0, .inr (.inr (.ref 61)))] rfl ⟨rfl, trivial⟩ (ex15  σ2  (sg_F_t (sg_F_r [83, 12077, 16077] σ) (sg_F_m (L := [83, 12077, 16077]) hF3 rfl)) w)
      ·
        have w := w.2 h22
        refine wk_b tt_58 3 (pc' := 15) (ls' := [(0, .inr (.inr (.ref 61))), (1, .inl (a1)), (2, .inl (v1))]) (st' := [.inl (a1), .inr (.inr (.ref 77))]) (σ' := σ2) rfl ?_
        refine wk_call tt_58 rfl rfl rfl rfl rfl tt_105 rfl (by decide) (w_lFirst z σ2 (a1) _ ra1 w) (fun u28 σ24 hq26 => ?_)
        obtain ⟨rfl, hF25, w⟩ := hq26
        have w := w hF25
        obtain ⟨c29, w⟩ := w
        refine wk_b tt_58 2 (pc' := 2) (ls' := [(2, .inl ((v1 + 1))), (0, .inr (.inr (.ref 61))), (1, .inl (a1))]) (st' := []) (σ' := σ24) rfl ?_
        obtain ⟨m30, hm30, w⟩ := w
        exact wk_ls [(0, .inr (.inr (.ref 61))), (1, .inl (a1)), (2, .inl ((v1 + 1)))] rfl ⟨rfl, rfl, rfl, trivial⟩ (ih8 m30 hm30 ((v1 + 1)) σ24 c29 (sg_F_t (sg_F_t (sg_F_r [83, 12077, 16077] σ) (sg_F_m (L := [83, 12077, 16077]) hF3 rfl)) (sg_F_m (L := [83, 12077, 16077]) hF25 rfl)) w)
  exact wk_ls [(0, .inr (.inr (.ref 61))), (1, .inl (a1)), (2, .inl (0))] rfl ⟨rfl, rfl, rfl, trivial⟩ (lp10 μ5 (0) σ (by decide) (sg_F_r _ _) w11)
-- NestedVectors$FlatRun.sizeIn
def V_fSizeIn (σ : sg_S) (a1 : Int) (a2 : Int) (Q : Int → sg_S → Prop) : Prop := p_lCell σ (a1) (a2) ∧ (((v_xBadSize ((v_lCell σ (a1) (a2)))) = 0 → Q ((v_lCell σ (a1) (a2))) σ) ∧ (¬ (v_xBadSize ((v_lCell σ (a1) (a2)))) = 0 → V_lMiss σ (5) (fun σ5 => sg_F [15077] σ σ5 → Q (0) σ5)))
set_option maxHeartbeats 4000000 in
set_option maxRecDepth 8000 in
theorem w_fSizeIn (z : Value) (σ : sg_S) (a1 : Int) (a2 : Int) (Q : Int → sg_S → Prop) (ra1 : sg_R a1) (ra2 : sg_R a2) (w : V_fSizeIn σ a1 a2 Q) : wx z 1 85 0 [(0, .inr (.inr (.ref 61))), (1, .inl (a1)), (2, .inl (a2))] [] σ (fun v σ' => ∃ q, v = some (.inl q) ∧ sg_R q ∧ sg_F [15077] σ σ' ∧ Q q σ') := by
  unfold V_fSizeIn at w
  refine wk_b tt_85 4 (pc' := 6) (ls' := [(0, .inr (.inr (.ref 61))), (1, .inl (a1)), (2, .inl (a2))]) (st' := [.inl (a2), .inl (a1), .inr (.inr (.ref 77))]) (σ' := σ) rfl ?_
  obtain ⟨c1, w⟩ := w
  refine wk_callp tt_85 rfl rfl rfl rfl rfl tt_100 rfl (by decide) (w_lCell z σ (a1) (a2) ra1 ra2 c1) ?_
  have r2 := vr_lCell σ  (a1) (a2) ra1 ra2 c1
  refine wk_b tt_85 2 (pc' := 11) (ls' := [(3, .inl ((v_lCell σ (a1) (a2)))), (0, .inr (.inr (.ref 61))), (1, .inl (a1)), (2, .inl (a2))]) (st' := [.inl ((v_lCell σ (a1) (a2)))]) (σ' := σ) rfl ?_
  refine wk_callp tt_85 rfl rfl rfl rfl rfl tt_7 rfl (by decide) (w_xBadSize z σ ((v_lCell σ (a1) (a2))) r2 ) ?_
  refine wk_if tt_85 (tgt := 27) rfl rfl (sg_Rz (vz_xBadSize ..)) (fun (h3 : (v_xBadSize ((v_lCell σ (a1) (a2)))) = 0) => ?_) (fun (h3 : ¬ (v_xBadSize ((v_lCell σ (a1) (a2)))) = 0) => ?_)
  ·
    have w := w.1 h3
    refine wk_b tt_85 1 (pc' := 28) (ls' := [(3, .inl ((v_lCell σ (a1) (a2)))), (0, .inr (.inr (.ref 61))), (1, .inl (a1)), (2, .inl (a2))]) (st' := [.inl ((v_lCell σ (a1) (a2)))]) (σ' := σ) rfl ?_
    exact wk_rI tt_85 rfl rfl ⟨_, rfl, r2, (sg_F_r [15077] σ), w⟩
  ·
    have w := w.2 h3
    refine wk_b tt_85 3 (pc' := 22) (ls' := [(3, .inl ((v_lCell σ (a1) (a2)))), (0, .inr (.inr (.ref 61))), (1, .inl (a1)), (2, .inl (a2))]) (st' := [.inl (5), .inr (.inr (.ref 77))]) (σ' := σ) rfl ?_
    refine wk_call tt_85 rfl rfl rfl rfl rfl tt_108 rfl (by decide) (w_lMiss z σ (5) _ (by decide) w) (fun u9 σ5 hq7 => ?_)
    obtain ⟨rfl, hF6, w⟩ := hq7
    have w := w hF6
    refine wk_b tt_85 1 (pc' := 26) (ls' := [(3, .inl ((v_lCell σ (a1) (a2)))), (0, .inr (.inr (.ref 61))), (1, .inl (a1)), (2, .inl (a2))]) (st' := [.inl (0)]) (σ' := σ5) rfl ?_
    exact wk_rI tt_85 rfl rfl ⟨_, rfl, (by decide), (sg_F_t (sg_F_r [15077] σ) (sg_F_m (L := [15077]) hF6 rfl)), w⟩
-- NestedVectors$FlatRun.countUp
def V_fCountUp (σ : sg_S) (a1 : Int) (Q : sg_S → Prop) : Prop := (∃ (I4 : Nat → Int → sg_S → Prop) (X6 : sg_S → Prop), (∃ n, I4 n (0) σ) ∧ (∀ (n14 : Nat) (v1 : Int) (σ2 : sg_S), sg_R v1 → sg_F [83, 84, 12077, 13077, 15077, 16077] σ σ2 → I4 n14 v1 σ2 → (((sg_g σ 61 23) ≤ v1 → X6 σ2) ∧ (v1 < (sg_g σ 61 23) → ((¬ (sg_g σ2 77 15) = 0 → X6 σ2) ∧ ((sg_g σ2 77 15) = 0 → V_fSizeIn σ2 (a1) (v1) (fun q24 σ25 => sg_R q24 → sg_F [15077] σ2 σ25 → V_lFirst σ25 (q24) (fun σ31 => sg_F [83, 12077, 16077] σ25 σ31 → (∃ (I39 : Nat → Int → sg_S → Prop) (X41 : sg_S → Prop), (∃ n, I39 n (0) σ31) ∧ (∀ (n49 : Nat) (v36 : Int) (σ37 : sg_S), sg_R v36 → sg_F [84, 13077, 16077] σ31 σ37 → I39 n49 v36 σ37 → ((q24 ≤ v36 → X41 σ37) ∧ (v36 < q24 → V_lSecond σ37 (v36) (fun σ55 => sg_F [84, 13077, 16077] σ37 σ55 → sg_R (v36 + 1) ∧ (∃ m, m < n49 ∧ I39 m ((v36 + 1)) σ55))))) ∧ (∀ (σ37 : sg_S), sg_F [84, 13077, 16077] σ31 σ37 → X41 σ37 → sg_R (v1 + 1) ∧ (∃ m, m < n14 ∧ I4 m ((v1 + 1)) σ37)))))))))) ∧ (∀ (σ2 : sg_S), sg_F [83, 84, 12077, 13077, 15077, 16077] σ σ2 → X6 σ2 → V_fGive σ2 (2) (fun σ17 => sg_F [64, 78, 79, 80, 81, 82, 85, 86, 87, 8061, 11061, 11077, 12077, 13077, 14077, 15077, 16077, 17077, 18077, 19077] σ2 σ17 → Q σ17)))
set_option maxHeartbeats 4000000 in
set_option maxRecDepth 8000 in
theorem w_fCountUp (z : Value) (σ : sg_S) (a1 : Int) (Q : sg_S → Prop) (ra1 : sg_R a1) (w : V_fCountUp σ a1 Q) : wx z 4 59 0 [(0, .inr (.inr (.ref 61))), (1, .inl (a1))] [] σ (fun v σ' => v = none ∧ sg_F [64, 78, 79, 80, 81, 82, 83, 84, 85, 86, 87, 8061, 11061, 11077, 12077, 13077, 14077, 15077, 16077, 17077, 18077, 19077] σ σ' ∧ Q σ') := by
  unfold V_fCountUp at w
  refine wk_b tt_59 2 (pc' := 2) (ls' := [(2, .inl (0)), (0, .inr (.inr (.ref 61))), (1, .inl (a1))]) (st' := []) (σ' := σ) rfl ?_
  obtain ⟨I4, X6, ⟨μ5, w11⟩, w12, w13⟩ := w
  have ex15 : ∀ (σ2 : sg_S), sg_F [83, 84, 12077, 13077, 15077, 16077] σ σ2 → X6 σ2 → wx z 4 59 65 [(0, .inr (.inr (.ref 61)))] [] σ2 (fun v σ' => v = none ∧ sg_F [64, 78, 79, 80, 81, 82, 83, 84, 85, 86, 87, 8061, 11061, 11077, 12077, 13077, 14077, 15077, 16077, 17077, 18077, 19077] σ σ' ∧ Q σ') := by
    intro σ2 hF3 w
    have w := w13 σ2 hF3 w
    refine wk_b tt_59 2 (pc' := 67) (ls' := [(0, .inr (.inr (.ref 61)))]) (st' := [.inl (2), .inr (.inr (.ref 61))]) (σ' := σ2) rfl ?_
    refine wk_call tt_59 rfl rfl rfl rfl rfl tt_65 rfl (by decide) (w_fGive z σ2 (2) _ (by decide) w) (fun u21 σ17 hq19 => ?_)
    obtain ⟨rfl, hF18, w⟩ := hq19
    have w := w hF18
    exact wk_rV tt_59 rfl rfl ⟨rfl, (sg_F_t (sg_F_t (sg_F_r [64, 78, 79, 80, 81, 82, 83, 84, 85, 86, 87, 8061, 11061, 11077, 12077, 13077, 14077, 15077, 16077, 17077, 18077, 19077] σ) (sg_F_m (L := [64, 78, 79, 80, 81, 82, 83, 84, 85, 86, 87, 8061, 11061, 11077, 12077, 13077, 14077, 15077, 16077, 17077, 18077, 19077]) hF3 rfl)) (sg_F_m (L := [64, 78, 79, 80, 81, 82, 83, 84, 85, 86, 87, 8061, 11061, 11077, 12077, 13077, 14077, 15077, 16077, 17077, 18077, 19077]) hF18 rfl)), w⟩
  have lp10 : ∀ (n14 : Nat) (v1 : Int) (σ2 : sg_S), sg_R v1 → sg_F [83, 84, 12077, 13077, 15077, 16077] σ σ2 → I4 n14 v1 σ2 → wx z 4 59 2 [(0, .inr (.inr (.ref 61))), (1, .inl (a1)), (2, .inl (v1))] [] σ2 (fun v σ' => v = none ∧ sg_F [64, 78, 79, 80, 81, 82, 83, 84, 85, 86, 87, 8061, 11061, 11077, 12077, 13077, 14077, 15077, 16077, 17077, 18077, 19077] σ σ' ∧ Q σ') := by
    intro n14
    induction n14 using Nat.strongRecOn with
    | _ n14 ih8 =>
      intro v1 σ2 r7 hF3 w
      have w := w12 n14 v1 σ2 r7 hF3 w
      refine wk_b tt_59 3 (pc' := 7) (ls' := [(0, .inr (.inr (.ref 61))), (1, .inl (a1)), (2, .inl (v1))]) (st' := [.inl ((sg_g σ2 61 23)), .inl (v1)]) (σ' := σ2) rfl ?_
      rw [show (sg_g σ2 61 23) = (sg_g σ 61 23) from by rw [sg_F_ga hF3 rfl]]
      refine wk_if2 tt_59 (tgt := 65) rfl rfl r7 (sg_Rg _ _ _) (fun (h22 : (sg_g σ 61 23) ≤ v1) => ?_) (fun (h22 : v1 < (sg_g σ 61 23)) => ?_)
      ·
        have w := w.1 h22
        exact wk_ls [(0, .inr (.inr (.ref 61)))] rfl ⟨rfl, trivial⟩ (ex15  σ2  (sg_F_t (sg_F_r [83, 84, 12077, 13077, 15077, 16077] σ) (sg_F_m (L := [83, 84, 12077, 13077, 15077, 16077]) hF3 rfl)) w)
      ·
        have w := w.2 h22
        refine wk_b tt_59 3 (pc' := 17) (ls' := [(0, .inr (.inr (.ref 61))), (1, .inl (a1)), (2, .inl (v1))]) (st' := [.inl ((sg_g σ2 77 15))]) (σ' := σ2) rfl ?_
        refine wk_if tt_59 (tgt := 65) rfl rfl (sg_Rg _ _ _) (fun (h23 : ¬ (sg_g σ2 77 15) = 0) => ?_) (fun (h23 : (sg_g σ2 77 15) = 0) => ?_)
        ·
          have w := w.1 h23
          exact wk_ls [(0, .inr (.inr (.ref 61)))] rfl ⟨rfl, trivial⟩ (ex15  σ2  (sg_F_t (sg_F_r [83, 84, 12077, 13077, 15077, 16077] σ) (sg_F_m (L := [83, 84, 12077, 13077, 15077, 16077]) hF3 rfl)) w)
        ·
          have w := w.2 h23
          refine wk_b tt_59 3 (pc' := 23) (ls' := [(0, .inr (.inr (.ref 61))), (1, .inl (a1)), (2, .inl (v1))]) (st' := [.inl (v1), .inl (a1), .inr (.inr (.ref 61))]) (σ' := σ2) rfl ?_
          refine wk_call tt_59 rfl rfl rfl rfl rfl tt_85 rfl (by decide) (w_fSizeIn z σ2 (a1) (v1) _ ra1 r7 w) (fun u29 σ25 hq27 => ?_)
          obtain ⟨q24, rfl, r28, hF26, w⟩ := hq27
          have w := w r28 hF26
          refine wk_b tt_59 4 (pc' := 32) (ls' := [(3, .inl (q24)), (0, .inr (.inr (.ref 61))), (1, .inl (a1)), (2, .inl (v1))]) (st' := [.inl (q24), .inr (.inr (.ref 77))]) (σ' := σ25) rfl ?_
          refine wk_call tt_59 rfl rfl rfl rfl rfl tt_105 rfl (by decide) (w_lFirst z σ25 (q24) _ r28 w) (fun u35 σ31 hq33 => ?_)
          obtain ⟨rfl, hF32, w⟩ := hq33
          have w := w hF32
          refine wk_b tt_59 2 (pc' := 38) (ls' := [(4, .inl (0)), (3, .inl (q24)), (0, .inr (.inr (.ref 61))), (1, .inl (a1)), (2, .inl (v1))]) (st' := []) (σ' := σ31) rfl ?_
          obtain ⟨I39, X41, ⟨μ40, w46⟩, w47, w48⟩ := w
          have ex50 : ∀ (σ37 : sg_S), sg_F [84, 13077, 16077] σ31 σ37 → X41 σ37 → wx z 4 59 59 [(0, .inr (.inr (.ref 61))), (1, .inl (a1)), (2, .inl (v1))] [] σ37 (fun v σ' => v = none ∧ sg_F [64, 78, 79, 80, 81, 82, 83, 84, 85, 86, 87, 8061, 11061, 11077, 12077, 13077, 14077, 15077, 16077, 17077, 18077, 19077] σ σ' ∧ Q σ') := by
            intro σ37 hF38 w
            have w := w48 σ37 hF38 w
            obtain ⟨c51, w⟩ := w
            refine wk_b tt_59 2 (pc' := 2) (ls' := [(2, .inl ((v1 + 1))), (0, .inr (.inr (.ref 61))), (1, .inl (a1))]) (st' := []) (σ' := σ37) rfl ?_
            obtain ⟨m52, hm52, w⟩ := w
            exact wk_ls [(0, .inr (.inr (.ref 61))), (1, .inl (a1)), (2, .inl ((v1 + 1)))] rfl ⟨rfl, rfl, rfl, trivial⟩ (ih8 m52 hm52 ((v1 + 1)) σ37 c51 (sg_F_t (sg_F_t (sg_F_t (sg_F_t (sg_F_r [83, 84, 12077, 13077, 15077, 16077] σ) (sg_F_m (L := [83, 84, 12077, 13077, 15077, 16077]) hF3 rfl)) (sg_F_m (L := [83, 84, 12077, 13077, 15077, 16077]) hF26 rfl)) (sg_F_m (L := [83, 84, 12077, 13077, 15077, 16077]) hF32 rfl)) (sg_F_m (L := [83, 84, 12077, 13077, 15077, 16077]) hF38 rfl)) w)
          have lp45 : ∀ (n49 : Nat) (v36 : Int) (σ37 : sg_S), sg_R v36 → sg_F [84, 13077, 16077] σ31 σ37 → I39 n49 v36 σ37 → wx z 4 59 38 [(0, .inr (.inr (.ref 61))), (1, .inl (a1)), (2, .inl (v1)), (3, .inl (q24)), (4, .inl (v36))] [] σ37 (fun v σ' => v = none ∧ sg_F [64, 78, 79, 80, 81, 82, 83, 84, 85, 86, 87, 8061, 11061, 11077, 12077, 13077, 14077, 15077, 16077, 17077, 18077, 19077] σ σ' ∧ Q σ') := by
            intro n49
            induction n49 using Nat.strongRecOn with
            | _ n49 ih43 =>
              intro v36 σ37 r42 hF38 w
              have w := w47 n49 v36 σ37 r42 hF38 w
              refine wk_b tt_59 2 (pc' := 41) (ls' := [(0, .inr (.inr (.ref 61))), (1, .inl (a1)), (2, .inl (v1)), (3, .inl (q24)), (4, .inl (v36))]) (st' := [.inl (q24), .inl (v36)]) (σ' := σ37) rfl ?_
              refine wk_if2 tt_59 (tgt := 59) rfl rfl r42 r28 (fun (h53 : q24 ≤ v36) => ?_) (fun (h53 : v36 < q24) => ?_)
              ·
                have w := w.1 h53
                exact wk_ls [(0, .inr (.inr (.ref 61))), (1, .inl (a1)), (2, .inl (v1))] rfl ⟨rfl, rfl, rfl, trivial⟩ (ex50  σ37  (sg_F_t (sg_F_r [84, 13077, 16077] σ31) (sg_F_m (L := [84, 13077, 16077]) hF38 rfl)) w)
              ·
                have w := w.2 h53
                refine wk_b tt_59 3 (pc' := 50) (ls' := [(0, .inr (.inr (.ref 61))), (1, .inl (a1)), (2, .inl (v1)), (3, .inl (q24)), (4, .inl (v36))]) (st' := [.inl (v36), .inr (.inr (.ref 77))]) (σ' := σ37) rfl ?_
                refine wk_call tt_59 rfl rfl rfl rfl rfl tt_112 rfl (by decide) (w_lSecond z σ37 (v36) _ r42 w) (fun u59 σ55 hq57 => ?_)
                obtain ⟨rfl, hF56, w⟩ := hq57
                have w := w hF56
                obtain ⟨c60, w⟩ := w
                refine wk_b tt_59 2 (pc' := 38) (ls' := [(4, .inl ((v36 + 1))), (0, .inr (.inr (.ref 61))), (1, .inl (a1)), (2, .inl (v1)), (3, .inl (q24))]) (st' := []) (σ' := σ55) rfl ?_
                obtain ⟨m61, hm61, w⟩ := w
                exact wk_ls [(0, .inr (.inr (.ref 61))), (1, .inl (a1)), (2, .inl (v1)), (3, .inl (q24)), (4, .inl ((v36 + 1)))] rfl ⟨rfl, rfl, rfl, rfl, rfl, trivial⟩ (ih43 m61 hm61 ((v36 + 1)) σ55 c60 (sg_F_t (sg_F_t (sg_F_r [84, 13077, 16077] σ31) (sg_F_m (L := [84, 13077, 16077]) hF38 rfl)) (sg_F_m (L := [84, 13077, 16077]) hF56 rfl)) w)
          exact wk_ls [(0, .inr (.inr (.ref 61))), (1, .inl (a1)), (2, .inl (v1)), (3, .inl (q24)), (4, .inl (0))] rfl ⟨rfl, rfl, rfl, rfl, rfl, trivial⟩ (lp45 μ40 (0) σ31 (by decide) (sg_F_r _ _) w46)
  exact wk_ls [(0, .inr (.inr (.ref 61))), (1, .inl (a1)), (2, .inl (0))] rfl ⟨rfl, rfl, rfl, trivial⟩ (lp10 μ5 (0) σ (by decide) (sg_F_r _ _) w11)
