/-! What the methods of the flat run ask for (8). -/
-- NestedVectors$FlatRun.sift
def V_fSift (σ : sg_S) (a1 : Int) (Q : sg_S → Prop) : Prop := V_mPop σ  (fun q1 σ2 => sg_R q1 → sg_F [8061] σ σ2 → ∀ σ7, σ7 = (sg_w σ2 61 21 (0)) → sg_R ((sx_at σ 16 200 (a1)) + (sx_at σ 13 200 (a1))) ∧ V_fWant σ7 ((sx_at σ 8 200 (a1))) (((sx_at σ 16 200 (a1)) + (sx_at σ 13 200 (a1)))) (fun σ12 => sg_F [74, 22061] σ7 σ12 → V_fNarrow σ12 (q1) (1) ((sg_g σ 61 23)) (fun σ18 => sg_F [62, 78, 79, 80, 81, 82, 85, 86, 87, 11061, 11077, 12077, 13077, 14077, 15077, 16077, 17077, 18077, 19077, 24061] σ12 σ18 → ((¬ (sg_g σ18 61 10) = 0 → Q σ18) ∧ ((sg_g σ18 61 10) = 0 → V_fShorten σ18 (a1) (q1) (fun σ25 => sg_F [70, 78, 79, 80, 81, 82, 83, 85, 86, 87, 11061, 11077, 12077, 13077, 14077, 15077, 16077, 17077, 18077, 19077] σ18 σ25 → Q σ25))))))
set_option maxHeartbeats 4000000 in
set_option maxRecDepth 8000 in
theorem w_fSift (z : Value) (σ : sg_S) (a1 : Int) (Q : sg_S → Prop) (ra1 : sg_R a1) (w : V_fSift σ a1 Q) : wx z 4 84 0 [(0, .inr (.inr (.ref 61))), (1, .inl (a1))] [] σ (fun v σ' => v = none ∧ sg_F [62, 70, 74, 78, 79, 80, 81, 82, 83, 85, 86, 87, 8061, 11061, 11077, 12077, 13077, 14077, 15077, 16077, 17077, 18077, 19077, 22061, 24061] σ σ' ∧ Q σ') := by
  unfold V_fSift at w
  refine wk_b tt_84 1 (pc' := 1) (ls' := [(0, .inr (.inr (.ref 61))), (1, .inl (a1))]) (st' := [.inr (.inr (.ref 61))]) (σ' := σ) rfl ?_
  refine wk_call tt_84 rfl rfl rfl rfl rfl tt_124 rfl (by decide) (w_mPop z σ  _  w) (fun u6 σ2 hq4 => ?_)
  obtain ⟨q1, rfl, r5, hF3, w⟩ := hq4
  have w := w r5 hF3
  refine wk_b tt_84 4 (pc' := 10) (ls' := [(2, .inl (q1)), (0, .inr (.inr (.ref 61))), (1, .inl (a1))]) (st' := []) (σ' := (sg_w σ2 61 21 (0))) rfl ?_
  generalize hs8 : (sg_w σ2 61 21 (0)) = σ7
  have w := w σ7 hs8.symm
  have hF9 : sg_F [22061] σ2 σ7 := by rw [← hs8]; exact sg_F_w (sg_F_r _ _) rfl _
  refine wk_b tt_84 5 (pc' := 19) (ls' := [(2, .inl (q1)), (0, .inr (.inr (.ref 61))), (1, .inl (a1))]) (st' := [.inl (a1), .inr (.inr (.ref 8)), .inr (.inr (.ref 61))]) (σ' := σ7) rfl ?_
  refine wk_callp tt_84 rfl rfl rfl rfl rfl tt_5 rfl (by decide) (at_i0 z σ7 8 200 (a1) rfl (by decide) ra1) ?_
  show wx z 4 84 22 [(2, .inl (q1)), (0, .inr (.inr (.ref 61))), (1, .inl (a1))] [.inl ((sx_at σ7 8 200 (a1))), .inr (.inr (.ref 61))] σ7 (fun v σ' => v = none ∧ sg_F [62, 70, 74, 78, 79, 80, 81, 82, 83, 85, 86, 87, 8061, 11061, 11077, 12077, 13077, 14077, 15077, 16077, 17077, 18077, 19077, 22061, 24061] σ σ' ∧ Q σ')
  rw [sx_F (a := 8) (n := 200) (i := (a1)) hF9 rfl, sx_F (a := 8) (n := 200) (i := (a1)) hF3 rfl]
  refine wk_b tt_84 4 (pc' := 30) (ls' := [(2, .inl (q1)), (0, .inr (.inr (.ref 61))), (1, .inl (a1))]) (st' := [.inl (a1), .inr (.inr (.ref 16)), .inl ((sx_at σ 8 200 (a1))), .inr (.inr (.ref 61))]) (σ' := σ7) rfl ?_
  refine wk_callp tt_84 rfl rfl rfl rfl rfl tt_5 rfl (by decide) (at_i0 z σ7 16 200 (a1) rfl (by decide) ra1) ?_
  show wx z 4 84 33 [(2, .inl (q1)), (0, .inr (.inr (.ref 61))), (1, .inl (a1))] [.inl ((sx_at σ7 16 200 (a1))), .inl ((sx_at σ 8 200 (a1))), .inr (.inr (.ref 61))] σ7 (fun v σ' => v = none ∧ sg_F [62, 70, 74, 78, 79, 80, 81, 82, 83, 85, 86, 87, 8061, 11061, 11077, 12077, 13077, 14077, 15077, 16077, 17077, 18077, 19077, 22061, 24061] σ σ' ∧ Q σ')
  rw [sx_F (a := 16) (n := 200) (i := (a1)) hF9 rfl, sx_F (a := 16) (n := 200) (i := (a1)) hF3 rfl]
  refine wk_b tt_84 4 (pc' := 41) (ls' := [(2, .inl (q1)), (0, .inr (.inr (.ref 61))), (1, .inl (a1))]) (st' := [.inl (a1), .inr (.inr (.ref 13)), .inl ((sx_at σ 16 200 (a1))), .inl ((sx_at σ 8 200 (a1))), .inr (.inr (.ref 61))]) (σ' := σ7) rfl ?_
  refine wk_callp tt_84 rfl rfl rfl rfl rfl tt_5 rfl (by decide) (at_i0 z σ7 13 200 (a1) rfl (by decide) ra1) ?_
  show wx z 4 84 44 [(2, .inl (q1)), (0, .inr (.inr (.ref 61))), (1, .inl (a1))] [.inl ((sx_at σ7 13 200 (a1))), .inl ((sx_at σ 16 200 (a1))), .inl ((sx_at σ 8 200 (a1))), .inr (.inr (.ref 61))] σ7 (fun v σ' => v = none ∧ sg_F [62, 70, 74, 78, 79, 80, 81, 82, 83, 85, 86, 87, 8061, 11061, 11077, 12077, 13077, 14077, 15077, 16077, 17077, 18077, 19077, 22061, 24061] σ σ' ∧ Q σ')
  rw [sx_F (a := 13) (n := 200) (i := (a1)) hF9 rfl, sx_F (a := 13) (n := 200) (i := (a1)) hF3 rfl]
  obtain ⟨c10, w⟩ := w
  refine wk_b tt_84 1 (pc' := 45) (ls' := [(2, .inl (q1)), (0, .inr (.inr (.ref 61))), (1, .inl (a1))]) (st' := [.inl (((sx_at σ 16 200 (a1)) + (sx_at σ 13 200 (a1)))), .inl ((sx_at σ 8 200 (a1))), .inr (.inr (.ref 61))]) (σ' := σ7) rfl ?_
  refine wk_call tt_84 rfl rfl rfl rfl rfl tt_89 rfl (by decide) (w_fWant z σ7 ((sx_at σ 8 200 (a1))) (((sx_at σ 16 200 (a1)) + (sx_at σ 13 200 (a1)))) _ (sx_R ..) c10 w) (fun u16 σ12 hq14 => ?_)
  obtain ⟨rfl, hF13, w⟩ := hq14
  have w := w hF13
  refine wk_b tt_84 5 (pc' := 55) (ls' := [(2, .inl (q1)), (0, .inr (.inr (.ref 61))), (1, .inl (a1))]) (st' := [.inl ((sg_g σ12 61 23)), .inl (1), .inl (q1), .inr (.inr (.ref 61))]) (σ' := σ12) rfl ?_
  rw [show (sg_g σ12 61 23) = (sg_g σ 61 23) from by rw [sg_F_g hF13 rfl, sg_F_g hF9 rfl, sg_F_g hF3 rfl]]
  refine wk_call tt_84 rfl rfl rfl rfl rfl tt_69 rfl (by decide) (w_fNarrow z σ12 (q1) (1) ((sg_g σ 61 23)) _ r5 (by decide) (sg_Rg _ _ _) w) (fun u22 σ18 hq20 => ?_)
  obtain ⟨rfl, hF19, w⟩ := hq20
  have w := w hF19
  refine wk_b tt_84 2 (pc' := 62) (ls' := [(2, .inl (q1)), (0, .inr (.inr (.ref 61))), (1, .inl (a1))]) (st' := [.inl ((sg_g σ18 61 10))]) (σ' := σ18) rfl ?_
  refine wk_if tt_84 (tgt := 71) rfl rfl (sg_Rg _ _ _) (fun (h23 : ¬ (sg_g σ18 61 10) = 0) => ?_) (fun (h23 : (sg_g σ18 61 10) = 0) => ?_)
  ·
    have w := w.1 h23
    exact wk_rV tt_84 rfl rfl ⟨rfl, (sg_F_t (sg_F_t (sg_F_t (sg_F_t (sg_F_r [62, 70, 74, 78, 79, 80, 81, 82, 83, 85, 86, 87, 8061, 11061, 11077, 12077, 13077, 14077, 15077, 16077, 17077, 18077, 19077, 22061, 24061] σ) (sg_F_m (L := [62, 70, 74, 78, 79, 80, 81, 82, 83, 85, 86, 87, 8061, 11061, 11077, 12077, 13077, 14077, 15077, 16077, 17077, 18077, 19077, 22061, 24061]) hF3 rfl)) (sg_F_m (L := [62, 70, 74, 78, 79, 80, 81, 82, 83, 85, 86, 87, 8061, 11061, 11077, 12077, 13077, 14077, 15077, 16077, 17077, 18077, 19077, 22061, 24061]) hF9 rfl)) (sg_F_m (L := [62, 70, 74, 78, 79, 80, 81, 82, 83, 85, 86, 87, 8061, 11061, 11077, 12077, 13077, 14077, 15077, 16077, 17077, 18077, 19077, 22061, 24061]) hF13 rfl)) (sg_F_m (L := [62, 70, 74, 78, 79, 80, 81, 82, 83, 85, 86, 87, 8061, 11061, 11077, 12077, 13077, 14077, 15077, 16077, 17077, 18077, 19077, 22061, 24061]) hF19 rfl)), w⟩
  ·
    have w := w.2 h23
    refine wk_b tt_84 3 (pc' := 68) (ls' := [(2, .inl (q1)), (0, .inr (.inr (.ref 61))), (1, .inl (a1))]) (st' := [.inl (q1), .inl (a1), .inr (.inr (.ref 61))]) (σ' := σ18) rfl ?_
    refine wk_call tt_84 rfl rfl rfl rfl rfl tt_83 rfl (by decide) (w_fShorten z σ18 (a1) (q1) _ ra1 r5 w) (fun u29 σ25 hq27 => ?_)
    obtain ⟨rfl, hF26, w⟩ := hq27
    have w := w hF26
    exact wk_rV tt_84 rfl rfl ⟨rfl, (sg_F_t (sg_F_t (sg_F_t (sg_F_t (sg_F_t (sg_F_r [62, 70, 74, 78, 79, 80, 81, 82, 83, 85, 86, 87, 8061, 11061, 11077, 12077, 13077, 14077, 15077, 16077, 17077, 18077, 19077, 22061, 24061] σ) (sg_F_m (L := [62, 70, 74, 78, 79, 80, 81, 82, 83, 85, 86, 87, 8061, 11061, 11077, 12077, 13077, 14077, 15077, 16077, 17077, 18077, 19077, 22061, 24061]) hF3 rfl)) (sg_F_m (L := [62, 70, 74, 78, 79, 80, 81, 82, 83, 85, 86, 87, 8061, 11061, 11077, 12077, 13077, 14077, 15077, 16077, 17077, 18077, 19077, 22061, 24061]) hF9 rfl)) (sg_F_m (L := [62, 70, 74, 78, 79, 80, 81, 82, 83, 85, 86, 87, 8061, 11061, 11077, 12077, 13077, 14077, 15077, 16077, 17077, 18077, 19077, 22061, 24061]) hF13 rfl)) (sg_F_m (L := [62, 70, 74, 78, 79, 80, 81, 82, 83, 85, 86, 87, 8061, 11061, 11077, 12077, 13077, 14077, 15077, 16077, 17077, 18077, 19077, 22061, 24061]) hF19 rfl)) (sg_F_m (L := [62, 70, 74, 78, 79, 80, 81, 82, 83, 85, 86, 87, 8061, 11061, 11077, 12077, 13077, 14077, 15077, 16077, 17077, 18077, 19077, 22061, 24061]) hF26 rfl)), w⟩
-- NestedVectors$FlatRun.sumUp
def V_fSumUp (σ : sg_S) (a1 : Int) (Q : sg_S → Prop) : Prop := p_lItems σ (a1) ∧ (∃ (I6 : Nat → Int → sg_S → Prop) (X8 : sg_S → Prop), (∃ n, I6 n (0) σ) ∧ (∀ (n16 : Nat) (v3 : Int) (σ4 : sg_S), sg_R v3 → sg_F [83, 84, 12077, 13077, 16077] σ σ4 → I6 n16 v3 σ4 → (((sg_g σ 61 23) ≤ v3 → X8 σ4) ∧ (v3 < (sg_g σ 61 23) → p_lEnd σ (a1) (v3) ∧ p_lCell σ (a1) (v3) ∧ V_lFirst σ4 ((v_lCell σ (a1) (v3))) (fun σ30 => sg_F [83, 12077, 16077] σ4 σ30 → p_lStart σ (a1) (v3) ∧ (∃ (I41 : Nat → Int → Int → sg_S → Prop) (X43 : sg_S → Prop), (∃ n, I41 n (0) ((v_lStart σ (a1) (v3))) σ30) ∧ (∀ (n52 : Nat) (v37 : Int) (v38 : Int) (σ39 : sg_S), sg_R v37 → sg_R v38 → sg_F [84, 13077, 16077] σ30 σ39 → I41 n52 v37 v38 σ39 → (((v_lEnd σ (a1) (v3)) ≤ v38 → X43 σ39) ∧ (v38 < (v_lEnd σ (a1) (v3)) → V_lSecond σ39 (v37) (fun σ58 => sg_F [84, 13077, 16077] σ39 σ58 → p_lCell σ ((v_lItems σ (a1))) (v38) ∧ sg_R (v38 + 1) ∧ (∃ m, m < n52 ∧ I41 m ((sg_n (v37 + (v_lCell σ ((v_lItems σ (a1))) (v38))))) ((v38 + 1)) σ58))))) ∧ (∀ (σ39 : sg_S), sg_F [84, 13077, 16077] σ30 σ39 → X43 σ39 → sg_R (v3 + 1) ∧ (∃ m, m < n16 ∧ I6 m ((v3 + 1)) σ39))))))) ∧ (∀ (σ4 : sg_S), sg_F [83, 84, 12077, 13077, 16077] σ σ4 → X8 σ4 → V_fGive σ4 (2) (fun σ19 => sg_F [64, 78, 79, 80, 81, 82, 85, 86, 87, 8061, 11061, 11077, 12077, 13077, 14077, 15077, 16077, 17077, 18077, 19077] σ4 σ19 → Q σ19)))
set_option maxHeartbeats 4000000 in
set_option maxRecDepth 8000 in
theorem w_fSumUp (z : Value) (σ : sg_S) (a1 : Int) (Q : sg_S → Prop) (ra1 : sg_R a1) (w : V_fSumUp σ a1 Q) : wx z 4 87 0 [(0, .inr (.inr (.ref 61))), (1, .inl (a1))] [] σ (fun v σ' => v = none ∧ sg_F [64, 78, 79, 80, 81, 82, 83, 84, 85, 86, 87, 8061, 11061, 11077, 12077, 13077, 14077, 15077, 16077, 17077, 18077, 19077] σ σ' ∧ Q σ') := by
  unfold V_fSumUp at w
  refine wk_b tt_87 3 (pc' := 5) (ls' := [(0, .inr (.inr (.ref 61))), (1, .inl (a1))]) (st' := [.inl (a1), .inr (.inr (.ref 77))]) (σ' := σ) rfl ?_
  obtain ⟨c1, w⟩ := w
  refine wk_callp tt_87 rfl rfl rfl rfl rfl tt_106 rfl (by decide) (w_lItems z σ (a1) ra1 c1) ?_
  have r2 := vr_lItems σ  (a1) ra1 c1
  refine wk_b tt_87 3 (pc' := 11) (ls' := [(3, .inl (0)), (2, .inl ((v_lItems σ (a1)))), (0, .inr (.inr (.ref 61))), (1, .inl (a1))]) (st' := []) (σ' := σ) rfl ?_
  obtain ⟨I6, X8, ⟨μ7, w13⟩, w14, w15⟩ := w
  have ex17 : ∀ (σ4 : sg_S), sg_F [83, 84, 12077, 13077, 16077] σ σ4 → X8 σ4 → wx z 4 87 103 [(0, .inr (.inr (.ref 61)))] [] σ4 (fun v σ' => v = none ∧ sg_F [64, 78, 79, 80, 81, 82, 83, 84, 85, 86, 87, 8061, 11061, 11077, 12077, 13077, 14077, 15077, 16077, 17077, 18077, 19077] σ σ' ∧ Q σ') := by
    intro σ4 hF5 w
    have w := w15 σ4 hF5 w
    refine wk_b tt_87 2 (pc' := 105) (ls' := [(0, .inr (.inr (.ref 61)))]) (st' := [.inl (2), .inr (.inr (.ref 61))]) (σ' := σ4) rfl ?_
    refine wk_call tt_87 rfl rfl rfl rfl rfl tt_65 rfl (by decide) (w_fGive z σ4 (2) _ (by decide) w) (fun u23 σ19 hq21 => ?_)
    obtain ⟨rfl, hF20, w⟩ := hq21
    have w := w hF20
    exact wk_rV tt_87 rfl rfl ⟨rfl, (sg_F_t (sg_F_t (sg_F_r [64, 78, 79, 80, 81, 82, 83, 84, 85, 86, 87, 8061, 11061, 11077, 12077, 13077, 14077, 15077, 16077, 17077, 18077, 19077] σ) (sg_F_m (L := [64, 78, 79, 80, 81, 82, 83, 84, 85, 86, 87, 8061, 11061, 11077, 12077, 13077, 14077, 15077, 16077, 17077, 18077, 19077]) hF5 rfl)) (sg_F_m (L := [64, 78, 79, 80, 81, 82, 83, 84, 85, 86, 87, 8061, 11061, 11077, 12077, 13077, 14077, 15077, 16077, 17077, 18077, 19077]) hF20 rfl)), w⟩
  have lp12 : ∀ (n16 : Nat) (v3 : Int) (σ4 : sg_S), sg_R v3 → sg_F [83, 84, 12077, 13077, 16077] σ σ4 → I6 n16 v3 σ4 → wx z 4 87 11 [(0, .inr (.inr (.ref 61))), (1, .inl (a1)), (2, .inl ((v_lItems σ (a1)))), (3, .inl (v3))] [] σ4 (fun v σ' => v = none ∧ sg_F [64, 78, 79, 80, 81, 82, 83, 84, 85, 86, 87, 8061, 11061, 11077, 12077, 13077, 14077, 15077, 16077, 17077, 18077, 19077] σ σ' ∧ Q σ') := by
    intro n16
    induction n16 using Nat.strongRecOn with
    | _ n16 ih10 =>
      intro v3 σ4 r9 hF5 w
      have w := w14 n16 v3 σ4 r9 hF5 w
      refine wk_b tt_87 3 (pc' := 16) (ls' := [(0, .inr (.inr (.ref 61))), (1, .inl (a1)), (2, .inl ((v_lItems σ (a1)))), (3, .inl (v3))]) (st' := [.inl ((sg_g σ4 61 23)), .inl (v3)]) (σ' := σ4) rfl ?_
      rw [show (sg_g σ4 61 23) = (sg_g σ 61 23) from by rw [sg_F_ga hF5 rfl]]
      refine wk_if2 tt_87 (tgt := 103) rfl rfl r9 (sg_Rg _ _ _) (fun (h24 : (sg_g σ 61 23) ≤ v3) => ?_) (fun (h24 : v3 < (sg_g σ 61 23)) => ?_)
      ·
        have w := w.1 h24
        exact wk_ls [(0, .inr (.inr (.ref 61)))] rfl ⟨rfl, trivial⟩ (ex17  σ4  (sg_F_t (sg_F_r [83, 84, 12077, 13077, 16077] σ) (sg_F_m (L := [83, 84, 12077, 13077, 16077]) hF5 rfl)) w)
      ·
        have w := w.2 h24
        refine wk_b tt_87 6 (pc' := 28) (ls' := [(4, .inl (0)), (0, .inr (.inr (.ref 61))), (1, .inl (a1)), (2, .inl ((v_lItems σ (a1)))), (3, .inl (v3))]) (st' := [.inl (v3), .inl (a1), .inr (.inr (.ref 77))]) (σ' := σ4) rfl ?_
        obtain ⟨c25, w⟩ := w
        have c25 : p_lEnd σ4 (a1) (v3) := by
          rw [pF_lEnd hF5 rfl rfl rfl]; exact c25
        refine wk_callp tt_87 rfl rfl rfl rfl rfl tt_104 rfl (by decide) (w_lEnd z σ4 (a1) (v3) ra1 r9 c25) ?_
        rw [vF_lEnd hF5 rfl rfl rfl]
        have r26 := vr_lEnd σ  (a1) (v3) ra1 r9 (by have q := c25; rw [pF_lEnd hF5 rfl rfl rfl] at q; exact q)
        refine wk_b tt_87 7 (pc' := 43) (ls' := [(5, .inl ((v_lEnd σ (a1) (v3)))), (4, .inl (0)), (0, .inr (.inr (.ref 61))), (1, .inl (a1)), (2, .inl ((v_lItems σ (a1)))), (3, .inl (v3))]) (st' := [.inl (v3), .inl (a1), .inr (.inr (.ref 77)), .inr (.inr (.ref 77))]) (σ' := σ4) rfl ?_
        obtain ⟨c27, w⟩ := w
        have c27 : p_lCell σ4 (a1) (v3) := by
          rw [pF_lCell hF5 rfl rfl]; exact c27
        refine wk_callp tt_87 rfl rfl rfl rfl rfl tt_100 rfl (by decide) (w_lCell z σ4 (a1) (v3) ra1 r9 c27) ?_
        rw [vF_lCell hF5 rfl rfl]
        have r28 := vr_lCell σ  (a1) (v3) ra1 r9 (by have q := c27; rw [pF_lCell hF5 rfl rfl] at q; exact q)
        refine wk_call tt_87 rfl rfl rfl rfl rfl tt_105 rfl (by decide) (w_lFirst z σ4 ((v_lCell σ (a1) (v3))) _ r28 w) (fun u34 σ30 hq32 => ?_)
        obtain ⟨rfl, hF31, w⟩ := hq32
        have w := w hF31
        refine wk_b tt_87 4 (pc' := 55) (ls' := [(5, .inl ((v_lEnd σ (a1) (v3)))), (4, .inl (0)), (0, .inr (.inr (.ref 61))), (1, .inl (a1)), (2, .inl ((v_lItems σ (a1)))), (3, .inl (v3))]) (st' := [.inl (v3), .inl (a1), .inr (.inr (.ref 77))]) (σ' := σ30) rfl ?_
        obtain ⟨c35, w⟩ := w
        have c35 : p_lStart σ30 (a1) (v3) := by
          rw [pF_lStart hF31 rfl rfl, pF_lStart hF5 rfl rfl]; exact c35
        refine wk_callp tt_87 rfl rfl rfl rfl rfl tt_114 rfl (by decide) (w_lStart z σ30 (a1) (v3) ra1 r9 c35) ?_
        rw [vF_lStart hF31 rfl rfl, vF_lStart hF5 rfl rfl]
        have r36 := vr_lStart σ  (a1) (v3) ra1 r9 (by have q := c35; rw [pF_lStart hF31 rfl rfl, pF_lStart hF5 rfl rfl] at q; exact q)
        refine wk_b tt_87 1 (pc' := 60) (ls' := [(6, .inl ((v_lStart σ (a1) (v3)))), (5, .inl ((v_lEnd σ (a1) (v3)))), (4, .inl (0)), (0, .inr (.inr (.ref 61))), (1, .inl (a1)), (2, .inl ((v_lItems σ (a1)))), (3, .inl (v3))]) (st' := []) (σ' := σ30) rfl ?_
        obtain ⟨I41, X43, ⟨μ42, w49⟩, w50, w51⟩ := w
        have ex53 : ∀ (σ39 : sg_S), sg_F [84, 13077, 16077] σ30 σ39 → X43 σ39 → wx z 4 87 97 [(0, .inr (.inr (.ref 61))), (1, .inl (a1)), (2, .inl ((v_lItems σ (a1)))), (3, .inl (v3))] [] σ39 (fun v σ' => v = none ∧ sg_F [64, 78, 79, 80, 81, 82, 83, 84, 85, 86, 87, 8061, 11061, 11077, 12077, 13077, 14077, 15077, 16077, 17077, 18077, 19077] σ σ' ∧ Q σ') := by
          intro σ39 hF40 w
          have w := w51 σ39 hF40 w
          obtain ⟨c54, w⟩ := w
          refine wk_b tt_87 2 (pc' := 11) (ls' := [(3, .inl ((v3 + 1))), (0, .inr (.inr (.ref 61))), (1, .inl (a1)), (2, .inl ((v_lItems σ (a1))))]) (st' := []) (σ' := σ39) rfl ?_
          obtain ⟨m55, hm55, w⟩ := w
          exact wk_ls [(0, .inr (.inr (.ref 61))), (1, .inl (a1)), (2, .inl ((v_lItems σ (a1)))), (3, .inl ((v3 + 1)))] rfl ⟨rfl, rfl, rfl, rfl, trivial⟩ (ih10 m55 hm55 ((v3 + 1)) σ39 c54 (sg_F_t (sg_F_t (sg_F_t (sg_F_r [83, 84, 12077, 13077, 16077] σ) (sg_F_m (L := [83, 84, 12077, 13077, 16077]) hF5 rfl)) (sg_F_m (L := [83, 84, 12077, 13077, 16077]) hF31 rfl)) (sg_F_m (L := [83, 84, 12077, 13077, 16077]) hF40 rfl)) w)
        have lp48 : ∀ (n52 : Nat) (v37 : Int) (v38 : Int) (σ39 : sg_S), sg_R v37 → sg_R v38 → sg_F [84, 13077, 16077] σ30 σ39 → I41 n52 v37 v38 σ39 → wx z 4 87 60 [(0, .inr (.inr (.ref 61))), (1, .inl (a1)), (2, .inl ((v_lItems σ (a1)))), (3, .inl (v3)), (4, .inl (v37)), (5, .inl ((v_lEnd σ (a1) (v3)))), (6, .inl (v38))] [] σ39 (fun v σ' => v = none ∧ sg_F [64, 78, 79, 80, 81, 82, 83, 84, 85, 86, 87, 8061, 11061, 11077, 12077, 13077, 14077, 15077, 16077, 17077, 18077, 19077] σ σ' ∧ Q σ') := by
          intro n52
          induction n52 using Nat.strongRecOn with
          | _ n52 ih46 =>
            intro v37 v38 σ39 r44 r45 hF40 w
            have w := w50 n52 v37 v38 σ39 r44 r45 hF40 w
            refine wk_b tt_87 2 (pc' := 64) (ls' := [(0, .inr (.inr (.ref 61))), (1, .inl (a1)), (2, .inl ((v_lItems σ (a1)))), (3, .inl (v3)), (4, .inl (v37)), (5, .inl ((v_lEnd σ (a1) (v3)))), (6, .inl (v38))]) (st' := [.inl ((v_lEnd σ (a1) (v3))), .inl (v38)]) (σ' := σ39) rfl ?_
            refine wk_if2 tt_87 (tgt := 97) rfl rfl r45 r26 (fun (h56 : (v_lEnd σ (a1) (v3)) ≤ v38) => ?_) (fun (h56 : v38 < (v_lEnd σ (a1) (v3))) => ?_)
            ·
              have w := w.1 h56
              exact wk_ls [(0, .inr (.inr (.ref 61))), (1, .inl (a1)), (2, .inl ((v_lItems σ (a1)))), (3, .inl (v3))] rfl ⟨rfl, rfl, rfl, rfl, trivial⟩ (ex53  σ39  (sg_F_t (sg_F_r [84, 13077, 16077] σ30) (sg_F_m (L := [84, 13077, 16077]) hF40 rfl)) w)
            ·
              have w := w.2 h56
              refine wk_b tt_87 3 (pc' := 73) (ls' := [(0, .inr (.inr (.ref 61))), (1, .inl (a1)), (2, .inl ((v_lItems σ (a1)))), (3, .inl (v3)), (4, .inl (v37)), (5, .inl ((v_lEnd σ (a1) (v3)))), (6, .inl (v38))]) (st' := [.inl (v37), .inr (.inr (.ref 77))]) (σ' := σ39) rfl ?_
              refine wk_call tt_87 rfl rfl rfl rfl rfl tt_112 rfl (by decide) (w_lSecond z σ39 (v37) _ r44 w) (fun u62 σ58 hq60 => ?_)
              obtain ⟨rfl, hF59, w⟩ := hq60
              have w := w hF59
              refine wk_b tt_87 5 (pc' := 85) (ls' := [(0, .inr (.inr (.ref 61))), (1, .inl (a1)), (2, .inl ((v_lItems σ (a1)))), (3, .inl (v3)), (4, .inl (v37)), (5, .inl ((v_lEnd σ (a1) (v3)))), (6, .inl (v38))]) (st' := [.inl (v38), .inl ((v_lItems σ (a1))), .inr (.inr (.ref 77)), .inl (v37)]) (σ' := σ58) rfl ?_
              obtain ⟨c63, w⟩ := w
              have c63 : p_lCell σ58 ((v_lItems σ (a1))) (v38) := by
                rw [pF_lCell hF59 rfl rfl, pF_lCell hF40 rfl rfl, pF_lCell hF31 rfl rfl, pF_lCell hF5 rfl rfl]; exact c63
              refine wk_callp tt_87 rfl rfl rfl rfl rfl tt_100 rfl (by decide) (w_lCell z σ58 ((v_lItems σ (a1))) (v38) r2 r45 c63) ?_
              rw [vF_lCell hF59 rfl rfl, vF_lCell hF40 rfl rfl, vF_lCell hF31 rfl rfl, vF_lCell hF5 rfl rfl]
              have r64 := vr_lCell σ  ((v_lItems σ (a1))) (v38) r2 r45 (by have q := c63; rw [pF_lCell hF59 rfl rfl, pF_lCell hF40 rfl rfl, pF_lCell hF31 rfl rfl, pF_lCell hF5 rfl rfl] at q; exact q)
              refine wk_b tt_87 1 (pc' := 89) (ls' := [(0, .inr (.inr (.ref 61))), (1, .inl (a1)), (2, .inl ((v_lItems σ (a1)))), (3, .inl (v3)), (4, .inl (v37)), (5, .inl ((v_lEnd σ (a1) (v3)))), (6, .inl (v38))]) (st' := [.inl ((v37 + (v_lCell σ ((v_lItems σ (a1))) (v38))))]) (σ' := σ58) rfl ?_
              refine wk_n ?_
              obtain ⟨c65, w⟩ := w
              refine wk_b tt_87 3 (pc' := 60) (ls' := [(6, .inl ((v38 + 1))), (4, .inl ((sg_n (v37 + (v_lCell σ ((v_lItems σ (a1))) (v38)))))), (0, .inr (.inr (.ref 61))), (1, .inl (a1)), (2, .inl ((v_lItems σ (a1)))), (3, .inl (v3)), (5, .inl ((v_lEnd σ (a1) (v3))))]) (st' := []) (σ' := σ58) rfl ?_
              obtain ⟨m66, hm66, w⟩ := w
              exact wk_ls [(0, .inr (.inr (.ref 61))), (1, .inl (a1)), (2, .inl ((v_lItems σ (a1)))), (3, .inl (v3)), (4, .inl ((sg_n (v37 + (v_lCell σ ((v_lItems σ (a1))) (v38)))))), (5, .inl ((v_lEnd σ (a1) (v3)))), (6, .inl ((v38 + 1)))] rfl ⟨rfl, rfl, rfl, rfl, rfl, rfl, rfl, trivial⟩ (ih46 m66 hm66 ((sg_n (v37 + (v_lCell σ ((v_lItems σ (a1))) (v38))))) ((v38 + 1)) σ58 (sg_Rn _) c65 (sg_F_t (sg_F_t (sg_F_r [84, 13077, 16077] σ30) (sg_F_m (L := [84, 13077, 16077]) hF40 rfl)) (sg_F_m (L := [84, 13077, 16077]) hF59 rfl)) w)
        exact wk_ls [(0, .inr (.inr (.ref 61))), (1, .inl (a1)), (2, .inl ((v_lItems σ (a1)))), (3, .inl (v3)), (4, .inl (0)), (5, .inl ((v_lEnd σ (a1) (v3)))), (6, .inl ((v_lStart σ (a1) (v3))))] rfl ⟨rfl, rfl, rfl, rfl, rfl, rfl, rfl, trivial⟩ (lp48 μ42 (0) ((v_lStart σ (a1) (v3))) σ30 (by decide) r36 (sg_F_r _ _) w49)
  exact wk_ls [(0, .inr (.inr (.ref 61))), (1, .inl (a1)), (2, .inl ((v_lItems σ (a1)))), (3, .inl (0))] rfl ⟨rfl, rfl, rfl, rfl, trivial⟩ (lp12 μ7 (0) σ (by decide) (sg_F_r _ _) w13)
-- NestedVectors$FlatRun.turn
def V_fTurn (σ : sg_S) (a1 : Int) (Q : sg_S → Prop) : Prop := V_fRestore σ (a1) (fun σ2 => sg_F [62, 23061] σ σ2 → V_fBranch σ2 (a1) ((sx_at σ 8 200 (a1))) (0) (fun σ8 => sg_F [62, 71, 72, 73, 74, 78, 79, 80, 81, 82, 85, 86, 87, 11061, 11077, 12077, 13077, 14077, 15077, 16077, 17077, 18077, 19077, 22061, 23061, 24061] σ2 σ8 → Q σ8))
set_option maxHeartbeats 4000000 in
set_option maxRecDepth 8000 in
theorem w_fTurn (z : Value) (σ : sg_S) (a1 : Int) (Q : sg_S → Prop) (ra1 : sg_R a1) (w : V_fTurn σ a1 Q) : wx z 5 88 0 [(0, .inr (.inr (.ref 61))), (1, .inl (a1))] [] σ (fun v σ' => v = none ∧ sg_F [62, 71, 72, 73, 74, 78, 79, 80, 81, 82, 85, 86, 87, 11061, 11077, 12077, 13077, 14077, 15077, 16077, 17077, 18077, 19077, 22061, 23061, 24061] σ σ' ∧ Q σ') := by
  unfold V_fTurn at w
  refine wk_b tt_88 2 (pc' := 2) (ls' := [(0, .inr (.inr (.ref 61))), (1, .inl (a1))]) (st' := [.inl (a1), .inr (.inr (.ref 61))]) (σ' := σ) rfl ?_
  refine wk_call tt_88 rfl rfl rfl rfl rfl tt_78 rfl (by decide) (w_fRestore z σ (a1) _ ra1 w) (fun u6 σ2 hq4 => ?_)
  obtain ⟨rfl, hF3, w⟩ := hq4
  have w := w hF3
  refine wk_b tt_88 6 (pc' := 15) (ls' := [(0, .inr (.inr (.ref 61))), (1, .inl (a1))]) (st' := [.inl (a1), .inr (.inr (.ref 8)), .inl (a1), .inr (.inr (.ref 61))]) (σ' := σ2) rfl ?_
  refine wk_callp tt_88 rfl rfl rfl rfl rfl tt_5 rfl (by decide) (at_i0 z σ2 8 200 (a1) rfl (by decide) ra1) ?_
  show wx z 5 88 18 [(0, .inr (.inr (.ref 61))), (1, .inl (a1))] [.inl ((sx_at σ2 8 200 (a1))), .inl (a1), .inr (.inr (.ref 61))] σ2 (fun v σ' => v = none ∧ sg_F [62, 71, 72, 73, 74, 78, 79, 80, 81, 82, 85, 86, 87, 11061, 11077, 12077, 13077, 14077, 15077, 16077, 17077, 18077, 19077, 22061, 23061, 24061] σ σ' ∧ Q σ')
  rw [sx_F (a := 8) (n := 200) (i := (a1)) hF3 rfl]
  refine wk_b tt_88 1 (pc' := 19) (ls' := [(0, .inr (.inr (.ref 61))), (1, .inl (a1))]) (st' := [.inl (0), .inl ((sx_at σ 8 200 (a1))), .inl (a1), .inr (.inr (.ref 61))]) (σ' := σ2) rfl ?_
  refine wk_call tt_88 rfl rfl rfl rfl rfl tt_53 rfl (by decide) (w_fBranch z σ2 (a1) ((sx_at σ 8 200 (a1))) (0) _ ra1 (sx_R ..) (by decide) w) (fun u12 σ8 hq10 => ?_)
  obtain ⟨rfl, hF9, w⟩ := hq10
  have w := w hF9
  exact wk_rV tt_88 rfl rfl ⟨rfl, (sg_F_t (sg_F_t (sg_F_r [62, 71, 72, 73, 74, 78, 79, 80, 81, 82, 85, 86, 87, 11061, 11077, 12077, 13077, 14077, 15077, 16077, 17077, 18077, 19077, 22061, 23061, 24061] σ) (sg_F_m (L := [62, 71, 72, 73, 74, 78, 79, 80, 81, 82, 85, 86, 87, 11061, 11077, 12077, 13077, 14077, 15077, 16077, 17077, 18077, 19077, 22061, 23061, 24061]) hF3 rfl)) (sg_F_m (L := [62, 71, 72, 73, 74, 78, 79, 80, 81, 82, 85, 86, 87, 11061, 11077, 12077, 13077, 14077, 15077, 16077, 17077, 18077, 19077, 22061, 23061, 24061]) hF9 rfl)), w⟩
-- NestedVectors$Machine.start
def V_mStart (σ : sg_S) (Q : sg_S → Prop) : Prop := ∀ σ1, σ1 = (sg_w σ 61 7 (0)) → ∀ σ4, σ4 = (sg_w σ1 61 10 (0)) → V_fPrepare σ4  (fun σ8 => sg_F [11077, 12077, 13077, 14077, 15077, 16077, 17077, 18077, 19077, 23061, 24061, 25061] σ4 σ8 → ∀ σ13, σ13 = (sx_put σ8 63 13 (12) ((-1))) → ∀ σ16, σ16 = (sg_w σ13 61 8 ((sx_at σ 31 13 (12)))) → Q σ16)
set_option maxHeartbeats 4000000 in
set_option maxRecDepth 8000 in
theorem w_mStart (z : Value) (σ : sg_S) (Q : sg_S → Prop)  (w : V_mStart σ  Q) : wx z 3 127 0 [(0, .inr (.inr (.ref 61)))] [] σ (fun v σ' => v = none ∧ sg_F [63, 8061, 9061, 11061, 11077, 12077, 13077, 14077, 15077, 16077, 17077, 18077, 19077, 23061, 24061, 25061] σ σ' ∧ Q σ') := by
  unfold V_mStart at w
  refine wk_b tt_127 3 (pc' := 5) (ls' := [(0, .inr (.inr (.ref 61)))]) (st' := []) (σ' := (sg_w σ 61 7 (0))) rfl ?_
  generalize hs2 : (sg_w σ 61 7 (0)) = σ1
  have w := w σ1 hs2.symm
  have hF3 : sg_F [8061] σ σ1 := by rw [← hs2]; exact sg_F_w (sg_F_r _ _) rfl _
  refine wk_b tt_127 3 (pc' := 10) (ls' := [(0, .inr (.inr (.ref 61)))]) (st' := []) (σ' := (sg_w σ1 61 10 (0))) rfl ?_
  generalize hs5 : (sg_w σ1 61 10 (0)) = σ4
  have w := w σ4 hs5.symm
  have hF6 : sg_F [11061] σ1 σ4 := by rw [← hs5]; exact sg_F_w (sg_F_r _ _) rfl _
  refine wk_b tt_127 1 (pc' := 11) (ls' := [(0, .inr (.inr (.ref 61)))]) (st' := [.inr (.inr (.ref 61))]) (σ' := σ4) rfl ?_
  refine wk_call tt_127 rfl rfl rfl rfl rfl tt_75 rfl (by decide) (w_fPrepare z σ4  _  w) (fun u12 σ8 hq10 => ?_)
  obtain ⟨rfl, hF9, w⟩ := hq10
  have w := w hF9
  refine wk_b tt_127 4 (pc' := 21) (ls' := [(0, .inr (.inr (.ref 61)))]) (st' := [.inl ((-1)), .inl (12), .inr (.inr (.ref 63))]) (σ' := σ8) rfl ?_
  refine wk_callp tt_127 rfl rfl rfl rfl rfl tt_21 rfl (by decide) (pt_i0 z σ8 63 13 (12) ((-1)) rfl (by decide) (by decide)) ?_
  show wx z 3 127 24 [(0, .inr (.inr (.ref 61)))] [] (sx_put σ8 63 13 (12) ((-1))) (fun v σ' => v = none ∧ sg_F [63, 8061, 9061, 11061, 11077, 12077, 13077, 14077, 15077, 16077, 17077, 18077, 19077, 23061, 24061, 25061] σ σ' ∧ Q σ')
  generalize hs14 : (sx_put σ8 63 13 (12) ((-1))) = σ13
  have w := w σ13 hs14.symm
  have hF15 : sg_F [63] σ8 σ13 := by rw [← hs14]; exact sg_F_p (sg_F_r _ _) rfl _ _ _
  refine wk_b tt_127 5 (pc' := 34) (ls' := [(0, .inr (.inr (.ref 61)))]) (st' := [.inl (12), .inr (.inr (.ref 31)), .inr (.inr (.ref 61))]) (σ' := σ13) rfl ?_
  refine wk_callp tt_127 rfl rfl rfl rfl rfl tt_5 rfl (by decide) (at_i0 z σ13 31 13 (12) rfl (by decide) (by decide)) ?_
  show wx z 3 127 37 [(0, .inr (.inr (.ref 61)))] [.inl ((sx_at σ13 31 13 (12))), .inr (.inr (.ref 61))] σ13 (fun v σ' => v = none ∧ sg_F [63, 8061, 9061, 11061, 11077, 12077, 13077, 14077, 15077, 16077, 17077, 18077, 19077, 23061, 24061, 25061] σ σ' ∧ Q σ')
  rw [sx_F (a := 31) (n := 13) (i := (12)) hF15 rfl, sx_F (a := 31) (n := 13) (i := (12)) hF9 rfl, sx_F (a := 31) (n := 13) (i := (12)) hF6 rfl, sx_F (a := 31) (n := 13) (i := (12)) hF3 rfl]
  refine wk_b tt_127 1 (pc' := 40) (ls' := [(0, .inr (.inr (.ref 61)))]) (st' := []) (σ' := (sg_w σ13 61 8 ((sx_at σ 31 13 (12))))) rfl ?_
  generalize hs17 : (sg_w σ13 61 8 ((sx_at σ 31 13 (12)))) = σ16
  have w := w σ16 hs17.symm
  have hF18 : sg_F [9061] σ13 σ16 := by rw [← hs17]; exact sg_F_w (sg_F_r _ _) rfl _
  exact wk_rV tt_127 rfl rfl ⟨rfl, (sg_F_t (sg_F_t (sg_F_t (sg_F_t (sg_F_t (sg_F_r [63, 8061, 9061, 11061, 11077, 12077, 13077, 14077, 15077, 16077, 17077, 18077, 19077, 23061, 24061, 25061] σ) (sg_F_m (L := [63, 8061, 9061, 11061, 11077, 12077, 13077, 14077, 15077, 16077, 17077, 18077, 19077, 23061, 24061, 25061]) hF3 rfl)) (sg_F_m (L := [63, 8061, 9061, 11061, 11077, 12077, 13077, 14077, 15077, 16077, 17077, 18077, 19077, 23061, 24061, 25061]) hF6 rfl)) (sg_F_m (L := [63, 8061, 9061, 11061, 11077, 12077, 13077, 14077, 15077, 16077, 17077, 18077, 19077, 23061, 24061, 25061]) hF9 rfl)) (sg_F_m (L := [63, 8061, 9061, 11061, 11077, 12077, 13077, 14077, 15077, 16077, 17077, 18077, 19077, 23061, 24061, 25061]) hF15 rfl)) (sg_F_m (L := [63, 8061, 9061, 11061, 11077, 12077, 13077, 14077, 15077, 16077, 17077, 18077, 19077, 23061, 24061, 25061]) hF18 rfl)), w⟩
-- NestedVectors$Machine.finish
def V_mFinish (σ : sg_S) (a1 : Int) (Q : sg_S → Prop) : Prop := ∀ σ1, σ1 = (sg_w σ 61 9 ((sx_at σ 6 200 (a1)))) → (((sx_at σ 3 200 (a1)) = 257 → V_fConstant σ1 ((sx_at σ 5 200 (a1))) (fun σ7 => sg_F [64, 78, 79, 80, 81, 82, 83, 85, 86, 87, 8061, 11061, 11077, 12077, 13077, 14077, 15077, 16077, 17077, 18077, 19077] σ1 σ7 → Q σ7)) ∧ (¬ (sx_at σ 3 200 (a1)) = 257 → (((sx_at σ 3 200 (a1)) = 258 → V_mPush σ1 ((sx_at σ 62 272 ((sx_at σ 16 200 (a1))))) (fun σ15 => sg_F [64, 8061] σ1 σ15 → Q σ15)) ∧ (¬ (sx_at σ 3 200 (a1)) = 258 → (((sx_at σ 3 200 (a1)) = 279 → V_fRow σ1 ((sx_at σ 10 200 (a1))) (fun σ23 => sg_F [64, 78, 79, 80, 81, 82, 83, 85, 86, 87, 8061, 11061, 11077, 12077, 13077, 14077, 15077, 16077, 17077, 18077, 19077] σ1 σ23 → Q σ23)) ∧ (¬ (sx_at σ 3 200 (a1)) = 279 → V_fCollect σ1 (a1) (fun σ29 => sg_F [62, 64, 79, 80, 81, 82, 8061, 11077, 23061, 24061] σ1 σ29 → Q σ29)))))))
set_option maxHeartbeats 4000000 in
set_option maxRecDepth 8000 in
theorem w_mFinish (z : Value) (σ : sg_S) (a1 : Int) (Q : sg_S → Prop) (ra1 : sg_R a1) (w : V_mFinish σ a1 Q) : wx z 5 120 0 [(0, .inr (.inr (.ref 61))), (1, .inl (a1))] [] σ (fun v σ' => v = none ∧ sg_F [62, 64, 78, 79, 80, 81, 82, 83, 85, 86, 87, 8061, 10061, 11061, 11077, 12077, 13077, 14077, 15077, 16077, 17077, 18077, 19077, 23061, 24061] σ σ' ∧ Q σ') := by
  unfold V_mFinish at w
  refine wk_b tt_120 5 (pc' := 9) (ls' := [(0, .inr (.inr (.ref 61))), (1, .inl (a1))]) (st' := [.inl (a1), .inr (.inr (.ref 6)), .inr (.inr (.ref 61))]) (σ' := σ) rfl ?_
  refine wk_callp tt_120 rfl rfl rfl rfl rfl tt_5 rfl (by decide) (at_i0 z σ 6 200 (a1) rfl (by decide) ra1) ?_
  show wx z 5 120 12 [(0, .inr (.inr (.ref 61))), (1, .inl (a1))] [.inl ((sx_at σ 6 200 (a1))), .inr (.inr (.ref 61))] σ (fun v σ' => v = none ∧ sg_F [62, 64, 78, 79, 80, 81, 82, 83, 85, 86, 87, 8061, 10061, 11061, 11077, 12077, 13077, 14077, 15077, 16077, 17077, 18077, 19077, 23061, 24061] σ σ' ∧ Q σ')
  refine wk_b tt_120 1 (pc' := 15) (ls' := [(0, .inr (.inr (.ref 61))), (1, .inl (a1))]) (st' := []) (σ' := (sg_w σ 61 9 ((sx_at σ 6 200 (a1))))) rfl ?_
  generalize hs2 : (sg_w σ 61 9 ((sx_at σ 6 200 (a1)))) = σ1
  have w := w σ1 hs2.symm
  have hF3 : sg_F [10061] σ σ1 := by rw [← hs2]; exact sg_F_w (sg_F_r _ _) rfl _
  refine wk_b tt_120 4 (pc' := 23) (ls' := [(0, .inr (.inr (.ref 61))), (1, .inl (a1))]) (st' := [.inl (a1), .inr (.inr (.ref 3))]) (σ' := σ1) rfl ?_
  refine wk_callp tt_120 rfl rfl rfl rfl rfl tt_5 rfl (by decide) (at_i0 z σ1 3 200 (a1) rfl (by decide) ra1) ?_
  show wx z 5 120 26 [(0, .inr (.inr (.ref 61))), (1, .inl (a1))] [.inl ((sx_at σ1 3 200 (a1)))] σ1 (fun v σ' => v = none ∧ sg_F [62, 64, 78, 79, 80, 81, 82, 83, 85, 86, 87, 8061, 10061, 11061, 11077, 12077, 13077, 14077, 15077, 16077, 17077, 18077, 19077, 23061, 24061] σ σ' ∧ Q σ')
  rw [sx_F (a := 3) (n := 200) (i := (a1)) hF3 rfl]
  by_cases e4 : (sx_at σ 3 200 (a1)) = 257
  · have w := w.1 e4
    refine wk_lw tt_120 (off := 34) (tgt := 60) rfl (by decide) (sx_R ..) (by rw [e4]; decide) rfl ?_
    refine wk_b tt_120 5 (pc' := 69) (ls' := [(0, .inr (.inr (.ref 61))), (1, .inl (a1))]) (st' := [.inl (a1), .inr (.inr (.ref 5)), .inr (.inr (.ref 61))]) (σ' := σ1) rfl ?_
    refine wk_callp tt_120 rfl rfl rfl rfl rfl tt_5 rfl (by decide) (at_i0 z σ1 5 200 (a1) rfl (by decide) ra1) ?_
    show wx z 5 120 72 [(0, .inr (.inr (.ref 61))), (1, .inl (a1))] [.inl ((sx_at σ1 5 200 (a1))), .inr (.inr (.ref 61))] σ1 (fun v σ' => v = none ∧ sg_F [62, 64, 78, 79, 80, 81, 82, 83, 85, 86, 87, 8061, 10061, 11061, 11077, 12077, 13077, 14077, 15077, 16077, 17077, 18077, 19077, 23061, 24061] σ σ' ∧ Q σ')
    rw [sx_F (a := 5) (n := 200) (i := (a1)) hF3 rfl]
    refine wk_call tt_120 rfl rfl rfl rfl rfl tt_58 rfl (by decide) (w_fConstant z σ1 ((sx_at σ 5 200 (a1))) _ (sx_R ..) w) (fun u11 σ7 hq9 => ?_)
    obtain ⟨rfl, hF8, w⟩ := hq9
    have w := w hF8
    refine wk_b tt_120 1 (pc' := 126) (ls' := [(0, .inr (.inr (.ref 61))), (1, .inl (a1))]) (st' := []) (σ' := σ7) rfl ?_
    exact wk_rV tt_120 rfl rfl ⟨rfl, (sg_F_t (sg_F_t (sg_F_r [62, 64, 78, 79, 80, 81, 82, 83, 85, 86, 87, 8061, 10061, 11061, 11077, 12077, 13077, 14077, 15077, 16077, 17077, 18077, 19077, 23061, 24061] σ) (sg_F_m (L := [62, 64, 78, 79, 80, 81, 82, 83, 85, 86, 87, 8061, 10061, 11061, 11077, 12077, 13077, 14077, 15077, 16077, 17077, 18077, 19077, 23061, 24061]) hF3 rfl)) (sg_F_m (L := [62, 64, 78, 79, 80, 81, 82, 83, 85, 86, 87, 8061, 10061, 11061, 11077, 12077, 13077, 14077, 15077, 16077, 17077, 18077, 19077, 23061, 24061]) hF8 rfl)), w⟩
  have w := w.2 e4
  by_cases e12 : (sx_at σ 3 200 (a1)) = 258
  · have w := w.1 e12
    refine wk_lw tt_120 (off := 52) (tgt := 78) rfl (by decide) (sx_R ..) (by rw [e12]; decide) rfl ?_
    refine wk_b tt_120 7 (pc' := 91) (ls' := [(0, .inr (.inr (.ref 61))), (1, .inl (a1))]) (st' := [.inl (a1), .inr (.inr (.ref 16)), .inr (.inr (.ref 62)), .inr (.inr (.ref 61))]) (σ' := σ1) rfl ?_
    refine wk_callp tt_120 rfl rfl rfl rfl rfl tt_5 rfl (by decide) (at_i0 z σ1 16 200 (a1) rfl (by decide) ra1) ?_
    show wx z 5 120 94 [(0, .inr (.inr (.ref 61))), (1, .inl (a1))] [.inl ((sx_at σ1 16 200 (a1))), .inr (.inr (.ref 62)), .inr (.inr (.ref 61))] σ1 (fun v σ' => v = none ∧ sg_F [62, 64, 78, 79, 80, 81, 82, 83, 85, 86, 87, 8061, 10061, 11061, 11077, 12077, 13077, 14077, 15077, 16077, 17077, 18077, 19077, 23061, 24061] σ σ' ∧ Q σ')
    rw [sx_F (a := 16) (n := 200) (i := (a1)) hF3 rfl]
    refine wk_callp tt_120 rfl rfl rfl rfl rfl tt_5 rfl (by decide) (at_i0 z σ1 62 272 ((sx_at σ 16 200 (a1))) rfl (by decide) (sx_R ..)) ?_
    show wx z 5 120 97 [(0, .inr (.inr (.ref 61))), (1, .inl (a1))] [.inl ((sx_at σ1 62 272 ((sx_at σ 16 200 (a1))))), .inr (.inr (.ref 61))] σ1 (fun v σ' => v = none ∧ sg_F [62, 64, 78, 79, 80, 81, 82, 83, 85, 86, 87, 8061, 10061, 11061, 11077, 12077, 13077, 14077, 15077, 16077, 17077, 18077, 19077, 23061, 24061] σ σ' ∧ Q σ')
    rw [sx_F (a := 62) (n := 272) (i := ((sx_at σ 16 200 (a1)))) hF3 rfl]
    refine wk_call tt_120 rfl rfl rfl rfl rfl tt_125 rfl (by decide) (w_mPush z σ1 ((sx_at σ 62 272 ((sx_at σ 16 200 (a1))))) _ (sx_R ..) w) (fun u19 σ15 hq17 => ?_)
    obtain ⟨rfl, hF16, w⟩ := hq17
    have w := w hF16
    refine wk_b tt_120 1 (pc' := 126) (ls' := [(0, .inr (.inr (.ref 61))), (1, .inl (a1))]) (st' := []) (σ' := σ15) rfl ?_
    exact wk_rV tt_120 rfl rfl ⟨rfl, (sg_F_t (sg_F_t (sg_F_r [62, 64, 78, 79, 80, 81, 82, 83, 85, 86, 87, 8061, 10061, 11061, 11077, 12077, 13077, 14077, 15077, 16077, 17077, 18077, 19077, 23061, 24061] σ) (sg_F_m (L := [62, 64, 78, 79, 80, 81, 82, 83, 85, 86, 87, 8061, 10061, 11061, 11077, 12077, 13077, 14077, 15077, 16077, 17077, 18077, 19077, 23061, 24061]) hF3 rfl)) (sg_F_m (L := [62, 64, 78, 79, 80, 81, 82, 83, 85, 86, 87, 8061, 10061, 11061, 11077, 12077, 13077, 14077, 15077, 16077, 17077, 18077, 19077, 23061, 24061]) hF16 rfl)), w⟩
  have w := w.2 e12
  by_cases e20 : (sx_at σ 3 200 (a1)) = 279
  · have w := w.1 e20
    refine wk_lw tt_120 (off := 77) (tgt := 103) rfl (by decide) (sx_R ..) (by rw [e20]; decide) rfl ?_
    refine wk_b tt_120 5 (pc' := 112) (ls' := [(0, .inr (.inr (.ref 61))), (1, .inl (a1))]) (st' := [.inl (a1), .inr (.inr (.ref 10)), .inr (.inr (.ref 61))]) (σ' := σ1) rfl ?_
    refine wk_callp tt_120 rfl rfl rfl rfl rfl tt_5 rfl (by decide) (at_i0 z σ1 10 200 (a1) rfl (by decide) ra1) ?_
    show wx z 5 120 115 [(0, .inr (.inr (.ref 61))), (1, .inl (a1))] [.inl ((sx_at σ1 10 200 (a1))), .inr (.inr (.ref 61))] σ1 (fun v σ' => v = none ∧ sg_F [62, 64, 78, 79, 80, 81, 82, 83, 85, 86, 87, 8061, 10061, 11061, 11077, 12077, 13077, 14077, 15077, 16077, 17077, 18077, 19077, 23061, 24061] σ σ' ∧ Q σ')
    rw [sx_F (a := 10) (n := 200) (i := (a1)) hF3 rfl]
    refine wk_call tt_120 rfl rfl rfl rfl rfl tt_80 rfl (by decide) (w_fRow z σ1 ((sx_at σ 10 200 (a1))) _ (sx_R ..) w) (fun u27 σ23 hq25 => ?_)
    obtain ⟨rfl, hF24, w⟩ := hq25
    have w := w hF24
    refine wk_b tt_120 1 (pc' := 126) (ls' := [(0, .inr (.inr (.ref 61))), (1, .inl (a1))]) (st' := []) (σ' := σ23) rfl ?_
    exact wk_rV tt_120 rfl rfl ⟨rfl, (sg_F_t (sg_F_t (sg_F_r [62, 64, 78, 79, 80, 81, 82, 83, 85, 86, 87, 8061, 10061, 11061, 11077, 12077, 13077, 14077, 15077, 16077, 17077, 18077, 19077, 23061, 24061] σ) (sg_F_m (L := [62, 64, 78, 79, 80, 81, 82, 83, 85, 86, 87, 8061, 10061, 11061, 11077, 12077, 13077, 14077, 15077, 16077, 17077, 18077, 19077, 23061, 24061]) hF3 rfl)) (sg_F_m (L := [62, 64, 78, 79, 80, 81, 82, 83, 85, 86, 87, 8061, 10061, 11061, 11077, 12077, 13077, 14077, 15077, 16077, 17077, 18077, 19077, 23061, 24061]) hF24 rfl)), w⟩
  have w := w.2 e20
  refine wk_lw tt_120 (off := 95) (tgt := 121) rfl (by decide) (sx_R ..) (by simp only [Op.lookupswitch.offset]; rw [if_neg (fun h => e4 h.symm), if_neg (fun h => e12 h.symm), if_neg (fun h => e20 h.symm)]) rfl ?_
  refine wk_b tt_120 2 (pc' := 123) (ls' := [(0, .inr (.inr (.ref 61))), (1, .inl (a1))]) (st' := [.inl (a1), .inr (.inr (.ref 61))]) (σ' := σ1) rfl ?_
  refine wk_call tt_120 rfl rfl rfl rfl rfl tt_56 rfl (by decide) (w_fCollect z σ1 (a1) _ ra1 w) (fun u33 σ29 hq31 => ?_)
  obtain ⟨rfl, hF30, w⟩ := hq31
  have w := w hF30
  exact wk_rV tt_120 rfl rfl ⟨rfl, (sg_F_t (sg_F_t (sg_F_r [62, 64, 78, 79, 80, 81, 82, 83, 85, 86, 87, 8061, 10061, 11061, 11077, 12077, 13077, 14077, 15077, 16077, 17077, 18077, 19077, 23061, 24061] σ) (sg_F_m (L := [62, 64, 78, 79, 80, 81, 82, 83, 85, 86, 87, 8061, 10061, 11061, 11077, 12077, 13077, 14077, 15077, 16077, 17077, 18077, 19077, 23061, 24061]) hF3 rfl)) (sg_F_m (L := [62, 64, 78, 79, 80, 81, 82, 83, 85, 86, 87, 8061, 10061, 11061, 11077, 12077, 13077, 14077, 15077, 16077, 17077, 18077, 19077, 23061, 24061]) hF30 rfl)), w⟩
-- NestedVectors$Machine.finishOne
def V_mFinishOne_35 (σ : sg_S) (b3 : Int) (Q : sg_S → Prop) : Prop := V_fMeasure σ (b3) (fun σ2 => sg_F [64, 78, 79, 80, 81, 82, 83, 85, 86, 87, 8061, 11061, 11077, 12077, 13077, 14077, 15077, 16077, 17077, 18077, 19077] σ σ2 → Q σ2)
set_option maxHeartbeats 4000000 in
set_option maxRecDepth 8000 in
theorem w_mFinishOne_35 (z : Value) (σ : sg_S) (b3 : Int) (Q : sg_S → Prop) (rb3 : sg_R b3) (w : V_mFinishOne_35 σ b3 Q) : wx z 5 121 84 [(0, .inr (.inr (.ref 61))), (3, .inl (b3))] [] σ (fun v σ' => v = none ∧ sg_F [64, 78, 79, 80, 81, 82, 83, 85, 86, 87, 8061, 11061, 11077, 12077, 13077, 14077, 15077, 16077, 17077, 18077, 19077] σ σ' ∧ Q σ') := by
  unfold V_mFinishOne_35 at w
  refine wk_b tt_121 2 (pc' := 86) (ls' := [(0, .inr (.inr (.ref 61))), (3, .inl (b3))]) (st' := [.inl (b3), .inr (.inr (.ref 61))]) (σ' := σ) rfl ?_
  refine wk_call tt_121 rfl rfl rfl rfl rfl tt_68 rfl (by decide) (w_fMeasure z σ (b3) _ rb3 w) (fun u6 σ2 hq4 => ?_)
  obtain ⟨rfl, hF3, w⟩ := hq4
  have w := w hF3
  refine wk_b tt_121 1 (pc' := 130) (ls' := [(0, .inr (.inr (.ref 61))), (3, .inl (b3))]) (st' := []) (σ' := σ2) rfl ?_
  exact wk_rV tt_121 rfl rfl ⟨rfl, (sg_F_t (sg_F_r [64, 78, 79, 80, 81, 82, 83, 85, 86, 87, 8061, 11061, 11077, 12077, 13077, 14077, 15077, 16077, 17077, 18077, 19077] σ) (sg_F_m (L := [64, 78, 79, 80, 81, 82, 83, 85, 86, 87, 8061, 11061, 11077, 12077, 13077, 14077, 15077, 16077, 17077, 18077, 19077]) hF3 rfl)), w⟩
-- NestedVectors$Machine.finishOne
def V_mFinishOne_267 (σ : sg_S) (b3 : Int) (Q : sg_S → Prop) : Prop := V_fCountUp σ (b3) (fun σ2 => sg_F [64, 78, 79, 80, 81, 82, 83, 84, 85, 86, 87, 8061, 11061, 11077, 12077, 13077, 14077, 15077, 16077, 17077, 18077, 19077] σ σ2 → Q σ2)
set_option maxHeartbeats 4000000 in
set_option maxRecDepth 8000 in
theorem w_mFinishOne_267 (z : Value) (σ : sg_S) (b3 : Int) (Q : sg_S → Prop) (rb3 : sg_R b3) (w : V_mFinishOne_267 σ b3 Q) : wx z 5 121 92 [(0, .inr (.inr (.ref 61))), (3, .inl (b3))] [] σ (fun v σ' => v = none ∧ sg_F [64, 78, 79, 80, 81, 82, 83, 84, 85, 86, 87, 8061, 11061, 11077, 12077, 13077, 14077, 15077, 16077, 17077, 18077, 19077] σ σ' ∧ Q σ') := by
  unfold V_mFinishOne_267 at w
  refine wk_b tt_121 2 (pc' := 94) (ls' := [(0, .inr (.inr (.ref 61))), (3, .inl (b3))]) (st' := [.inl (b3), .inr (.inr (.ref 61))]) (σ' := σ) rfl ?_
  refine wk_call tt_121 rfl rfl rfl rfl rfl tt_59 rfl (by decide) (w_fCountUp z σ (b3) _ rb3 w) (fun u6 σ2 hq4 => ?_)
  obtain ⟨rfl, hF3, w⟩ := hq4
  have w := w hF3
  refine wk_b tt_121 1 (pc' := 130) (ls' := [(0, .inr (.inr (.ref 61))), (3, .inl (b3))]) (st' := []) (σ' := σ2) rfl ?_
  exact wk_rV tt_121 rfl rfl ⟨rfl, (sg_F_t (sg_F_r [64, 78, 79, 80, 81, 82, 83, 84, 85, 86, 87, 8061, 11061, 11077, 12077, 13077, 14077, 15077, 16077, 17077, 18077, 19077] σ) (sg_F_m (L := [64, 78, 79, 80, 81, 82, 83, 84, 85, 86, 87, 8061, 11061, 11077, 12077, 13077, 14077, 15077, 16077, 17077, 18077, 19077]) hF3 rfl)), w⟩
-- NestedVectors$Machine.finishOne
def V_mFinishOne_272 (σ : sg_S) (b3 : Int) (Q : sg_S → Prop) : Prop := V_fSumUp σ (b3) (fun σ2 => sg_F [64, 78, 79, 80, 81, 82, 83, 84, 85, 86, 87, 8061, 11061, 11077, 12077, 13077, 14077, 15077, 16077, 17077, 18077, 19077] σ σ2 → Q σ2)
set_option maxHeartbeats 4000000 in
set_option maxRecDepth 8000 in
theorem w_mFinishOne_272 (z : Value) (σ : sg_S) (b3 : Int) (Q : sg_S → Prop) (rb3 : sg_R b3) (w : V_mFinishOne_272 σ b3 Q) : wx z 5 121 100 [(0, .inr (.inr (.ref 61))), (3, .inl (b3))] [] σ (fun v σ' => v = none ∧ sg_F [64, 78, 79, 80, 81, 82, 83, 84, 85, 86, 87, 8061, 11061, 11077, 12077, 13077, 14077, 15077, 16077, 17077, 18077, 19077] σ σ' ∧ Q σ') := by
  unfold V_mFinishOne_272 at w
  refine wk_b tt_121 2 (pc' := 102) (ls' := [(0, .inr (.inr (.ref 61))), (3, .inl (b3))]) (st' := [.inl (b3), .inr (.inr (.ref 61))]) (σ' := σ) rfl ?_
  refine wk_call tt_121 rfl rfl rfl rfl rfl tt_87 rfl (by decide) (w_fSumUp z σ (b3) _ rb3 w) (fun u6 σ2 hq4 => ?_)
  obtain ⟨rfl, hF3, w⟩ := hq4
  have w := w hF3
  refine wk_b tt_121 1 (pc' := 130) (ls' := [(0, .inr (.inr (.ref 61))), (3, .inl (b3))]) (st' := []) (σ' := σ2) rfl ?_
  exact wk_rV tt_121 rfl rfl ⟨rfl, (sg_F_t (sg_F_r [64, 78, 79, 80, 81, 82, 83, 84, 85, 86, 87, 8061, 11061, 11077, 12077, 13077, 14077, 15077, 16077, 17077, 18077, 19077] σ) (sg_F_m (L := [64, 78, 79, 80, 81, 82, 83, 84, 85, 86, 87, 8061, 11061, 11077, 12077, 13077, 14077, 15077, 16077, 17077, 18077, 19077]) hF3 rfl)), w⟩
-- NestedVectors$Machine.finishOne
def V_mFinishOne_273 (σ : sg_S) (b3 : Int) (Q : sg_S → Prop) : Prop := V_fReverse σ (b3) (fun σ2 => sg_F [64, 78, 79, 80, 81, 82, 83, 85, 86, 87, 8061, 11061, 11077, 12077, 13077, 14077, 15077, 16077, 17077, 18077, 19077] σ σ2 → Q σ2)
set_option maxHeartbeats 4000000 in
set_option maxRecDepth 8000 in
theorem w_mFinishOne_273 (z : Value) (σ : sg_S) (b3 : Int) (Q : sg_S → Prop) (rb3 : sg_R b3) (w : V_mFinishOne_273 σ b3 Q) : wx z 5 121 108 [(0, .inr (.inr (.ref 61))), (3, .inl (b3))] [] σ (fun v σ' => v = none ∧ sg_F [64, 78, 79, 80, 81, 82, 83, 85, 86, 87, 8061, 11061, 11077, 12077, 13077, 14077, 15077, 16077, 17077, 18077, 19077] σ σ' ∧ Q σ') := by
  unfold V_mFinishOne_273 at w
  refine wk_b tt_121 2 (pc' := 110) (ls' := [(0, .inr (.inr (.ref 61))), (3, .inl (b3))]) (st' := [.inl (b3), .inr (.inr (.ref 61))]) (σ' := σ) rfl ?_
  refine wk_call tt_121 rfl rfl rfl rfl rfl tt_79 rfl (by decide) (w_fReverse z σ (b3) _ rb3 w) (fun u6 σ2 hq4 => ?_)
  obtain ⟨rfl, hF3, w⟩ := hq4
  have w := w hF3
  refine wk_b tt_121 1 (pc' := 130) (ls' := [(0, .inr (.inr (.ref 61))), (3, .inl (b3))]) (st' := []) (σ' := σ2) rfl ?_
  exact wk_rV tt_121 rfl rfl ⟨rfl, (sg_F_t (sg_F_r [64, 78, 79, 80, 81, 82, 83, 85, 86, 87, 8061, 11061, 11077, 12077, 13077, 14077, 15077, 16077, 17077, 18077, 19077] σ) (sg_F_m (L := [64, 78, 79, 80, 81, 82, 83, 85, 86, 87, 8061, 11061, 11077, 12077, 13077, 14077, 15077, 16077, 17077, 18077, 19077]) hF3 rfl)), w⟩
-- NestedVectors$Machine.finishOne
def V_mFinishOne_275 (σ : sg_S) (b3 : Int) (Q : sg_S → Prop) : Prop := V_fFlatten σ (b3) (fun σ2 => sg_F [64, 78, 79, 80, 81, 82, 83, 85, 86, 87, 8061, 11061, 11077, 12077, 13077, 14077, 15077, 16077, 17077, 18077, 19077] σ σ2 → Q σ2)
set_option maxHeartbeats 4000000 in
set_option maxRecDepth 8000 in
theorem w_mFinishOne_275 (z : Value) (σ : sg_S) (b3 : Int) (Q : sg_S → Prop) (rb3 : sg_R b3) (w : V_mFinishOne_275 σ b3 Q) : wx z 5 121 116 [(0, .inr (.inr (.ref 61))), (3, .inl (b3))] [] σ (fun v σ' => v = none ∧ sg_F [64, 78, 79, 80, 81, 82, 83, 85, 86, 87, 8061, 11061, 11077, 12077, 13077, 14077, 15077, 16077, 17077, 18077, 19077] σ σ' ∧ Q σ') := by
  unfold V_mFinishOne_275 at w
  refine wk_b tt_121 2 (pc' := 118) (ls' := [(0, .inr (.inr (.ref 61))), (3, .inl (b3))]) (st' := [.inl (b3), .inr (.inr (.ref 61))]) (σ' := σ) rfl ?_
  refine wk_call tt_121 rfl rfl rfl rfl rfl tt_63 rfl (by decide) (w_fFlatten z σ (b3) _ rb3 w) (fun u6 σ2 hq4 => ?_)
  obtain ⟨rfl, hF3, w⟩ := hq4
  have w := w hF3
  refine wk_b tt_121 1 (pc' := 130) (ls' := [(0, .inr (.inr (.ref 61))), (3, .inl (b3))]) (st' := []) (σ' := σ2) rfl ?_
  exact wk_rV tt_121 rfl rfl ⟨rfl, (sg_F_t (sg_F_r [64, 78, 79, 80, 81, 82, 83, 85, 86, 87, 8061, 11061, 11077, 12077, 13077, 14077, 15077, 16077, 17077, 18077, 19077] σ) (sg_F_m (L := [64, 78, 79, 80, 81, 82, 83, 85, 86, 87, 8061, 11061, 11077, 12077, 13077, 14077, 15077, 16077, 17077, 18077, 19077]) hF3 rfl)), w⟩
-- NestedVectors$Machine.finishOne
def V_mFinishOne_d (σ : sg_S) (b2 : Int) (b3 : Int) (Q : sg_S → Prop) : Prop := V_fReduce σ (b2) (b3) (fun σ2 => sg_F [64, 78, 79, 80, 81, 82, 83, 85, 86, 87, 8061, 11061, 11077, 12077, 13077, 14077, 15077, 16077, 17077, 18077, 19077] σ σ2 → Q σ2)
set_option maxHeartbeats 4000000 in
set_option maxRecDepth 8000 in
theorem w_mFinishOne_d (z : Value) (σ : sg_S) (b2 : Int) (b3 : Int) (Q : sg_S → Prop) (rb2 : sg_R b2) (rb3 : sg_R b3) (w : V_mFinishOne_d σ b2 b3 Q) : wx z 5 121 124 [(0, .inr (.inr (.ref 61))), (2, .inl (b2)), (3, .inl (b3))] [] σ (fun v σ' => v = none ∧ sg_F [64, 78, 79, 80, 81, 82, 83, 85, 86, 87, 8061, 11061, 11077, 12077, 13077, 14077, 15077, 16077, 17077, 18077, 19077] σ σ' ∧ Q σ') := by
  unfold V_mFinishOne_d at w
  refine wk_b tt_121 3 (pc' := 127) (ls' := [(0, .inr (.inr (.ref 61))), (2, .inl (b2)), (3, .inl (b3))]) (st' := [.inl (b3), .inl (b2), .inr (.inr (.ref 61))]) (σ' := σ) rfl ?_
  refine wk_call tt_121 rfl rfl rfl rfl rfl tt_76 rfl (by decide) (w_fReduce z σ (b2) (b3) _ rb2 rb3 w) (fun u6 σ2 hq4 => ?_)
  obtain ⟨rfl, hF3, w⟩ := hq4
  have w := w hF3
  exact wk_rV tt_121 rfl rfl ⟨rfl, (sg_F_t (sg_F_r [64, 78, 79, 80, 81, 82, 83, 85, 86, 87, 8061, 11061, 11077, 12077, 13077, 14077, 15077, 16077, 17077, 18077, 19077] σ) (sg_F_m (L := [64, 78, 79, 80, 81, 82, 83, 85, 86, 87, 8061, 11061, 11077, 12077, 13077, 14077, 15077, 16077, 17077, 18077, 19077]) hF3 rfl)), w⟩
-- NestedVectors$Machine.finishOne
def V_mFinishOne (σ : sg_S) (a1 : Int) (Q : sg_S → Prop) : Prop := V_mPop σ  (fun q1 σ2 => sg_R q1 → sg_F [8061] σ σ2 → ∀ σ7, σ7 = (sg_w σ2 61 9 ((sx_at σ 6 200 (a1)))) → (((sx_at σ 3 200 (a1)) = 35 → V_mFinishOne_35 σ7 (q1) Q) ∧ (¬ (sx_at σ 3 200 (a1)) = 35 → (((sx_at σ 3 200 (a1)) = 267 → V_mFinishOne_267 σ7 (q1) Q) ∧ (¬ (sx_at σ 3 200 (a1)) = 267 → (((sx_at σ 3 200 (a1)) = 272 → V_mFinishOne_272 σ7 (q1) Q) ∧ (¬ (sx_at σ 3 200 (a1)) = 272 → (((sx_at σ 3 200 (a1)) = 273 → V_mFinishOne_273 σ7 (q1) Q) ∧ (¬ (sx_at σ 3 200 (a1)) = 273 → (((sx_at σ 3 200 (a1)) = 275 → V_mFinishOne_275 σ7 (q1) Q) ∧ (¬ (sx_at σ 3 200 (a1)) = 275 → V_mFinishOne_d σ7 ((sx_at σ 3 200 (a1))) (q1) Q)))))))))))
set_option maxHeartbeats 4000000 in
set_option maxRecDepth 8000 in
theorem w_mFinishOne (z : Value) (σ : sg_S) (a1 : Int) (Q : sg_S → Prop) (ra1 : sg_R a1) (w : V_mFinishOne σ a1 Q) : wx z 5 121 0 [(0, .inr (.inr (.ref 61))), (1, .inl (a1))] [] σ (fun v σ' => v = none ∧ sg_F [64, 78, 79, 80, 81, 82, 83, 84, 85, 86, 87, 8061, 10061, 11061, 11077, 12077, 13077, 14077, 15077, 16077, 17077, 18077, 19077] σ σ' ∧ Q σ') := by
  unfold V_mFinishOne at w
  refine wk_b tt_121 4 (pc' := 8) (ls' := [(0, .inr (.inr (.ref 61))), (1, .inl (a1))]) (st' := [.inl (a1), .inr (.inr (.ref 3))]) (σ' := σ) rfl ?_
  refine wk_callp tt_121 rfl rfl rfl rfl rfl tt_5 rfl (by decide) (at_i0 z σ 3 200 (a1) rfl (by decide) ra1) ?_
  show wx z 5 121 11 [(0, .inr (.inr (.ref 61))), (1, .inl (a1))] [.inl ((sx_at σ 3 200 (a1)))] σ (fun v σ' => v = none ∧ sg_F [64, 78, 79, 80, 81, 82, 83, 84, 85, 86, 87, 8061, 10061, 11061, 11077, 12077, 13077, 14077, 15077, 16077, 17077, 18077, 19077] σ σ' ∧ Q σ')
  refine wk_b tt_121 2 (pc' := 13) (ls' := [(2, .inl ((sx_at σ 3 200 (a1)))), (0, .inr (.inr (.ref 61))), (1, .inl (a1))]) (st' := [.inr (.inr (.ref 61))]) (σ' := σ) rfl ?_
  refine wk_call tt_121 rfl rfl rfl rfl rfl tt_124 rfl (by decide) (w_mPop z σ  _  w) (fun u6 σ2 hq4 => ?_)
  obtain ⟨q1, rfl, r5, hF3, w⟩ := hq4
  have w := w r5 hF3
  refine wk_b tt_121 6 (pc' := 26) (ls' := [(3, .inl (q1)), (2, .inl ((sx_at σ 3 200 (a1)))), (0, .inr (.inr (.ref 61))), (1, .inl (a1))]) (st' := [.inl (a1), .inr (.inr (.ref 6)), .inr (.inr (.ref 61))]) (σ' := σ2) rfl ?_
  refine wk_callp tt_121 rfl rfl rfl rfl rfl tt_5 rfl (by decide) (at_i0 z σ2 6 200 (a1) rfl (by decide) ra1) ?_
  show wx z 5 121 29 [(3, .inl (q1)), (2, .inl ((sx_at σ 3 200 (a1)))), (0, .inr (.inr (.ref 61))), (1, .inl (a1))] [.inl ((sx_at σ2 6 200 (a1))), .inr (.inr (.ref 61))] σ2 (fun v σ' => v = none ∧ sg_F [64, 78, 79, 80, 81, 82, 83, 84, 85, 86, 87, 8061, 10061, 11061, 11077, 12077, 13077, 14077, 15077, 16077, 17077, 18077, 19077] σ σ' ∧ Q σ')
  rw [sx_F (a := 6) (n := 200) (i := (a1)) hF3 rfl]
  refine wk_b tt_121 1 (pc' := 32) (ls' := [(3, .inl (q1)), (2, .inl ((sx_at σ 3 200 (a1)))), (0, .inr (.inr (.ref 61))), (1, .inl (a1))]) (st' := []) (σ' := (sg_w σ2 61 9 ((sx_at σ 6 200 (a1))))) rfl ?_
  generalize hs8 : (sg_w σ2 61 9 ((sx_at σ 6 200 (a1)))) = σ7
  have w := w σ7 hs8.symm
  have hF9 : sg_F [10061] σ2 σ7 := by rw [← hs8]; exact sg_F_w (sg_F_r _ _) rfl _
  refine wk_b tt_121 1 (pc' := 33) (ls' := [(3, .inl (q1)), (2, .inl ((sx_at σ 3 200 (a1)))), (0, .inr (.inr (.ref 61))), (1, .inl (a1))]) (st' := [.inl ((sx_at σ 3 200 (a1)))]) (σ' := σ7) rfl ?_
  by_cases e10 : (sx_at σ 3 200 (a1)) = 35
  · have w := w.1 e10
    refine wk_lw tt_121 (off := 51) (tgt := 84) rfl (by decide) (sx_R ..) (by rw [e10]; decide) rfl ?_
    refine wk_ls [(0, .inr (.inr (.ref 61))), (3, .inl (q1))] rfl ⟨rfl, rfl, trivial⟩ ?_
    exact wk_post (wk_d (by decide) (w_mFinishOne_35 z σ7 (q1) Q r5 w)) (fun v σ' ⟨e, hF, hQ⟩ => ⟨e, sg_F_t (sg_F_t (sg_F_t (sg_F_r [64, 78, 79, 80, 81, 82, 83, 84, 85, 86, 87, 8061, 10061, 11061, 11077, 12077, 13077, 14077, 15077, 16077, 17077, 18077, 19077] σ) (sg_F_m (L := [64, 78, 79, 80, 81, 82, 83, 84, 85, 86, 87, 8061, 10061, 11061, 11077, 12077, 13077, 14077, 15077, 16077, 17077, 18077, 19077]) hF3 rfl)) (sg_F_m (L := [64, 78, 79, 80, 81, 82, 83, 84, 85, 86, 87, 8061, 10061, 11061, 11077, 12077, 13077, 14077, 15077, 16077, 17077, 18077, 19077]) hF9 rfl)) (sg_F_m hF rfl), hQ⟩)
  have w := w.2 e10
  by_cases e12 : (sx_at σ 3 200 (a1)) = 267
  · have w := w.1 e12
    refine wk_lw tt_121 (off := 59) (tgt := 92) rfl (by decide) (sx_R ..) (by rw [e12]; decide) rfl ?_
    refine wk_ls [(0, .inr (.inr (.ref 61))), (3, .inl (q1))] rfl ⟨rfl, rfl, trivial⟩ ?_
    exact wk_post (wk_d (by decide) (w_mFinishOne_267 z σ7 (q1) Q r5 w)) (fun v σ' ⟨e, hF, hQ⟩ => ⟨e, sg_F_t (sg_F_t (sg_F_t (sg_F_r [64, 78, 79, 80, 81, 82, 83, 84, 85, 86, 87, 8061, 10061, 11061, 11077, 12077, 13077, 14077, 15077, 16077, 17077, 18077, 19077] σ) (sg_F_m (L := [64, 78, 79, 80, 81, 82, 83, 84, 85, 86, 87, 8061, 10061, 11061, 11077, 12077, 13077, 14077, 15077, 16077, 17077, 18077, 19077]) hF3 rfl)) (sg_F_m (L := [64, 78, 79, 80, 81, 82, 83, 84, 85, 86, 87, 8061, 10061, 11061, 11077, 12077, 13077, 14077, 15077, 16077, 17077, 18077, 19077]) hF9 rfl)) (sg_F_m hF rfl), hQ⟩)
  have w := w.2 e12
  by_cases e14 : (sx_at σ 3 200 (a1)) = 272
  · have w := w.1 e14
    refine wk_lw tt_121 (off := 67) (tgt := 100) rfl (by decide) (sx_R ..) (by rw [e14]; decide) rfl ?_
    refine wk_ls [(0, .inr (.inr (.ref 61))), (3, .inl (q1))] rfl ⟨rfl, rfl, trivial⟩ ?_
    exact wk_post (wk_d (by decide) (w_mFinishOne_272 z σ7 (q1) Q r5 w)) (fun v σ' ⟨e, hF, hQ⟩ => ⟨e, sg_F_t (sg_F_t (sg_F_t (sg_F_r [64, 78, 79, 80, 81, 82, 83, 84, 85, 86, 87, 8061, 10061, 11061, 11077, 12077, 13077, 14077, 15077, 16077, 17077, 18077, 19077] σ) (sg_F_m (L := [64, 78, 79, 80, 81, 82, 83, 84, 85, 86, 87, 8061, 10061, 11061, 11077, 12077, 13077, 14077, 15077, 16077, 17077, 18077, 19077]) hF3 rfl)) (sg_F_m (L := [64, 78, 79, 80, 81, 82, 83, 84, 85, 86, 87, 8061, 10061, 11061, 11077, 12077, 13077, 14077, 15077, 16077, 17077, 18077, 19077]) hF9 rfl)) (sg_F_m hF rfl), hQ⟩)
  have w := w.2 e14
  by_cases e16 : (sx_at σ 3 200 (a1)) = 273
  · have w := w.1 e16
    refine wk_lw tt_121 (off := 75) (tgt := 108) rfl (by decide) (sx_R ..) (by rw [e16]; decide) rfl ?_
    refine wk_ls [(0, .inr (.inr (.ref 61))), (3, .inl (q1))] rfl ⟨rfl, rfl, trivial⟩ ?_
    exact wk_post (wk_d (by decide) (w_mFinishOne_273 z σ7 (q1) Q r5 w)) (fun v σ' ⟨e, hF, hQ⟩ => ⟨e, sg_F_t (sg_F_t (sg_F_t (sg_F_r [64, 78, 79, 80, 81, 82, 83, 84, 85, 86, 87, 8061, 10061, 11061, 11077, 12077, 13077, 14077, 15077, 16077, 17077, 18077, 19077] σ) (sg_F_m (L := [64, 78, 79, 80, 81, 82, 83, 84, 85, 86, 87, 8061, 10061, 11061, 11077, 12077, 13077, 14077, 15077, 16077, 17077, 18077, 19077]) hF3 rfl)) (sg_F_m (L := [64, 78, 79, 80, 81, 82, 83, 84, 85, 86, 87, 8061, 10061, 11061, 11077, 12077, 13077, 14077, 15077, 16077, 17077, 18077, 19077]) hF9 rfl)) (sg_F_m hF rfl), hQ⟩)
  have w := w.2 e16
  by_cases e18 : (sx_at σ 3 200 (a1)) = 275
  · have w := w.1 e18
    refine wk_lw tt_121 (off := 83) (tgt := 116) rfl (by decide) (sx_R ..) (by rw [e18]; decide) rfl ?_
    refine wk_ls [(0, .inr (.inr (.ref 61))), (3, .inl (q1))] rfl ⟨rfl, rfl, trivial⟩ ?_
    exact wk_post (wk_d (by decide) (w_mFinishOne_275 z σ7 (q1) Q r5 w)) (fun v σ' ⟨e, hF, hQ⟩ => ⟨e, sg_F_t (sg_F_t (sg_F_t (sg_F_r [64, 78, 79, 80, 81, 82, 83, 84, 85, 86, 87, 8061, 10061, 11061, 11077, 12077, 13077, 14077, 15077, 16077, 17077, 18077, 19077] σ) (sg_F_m (L := [64, 78, 79, 80, 81, 82, 83, 84, 85, 86, 87, 8061, 10061, 11061, 11077, 12077, 13077, 14077, 15077, 16077, 17077, 18077, 19077]) hF3 rfl)) (sg_F_m (L := [64, 78, 79, 80, 81, 82, 83, 84, 85, 86, 87, 8061, 10061, 11061, 11077, 12077, 13077, 14077, 15077, 16077, 17077, 18077, 19077]) hF9 rfl)) (sg_F_m hF rfl), hQ⟩)
  have w := w.2 e18
  refine wk_lw tt_121 (off := 91) (tgt := 124) rfl (by decide) (sx_R ..) (by simp only [Op.lookupswitch.offset]; rw [if_neg (fun h => e10 h.symm), if_neg (fun h => e12 h.symm), if_neg (fun h => e14 h.symm), if_neg (fun h => e16 h.symm), if_neg (fun h => e18 h.symm)]) rfl ?_
  refine wk_ls [(0, .inr (.inr (.ref 61))), (2, .inl ((sx_at σ 3 200 (a1)))), (3, .inl (q1))] rfl ⟨rfl, rfl, rfl, trivial⟩ ?_
  exact wk_post (wk_d (by decide) (w_mFinishOne_d z σ7 ((sx_at σ 3 200 (a1))) (q1) Q (sx_R ..) r5 w)) (fun v σ' ⟨e, hF, hQ⟩ => ⟨e, sg_F_t (sg_F_t (sg_F_t (sg_F_r [64, 78, 79, 80, 81, 82, 83, 84, 85, 86, 87, 8061, 10061, 11061, 11077, 12077, 13077, 14077, 15077, 16077, 17077, 18077, 19077] σ) (sg_F_m (L := [64, 78, 79, 80, 81, 82, 83, 84, 85, 86, 87, 8061, 10061, 11061, 11077, 12077, 13077, 14077, 15077, 16077, 17077, 18077, 19077]) hF3 rfl)) (sg_F_m (L := [64, 78, 79, 80, 81, 82, 83, 84, 85, 86, 87, 8061, 10061, 11061, 11077, 12077, 13077, 14077, 15077, 16077, 17077, 18077, 19077]) hF9 rfl)) (sg_F_m hF rfl), hQ⟩)
-- NestedVectors$Machine.finishTwo
def V_mFinishTwo_91 (σ : sg_S) (b3 : Int) (b4 : Int) (Q : sg_S → Prop) : Prop := V_fSelect σ (b4) (b3) (fun σ2 => sg_F [64, 78, 79, 80, 81, 82, 85, 86, 87, 8061, 11061, 11077, 12077, 13077, 14077, 15077, 16077, 17077, 18077, 19077] σ σ2 → Q σ2)
set_option maxHeartbeats 4000000 in
set_option maxRecDepth 8000 in
theorem w_mFinishTwo_91 (z : Value) (σ : sg_S) (b3 : Int) (b4 : Int) (Q : sg_S → Prop) (rb3 : sg_R b3) (rb4 : sg_R b4) (w : V_mFinishTwo_91 σ b3 b4 Q) : wx z 5 122 96 [(0, .inr (.inr (.ref 61))), (3, .inl (b3)), (4, .inl (b4))] [] σ (fun v σ' => v = none ∧ sg_F [64, 78, 79, 80, 81, 82, 85, 86, 87, 8061, 11061, 11077, 12077, 13077, 14077, 15077, 16077, 17077, 18077, 19077] σ σ' ∧ Q σ') := by
  unfold V_mFinishTwo_91 at w
  refine wk_b tt_122 3 (pc' := 100) (ls' := [(0, .inr (.inr (.ref 61))), (3, .inl (b3)), (4, .inl (b4))]) (st' := [.inl (b3), .inl (b4), .inr (.inr (.ref 61))]) (σ' := σ) rfl ?_
  refine wk_call tt_122 rfl rfl rfl rfl rfl tt_82 rfl (by decide) (w_fSelect z σ (b4) (b3) _ rb4 rb3 w) (fun u6 σ2 hq4 => ?_)
  obtain ⟨rfl, hF3, w⟩ := hq4
  have w := w hF3
  refine wk_b tt_122 1 (pc' := 164) (ls' := [(0, .inr (.inr (.ref 61))), (3, .inl (b3)), (4, .inl (b4))]) (st' := []) (σ' := σ2) rfl ?_
  exact wk_rV tt_122 rfl rfl ⟨rfl, (sg_F_t (sg_F_r [64, 78, 79, 80, 81, 82, 85, 86, 87, 8061, 11061, 11077, 12077, 13077, 14077, 15077, 16077, 17077, 18077, 19077] σ) (sg_F_m (L := [64, 78, 79, 80, 81, 82, 85, 86, 87, 8061, 11061, 11077, 12077, 13077, 14077, 15077, 16077, 17077, 18077, 19077]) hF3 rfl)), w⟩
-- NestedVectors$Machine.finishTwo
def V_mFinishTwo_268 (σ : sg_S) (b3 : Int) (b4 : Int) (Q : sg_S → Prop) : Prop := V_fRepeat σ (b4) (b3) (fun σ2 => sg_F [64, 78, 79, 80, 81, 82, 83, 85, 86, 87, 8061, 11061, 11077, 12077, 13077, 14077, 15077, 16077, 17077, 18077, 19077] σ σ2 → Q σ2)
set_option maxHeartbeats 4000000 in
set_option maxRecDepth 8000 in
theorem w_mFinishTwo_268 (z : Value) (σ : sg_S) (b3 : Int) (b4 : Int) (Q : sg_S → Prop) (rb3 : sg_R b3) (rb4 : sg_R b4) (w : V_mFinishTwo_268 σ b3 b4 Q) : wx z 5 122 106 [(0, .inr (.inr (.ref 61))), (3, .inl (b3)), (4, .inl (b4))] [] σ (fun v σ' => v = none ∧ sg_F [64, 78, 79, 80, 81, 82, 83, 85, 86, 87, 8061, 11061, 11077, 12077, 13077, 14077, 15077, 16077, 17077, 18077, 19077] σ σ' ∧ Q σ') := by
  unfold V_mFinishTwo_268 at w
  refine wk_b tt_122 3 (pc' := 110) (ls' := [(0, .inr (.inr (.ref 61))), (3, .inl (b3)), (4, .inl (b4))]) (st' := [.inl (b3), .inl (b4), .inr (.inr (.ref 61))]) (σ' := σ) rfl ?_
  refine wk_call tt_122 rfl rfl rfl rfl rfl tt_77 rfl (by decide) (w_fRepeat z σ (b4) (b3) _ rb4 rb3 w) (fun u6 σ2 hq4 => ?_)
  obtain ⟨rfl, hF3, w⟩ := hq4
  have w := w hF3
  refine wk_b tt_122 1 (pc' := 164) (ls' := [(0, .inr (.inr (.ref 61))), (3, .inl (b3)), (4, .inl (b4))]) (st' := []) (σ' := σ2) rfl ?_
  exact wk_rV tt_122 rfl rfl ⟨rfl, (sg_F_t (sg_F_r [64, 78, 79, 80, 81, 82, 83, 85, 86, 87, 8061, 11061, 11077, 12077, 13077, 14077, 15077, 16077, 17077, 18077, 19077] σ) (sg_F_m (L := [64, 78, 79, 80, 81, 82, 83, 85, 86, 87, 8061, 11061, 11077, 12077, 13077, 14077, 15077, 16077, 17077, 18077, 19077]) hF3 rfl)), w⟩
-- NestedVectors$Machine.finishTwo
def V_mFinishTwo_274 (σ : sg_S) (b3 : Int) (b4 : Int) (Q : sg_S → Prop) : Prop := V_fAppend σ (b4) (b3) (fun σ2 => sg_F [64, 78, 79, 80, 81, 82, 83, 85, 86, 87, 8061, 11061, 11077, 12077, 13077, 14077, 15077, 16077, 17077, 18077, 19077] σ σ2 → Q σ2)
set_option maxHeartbeats 4000000 in
set_option maxRecDepth 8000 in
theorem w_mFinishTwo_274 (z : Value) (σ : sg_S) (b3 : Int) (b4 : Int) (Q : sg_S → Prop) (rb3 : sg_R b3) (rb4 : sg_R b4) (w : V_mFinishTwo_274 σ b3 b4 Q) : wx z 5 122 116 [(0, .inr (.inr (.ref 61))), (3, .inl (b3)), (4, .inl (b4))] [] σ (fun v σ' => v = none ∧ sg_F [64, 78, 79, 80, 81, 82, 83, 85, 86, 87, 8061, 11061, 11077, 12077, 13077, 14077, 15077, 16077, 17077, 18077, 19077] σ σ' ∧ Q σ') := by
  unfold V_mFinishTwo_274 at w
  refine wk_b tt_122 3 (pc' := 120) (ls' := [(0, .inr (.inr (.ref 61))), (3, .inl (b3)), (4, .inl (b4))]) (st' := [.inl (b3), .inl (b4), .inr (.inr (.ref 61))]) (σ' := σ) rfl ?_
  refine wk_call tt_122 rfl rfl rfl rfl rfl tt_50 rfl (by decide) (w_fAppend z σ (b4) (b3) _ rb4 rb3 w) (fun u6 σ2 hq4 => ?_)
  obtain ⟨rfl, hF3, w⟩ := hq4
  have w := w hF3
  refine wk_b tt_122 1 (pc' := 164) (ls' := [(0, .inr (.inr (.ref 61))), (3, .inl (b3)), (4, .inl (b4))]) (st' := []) (σ' := σ2) rfl ?_
  exact wk_rV tt_122 rfl rfl ⟨rfl, (sg_F_t (sg_F_r [64, 78, 79, 80, 81, 82, 83, 85, 86, 87, 8061, 11061, 11077, 12077, 13077, 14077, 15077, 16077, 17077, 18077, 19077] σ) (sg_F_m (L := [64, 78, 79, 80, 81, 82, 83, 85, 86, 87, 8061, 11061, 11077, 12077, 13077, 14077, 15077, 16077, 17077, 18077, 19077]) hF3 rfl)), w⟩
-- NestedVectors$Machine.finishTwo
def V_mFinishTwo_276 (σ : sg_S) (b3 : Int) (b4 : Int) (Q : sg_S → Prop) : Prop := V_fPack σ (b4) (b3) (fun σ2 => sg_F [64, 78, 79, 80, 81, 82, 83, 85, 86, 87, 8061, 11061, 11077, 12077, 13077, 14077, 15077, 16077, 17077, 18077, 19077] σ σ2 → Q σ2)
set_option maxHeartbeats 4000000 in
set_option maxRecDepth 8000 in
theorem w_mFinishTwo_276 (z : Value) (σ : sg_S) (b3 : Int) (b4 : Int) (Q : sg_S → Prop) (rb3 : sg_R b3) (rb4 : sg_R b4) (w : V_mFinishTwo_276 σ b3 b4 Q) : wx z 5 122 126 [(0, .inr (.inr (.ref 61))), (3, .inl (b3)), (4, .inl (b4))] [] σ (fun v σ' => v = none ∧ sg_F [64, 78, 79, 80, 81, 82, 83, 85, 86, 87, 8061, 11061, 11077, 12077, 13077, 14077, 15077, 16077, 17077, 18077, 19077] σ σ' ∧ Q σ') := by
  unfold V_mFinishTwo_276 at w
  refine wk_b tt_122 3 (pc' := 130) (ls' := [(0, .inr (.inr (.ref 61))), (3, .inl (b3)), (4, .inl (b4))]) (st' := [.inl (b3), .inl (b4), .inr (.inr (.ref 61))]) (σ' := σ) rfl ?_
  refine wk_call tt_122 rfl rfl rfl rfl rfl tt_73 rfl (by decide) (w_fPack z σ (b4) (b3) _ rb4 rb3 w) (fun u6 σ2 hq4 => ?_)
  obtain ⟨rfl, hF3, w⟩ := hq4
  have w := w hF3
  refine wk_b tt_122 1 (pc' := 164) (ls' := [(0, .inr (.inr (.ref 61))), (3, .inl (b3)), (4, .inl (b4))]) (st' := []) (σ' := σ2) rfl ?_
  exact wk_rV tt_122 rfl rfl ⟨rfl, (sg_F_t (sg_F_r [64, 78, 79, 80, 81, 82, 83, 85, 86, 87, 8061, 11061, 11077, 12077, 13077, 14077, 15077, 16077, 17077, 18077, 19077] σ) (sg_F_m (L := [64, 78, 79, 80, 81, 82, 83, 85, 86, 87, 8061, 11061, 11077, 12077, 13077, 14077, 15077, 16077, 17077, 18077, 19077]) hF3 rfl)), w⟩
-- NestedVectors$Machine.finishTwo
def V_mFinishTwo_277 (σ : sg_S) (b3 : Int) (b4 : Int) (Q : sg_S → Prop) : Prop := V_fPermute σ (b4) (b3) (fun σ2 => sg_F [64, 75, 76, 78, 79, 80, 81, 82, 83, 85, 86, 87, 8061, 11061, 11077, 12077, 13077, 14077, 15077, 16077, 17077, 18077, 19077] σ σ2 → Q σ2)
set_option maxHeartbeats 4000000 in
set_option maxRecDepth 8000 in
theorem w_mFinishTwo_277 (z : Value) (σ : sg_S) (b3 : Int) (b4 : Int) (Q : sg_S → Prop) (rb3 : sg_R b3) (rb4 : sg_R b4) (w : V_mFinishTwo_277 σ b3 b4 Q) : wx z 5 122 136 [(0, .inr (.inr (.ref 61))), (3, .inl (b3)), (4, .inl (b4))] [] σ (fun v σ' => v = none ∧ sg_F [64, 75, 76, 78, 79, 80, 81, 82, 83, 85, 86, 87, 8061, 11061, 11077, 12077, 13077, 14077, 15077, 16077, 17077, 18077, 19077] σ σ' ∧ Q σ') := by
  unfold V_mFinishTwo_277 at w
  refine wk_b tt_122 3 (pc' := 140) (ls' := [(0, .inr (.inr (.ref 61))), (3, .inl (b3)), (4, .inl (b4))]) (st' := [.inl (b3), .inl (b4), .inr (.inr (.ref 61))]) (σ' := σ) rfl ?_
  refine wk_call tt_122 rfl rfl rfl rfl rfl tt_74 rfl (by decide) (w_fPermute z σ (b4) (b3) _ rb4 rb3 w) (fun u6 σ2 hq4 => ?_)
  obtain ⟨rfl, hF3, w⟩ := hq4
  have w := w hF3
  refine wk_b tt_122 1 (pc' := 164) (ls' := [(0, .inr (.inr (.ref 61))), (3, .inl (b3)), (4, .inl (b4))]) (st' := []) (σ' := σ2) rfl ?_
  exact wk_rV tt_122 rfl rfl ⟨rfl, (sg_F_t (sg_F_r [64, 75, 76, 78, 79, 80, 81, 82, 83, 85, 86, 87, 8061, 11061, 11077, 12077, 13077, 14077, 15077, 16077, 17077, 18077, 19077] σ) (sg_F_m (L := [64, 75, 76, 78, 79, 80, 81, 82, 83, 85, 86, 87, 8061, 11061, 11077, 12077, 13077, 14077, 15077, 16077, 17077, 18077, 19077]) hF3 rfl)), w⟩
-- NestedVectors$Machine.finishTwo
def V_mFinishTwo_278 (σ : sg_S) (b3 : Int) (b4 : Int) (Q : sg_S → Prop) : Prop := V_fDivide σ (b4) (b3) (fun σ2 => sg_F [64, 78, 79, 80, 81, 82, 83, 84, 85, 86, 87, 8061, 11061, 11077, 12077, 13077, 14077, 15077, 16077, 17077, 18077, 19077] σ σ2 → Q σ2)
set_option maxHeartbeats 4000000 in
set_option maxRecDepth 8000 in
theorem w_mFinishTwo_278 (z : Value) (σ : sg_S) (b3 : Int) (b4 : Int) (Q : sg_S → Prop) (rb3 : sg_R b3) (rb4 : sg_R b4) (w : V_mFinishTwo_278 σ b3 b4 Q) : wx z 5 122 146 [(0, .inr (.inr (.ref 61))), (3, .inl (b3)), (4, .inl (b4))] [] σ (fun v σ' => v = none ∧ sg_F [64, 78, 79, 80, 81, 82, 83, 84, 85, 86, 87, 8061, 11061, 11077, 12077, 13077, 14077, 15077, 16077, 17077, 18077, 19077] σ σ' ∧ Q σ') := by
  unfold V_mFinishTwo_278 at w
  refine wk_b tt_122 3 (pc' := 150) (ls' := [(0, .inr (.inr (.ref 61))), (3, .inl (b3)), (4, .inl (b4))]) (st' := [.inl (b3), .inl (b4), .inr (.inr (.ref 61))]) (σ' := σ) rfl ?_
  refine wk_call tt_122 rfl rfl rfl rfl rfl tt_60 rfl (by decide) (w_fDivide z σ (b4) (b3) _ rb4 rb3 w) (fun u6 σ2 hq4 => ?_)
  obtain ⟨rfl, hF3, w⟩ := hq4
  have w := w hF3
  refine wk_b tt_122 1 (pc' := 164) (ls' := [(0, .inr (.inr (.ref 61))), (3, .inl (b3)), (4, .inl (b4))]) (st' := []) (σ' := σ2) rfl ?_
  exact wk_rV tt_122 rfl rfl ⟨rfl, (sg_F_t (sg_F_r [64, 78, 79, 80, 81, 82, 83, 84, 85, 86, 87, 8061, 11061, 11077, 12077, 13077, 14077, 15077, 16077, 17077, 18077, 19077] σ) (sg_F_m (L := [64, 78, 79, 80, 81, 82, 83, 84, 85, 86, 87, 8061, 11061, 11077, 12077, 13077, 14077, 15077, 16077, 17077, 18077, 19077]) hF3 rfl)), w⟩
-- NestedVectors$Machine.finishTwo
def V_mFinishTwo_d (σ : sg_S) (b2 : Int) (b3 : Int) (b4 : Int) (Q : sg_S → Prop) : Prop := V_fCombine σ (b2) (b4) (b3) (fun σ2 => sg_F [64, 78, 79, 80, 81, 82, 83, 85, 86, 87, 8061, 11061, 11077, 12077, 13077, 14077, 15077, 16077, 17077, 18077, 19077] σ σ2 → Q σ2)
set_option maxHeartbeats 4000000 in
set_option maxRecDepth 8000 in
theorem w_mFinishTwo_d (z : Value) (σ : sg_S) (b2 : Int) (b3 : Int) (b4 : Int) (Q : sg_S → Prop) (rb2 : sg_R b2) (rb3 : sg_R b3) (rb4 : sg_R b4) (w : V_mFinishTwo_d σ b2 b3 b4 Q) : wx z 5 122 156 [(0, .inr (.inr (.ref 61))), (2, .inl (b2)), (3, .inl (b3)), (4, .inl (b4))] [] σ (fun v σ' => v = none ∧ sg_F [64, 78, 79, 80, 81, 82, 83, 85, 86, 87, 8061, 11061, 11077, 12077, 13077, 14077, 15077, 16077, 17077, 18077, 19077] σ σ' ∧ Q σ') := by
  unfold V_mFinishTwo_d at w
  refine wk_b tt_122 4 (pc' := 161) (ls' := [(0, .inr (.inr (.ref 61))), (2, .inl (b2)), (3, .inl (b3)), (4, .inl (b4))]) (st' := [.inl (b3), .inl (b4), .inl (b2), .inr (.inr (.ref 61))]) (σ' := σ) rfl ?_
  refine wk_call tt_122 rfl rfl rfl rfl rfl tt_57 rfl (by decide) (w_fCombine z σ (b2) (b4) (b3) _ rb2 rb4 rb3 w) (fun u6 σ2 hq4 => ?_)
  obtain ⟨rfl, hF3, w⟩ := hq4
  have w := w hF3
  exact wk_rV tt_122 rfl rfl ⟨rfl, (sg_F_t (sg_F_r [64, 78, 79, 80, 81, 82, 83, 85, 86, 87, 8061, 11061, 11077, 12077, 13077, 14077, 15077, 16077, 17077, 18077, 19077] σ) (sg_F_m (L := [64, 78, 79, 80, 81, 82, 83, 85, 86, 87, 8061, 11061, 11077, 12077, 13077, 14077, 15077, 16077, 17077, 18077, 19077]) hF3 rfl)), w⟩
-- NestedVectors$Machine.finishTwo
def V_mFinishTwo (σ : sg_S) (a1 : Int) (Q : sg_S → Prop) : Prop := V_mPop σ  (fun q1 σ2 => sg_R q1 → sg_F [8061] σ σ2 → V_mPop σ2  (fun q7 σ8 => sg_R q7 → sg_F [8061] σ2 σ8 → ∀ σ13, σ13 = (sg_w σ8 61 9 ((sx_at σ 6 200 (a1)))) → (((sx_at σ 3 200 (a1)) = 91 → V_mFinishTwo_91 σ13 (q1) (q7) Q) ∧ (¬ (sx_at σ 3 200 (a1)) = 91 → (((sx_at σ 3 200 (a1)) = 268 → V_mFinishTwo_268 σ13 (q1) (q7) Q) ∧ (¬ (sx_at σ 3 200 (a1)) = 268 → (((sx_at σ 3 200 (a1)) = 274 → V_mFinishTwo_274 σ13 (q1) (q7) Q) ∧ (¬ (sx_at σ 3 200 (a1)) = 274 → (((sx_at σ 3 200 (a1)) = 276 → V_mFinishTwo_276 σ13 (q1) (q7) Q) ∧ (¬ (sx_at σ 3 200 (a1)) = 276 → (((sx_at σ 3 200 (a1)) = 277 → V_mFinishTwo_277 σ13 (q1) (q7) Q) ∧ (¬ (sx_at σ 3 200 (a1)) = 277 → (((sx_at σ 3 200 (a1)) = 278 → V_mFinishTwo_278 σ13 (q1) (q7) Q) ∧ (¬ (sx_at σ 3 200 (a1)) = 278 → V_mFinishTwo_d σ13 ((sx_at σ 3 200 (a1))) (q1) (q7) Q))))))))))))))
set_option maxHeartbeats 4000000 in
set_option maxRecDepth 8000 in
theorem w_mFinishTwo (z : Value) (σ : sg_S) (a1 : Int) (Q : sg_S → Prop) (ra1 : sg_R a1) (w : V_mFinishTwo σ a1 Q) : wx z 5 122 0 [(0, .inr (.inr (.ref 61))), (1, .inl (a1))] [] σ (fun v σ' => v = none ∧ sg_F [64, 75, 76, 78, 79, 80, 81, 82, 83, 84, 85, 86, 87, 8061, 10061, 11061, 11077, 12077, 13077, 14077, 15077, 16077, 17077, 18077, 19077] σ σ' ∧ Q σ') := by
  unfold V_mFinishTwo at w
  refine wk_b tt_122 4 (pc' := 8) (ls' := [(0, .inr (.inr (.ref 61))), (1, .inl (a1))]) (st' := [.inl (a1), .inr (.inr (.ref 3))]) (σ' := σ) rfl ?_
  refine wk_callp tt_122 rfl rfl rfl rfl rfl tt_5 rfl (by decide) (at_i0 z σ 3 200 (a1) rfl (by decide) ra1) ?_
  show wx z 5 122 11 [(0, .inr (.inr (.ref 61))), (1, .inl (a1))] [.inl ((sx_at σ 3 200 (a1)))] σ (fun v σ' => v = none ∧ sg_F [64, 75, 76, 78, 79, 80, 81, 82, 83, 84, 85, 86, 87, 8061, 10061, 11061, 11077, 12077, 13077, 14077, 15077, 16077, 17077, 18077, 19077] σ σ' ∧ Q σ')
  refine wk_b tt_122 2 (pc' := 13) (ls' := [(2, .inl ((sx_at σ 3 200 (a1)))), (0, .inr (.inr (.ref 61))), (1, .inl (a1))]) (st' := [.inr (.inr (.ref 61))]) (σ' := σ) rfl ?_
  refine wk_call tt_122 rfl rfl rfl rfl rfl tt_124 rfl (by decide) (w_mPop z σ  _  w) (fun u6 σ2 hq4 => ?_)
  obtain ⟨q1, rfl, r5, hF3, w⟩ := hq4
  have w := w r5 hF3
  refine wk_b tt_122 2 (pc' := 18) (ls' := [(3, .inl (q1)), (2, .inl ((sx_at σ 3 200 (a1)))), (0, .inr (.inr (.ref 61))), (1, .inl (a1))]) (st' := [.inr (.inr (.ref 61))]) (σ' := σ2) rfl ?_
  refine wk_call tt_122 rfl rfl rfl rfl rfl tt_124 rfl (by decide) (w_mPop z σ2  _  w) (fun u12 σ8 hq10 => ?_)
  obtain ⟨q7, rfl, r11, hF9, w⟩ := hq10
  have w := w r11 hF9
  refine wk_b tt_122 6 (pc' := 32) (ls' := [(4, .inl (q7)), (3, .inl (q1)), (2, .inl ((sx_at σ 3 200 (a1)))), (0, .inr (.inr (.ref 61))), (1, .inl (a1))]) (st' := [.inl (a1), .inr (.inr (.ref 6)), .inr (.inr (.ref 61))]) (σ' := σ8) rfl ?_
  refine wk_callp tt_122 rfl rfl rfl rfl rfl tt_5 rfl (by decide) (at_i0 z σ8 6 200 (a1) rfl (by decide) ra1) ?_
  show wx z 5 122 35 [(4, .inl (q7)), (3, .inl (q1)), (2, .inl ((sx_at σ 3 200 (a1)))), (0, .inr (.inr (.ref 61))), (1, .inl (a1))] [.inl ((sx_at σ8 6 200 (a1))), .inr (.inr (.ref 61))] σ8 (fun v σ' => v = none ∧ sg_F [64, 75, 76, 78, 79, 80, 81, 82, 83, 84, 85, 86, 87, 8061, 10061, 11061, 11077, 12077, 13077, 14077, 15077, 16077, 17077, 18077, 19077] σ σ' ∧ Q σ')
  rw [sx_F (a := 6) (n := 200) (i := (a1)) hF9 rfl, sx_F (a := 6) (n := 200) (i := (a1)) hF3 rfl]
  refine wk_b tt_122 1 (pc' := 38) (ls' := [(4, .inl (q7)), (3, .inl (q1)), (2, .inl ((sx_at σ 3 200 (a1)))), (0, .inr (.inr (.ref 61))), (1, .inl (a1))]) (st' := []) (σ' := (sg_w σ8 61 9 ((sx_at σ 6 200 (a1))))) rfl ?_
  generalize hs14 : (sg_w σ8 61 9 ((sx_at σ 6 200 (a1)))) = σ13
  have w := w σ13 hs14.symm
  have hF15 : sg_F [10061] σ8 σ13 := by rw [← hs14]; exact sg_F_w (sg_F_r _ _) rfl _
  refine wk_b tt_122 1 (pc' := 39) (ls' := [(4, .inl (q7)), (3, .inl (q1)), (2, .inl ((sx_at σ 3 200 (a1)))), (0, .inr (.inr (.ref 61))), (1, .inl (a1))]) (st' := [.inl ((sx_at σ 3 200 (a1)))]) (σ' := σ13) rfl ?_
  by_cases e16 : (sx_at σ 3 200 (a1)) = 91
  · have w := w.1 e16
    refine wk_lw tt_122 (off := 57) (tgt := 96) rfl (by decide) (sx_R ..) (by rw [e16]; decide) rfl ?_
    refine wk_ls [(0, .inr (.inr (.ref 61))), (3, .inl (q1)), (4, .inl (q7))] rfl ⟨rfl, rfl, rfl, trivial⟩ ?_
    exact wk_post (wk_d (by decide) (w_mFinishTwo_91 z σ13 (q1) (q7) Q r5 r11 w)) (fun v σ' ⟨e, hF, hQ⟩ => ⟨e, sg_F_t (sg_F_t (sg_F_t (sg_F_t (sg_F_r [64, 75, 76, 78, 79, 80, 81, 82, 83, 84, 85, 86, 87, 8061, 10061, 11061, 11077, 12077, 13077, 14077, 15077, 16077, 17077, 18077, 19077] σ) (sg_F_m (L := [64, 75, 76, 78, 79, 80, 81, 82, 83, 84, 85, 86, 87, 8061, 10061, 11061, 11077, 12077, 13077, 14077, 15077, 16077, 17077, 18077, 19077]) hF3 rfl)) (sg_F_m (L := [64, 75, 76, 78, 79, 80, 81, 82, 83, 84, 85, 86, 87, 8061, 10061, 11061, 11077, 12077, 13077, 14077, 15077, 16077, 17077, 18077, 19077]) hF9 rfl)) (sg_F_m (L := [64, 75, 76, 78, 79, 80, 81, 82, 83, 84, 85, 86, 87, 8061, 10061, 11061, 11077, 12077, 13077, 14077, 15077, 16077, 17077, 18077, 19077]) hF15 rfl)) (sg_F_m hF rfl), hQ⟩)
  have w := w.2 e16
  by_cases e18 : (sx_at σ 3 200 (a1)) = 268
  · have w := w.1 e18
    refine wk_lw tt_122 (off := 67) (tgt := 106) rfl (by decide) (sx_R ..) (by rw [e18]; decide) rfl ?_
    refine wk_ls [(0, .inr (.inr (.ref 61))), (3, .inl (q1)), (4, .inl (q7))] rfl ⟨rfl, rfl, rfl, trivial⟩ ?_
    exact wk_post (wk_d (by decide) (w_mFinishTwo_268 z σ13 (q1) (q7) Q r5 r11 w)) (fun v σ' ⟨e, hF, hQ⟩ => ⟨e, sg_F_t (sg_F_t (sg_F_t (sg_F_t (sg_F_r [64, 75, 76, 78, 79, 80, 81, 82, 83, 84, 85, 86, 87, 8061, 10061, 11061, 11077, 12077, 13077, 14077, 15077, 16077, 17077, 18077, 19077] σ) (sg_F_m (L := [64, 75, 76, 78, 79, 80, 81, 82, 83, 84, 85, 86, 87, 8061, 10061, 11061, 11077, 12077, 13077, 14077, 15077, 16077, 17077, 18077, 19077]) hF3 rfl)) (sg_F_m (L := [64, 75, 76, 78, 79, 80, 81, 82, 83, 84, 85, 86, 87, 8061, 10061, 11061, 11077, 12077, 13077, 14077, 15077, 16077, 17077, 18077, 19077]) hF9 rfl)) (sg_F_m (L := [64, 75, 76, 78, 79, 80, 81, 82, 83, 84, 85, 86, 87, 8061, 10061, 11061, 11077, 12077, 13077, 14077, 15077, 16077, 17077, 18077, 19077]) hF15 rfl)) (sg_F_m hF rfl), hQ⟩)
  have w := w.2 e18
  by_cases e20 : (sx_at σ 3 200 (a1)) = 274
  · have w := w.1 e20
    refine wk_lw tt_122 (off := 77) (tgt := 116) rfl (by decide) (sx_R ..) (by rw [e20]; decide) rfl ?_
    refine wk_ls [(0, .inr (.inr (.ref 61))), (3, .inl (q1)), (4, .inl (q7))] rfl ⟨rfl, rfl, rfl, trivial⟩ ?_
    exact wk_post (wk_d (by decide) (w_mFinishTwo_274 z σ13 (q1) (q7) Q r5 r11 w)) (fun v σ' ⟨e, hF, hQ⟩ => ⟨e, sg_F_t (sg_F_t (sg_F_t (sg_F_t (sg_F_r [64, 75, 76, 78, 79, 80, 81, 82, 83, 84, 85, 86, 87, 8061, 10061, 11061, 11077, 12077, 13077, 14077, 15077, 16077, 17077, 18077, 19077] σ) (sg_F_m (L := [64, 75, 76, 78, 79, 80, 81, 82, 83, 84, 85, 86, 87, 8061, 10061, 11061, 11077, 12077, 13077, 14077, 15077, 16077, 17077, 18077, 19077]) hF3 rfl)) (sg_F_m (L := [64, 75, 76, 78, 79, 80, 81, 82, 83, 84, 85, 86, 87, 8061, 10061, 11061, 11077, 12077, 13077, 14077, 15077, 16077, 17077, 18077, 19077]) hF9 rfl)) (sg_F_m (L := [64, 75, 76, 78, 79, 80, 81, 82, 83, 84, 85, 86, 87, 8061, 10061, 11061, 11077, 12077, 13077, 14077, 15077, 16077, 17077, 18077, 19077]) hF15 rfl)) (sg_F_m hF rfl), hQ⟩)
  have w := w.2 e20
  by_cases e22 : (sx_at σ 3 200 (a1)) = 276
  · have w := w.1 e22
    refine wk_lw tt_122 (off := 87) (tgt := 126) rfl (by decide) (sx_R ..) (by rw [e22]; decide) rfl ?_
    refine wk_ls [(0, .inr (.inr (.ref 61))), (3, .inl (q1)), (4, .inl (q7))] rfl ⟨rfl, rfl, rfl, trivial⟩ ?_
    exact wk_post (wk_d (by decide) (w_mFinishTwo_276 z σ13 (q1) (q7) Q r5 r11 w)) (fun v σ' ⟨e, hF, hQ⟩ => ⟨e, sg_F_t (sg_F_t (sg_F_t (sg_F_t (sg_F_r [64, 75, 76, 78, 79, 80, 81, 82, 83, 84, 85, 86, 87, 8061, 10061, 11061, 11077, 12077, 13077, 14077, 15077, 16077, 17077, 18077, 19077] σ) (sg_F_m (L := [64, 75, 76, 78, 79, 80, 81, 82, 83, 84, 85, 86, 87, 8061, 10061, 11061, 11077, 12077, 13077, 14077, 15077, 16077, 17077, 18077, 19077]) hF3 rfl)) (sg_F_m (L := [64, 75, 76, 78, 79, 80, 81, 82, 83, 84, 85, 86, 87, 8061, 10061, 11061, 11077, 12077, 13077, 14077, 15077, 16077, 17077, 18077, 19077]) hF9 rfl)) (sg_F_m (L := [64, 75, 76, 78, 79, 80, 81, 82, 83, 84, 85, 86, 87, 8061, 10061, 11061, 11077, 12077, 13077, 14077, 15077, 16077, 17077, 18077, 19077]) hF15 rfl)) (sg_F_m hF rfl), hQ⟩)
  have w := w.2 e22
  by_cases e24 : (sx_at σ 3 200 (a1)) = 277
  · have w := w.1 e24
    refine wk_lw tt_122 (off := 97) (tgt := 136) rfl (by decide) (sx_R ..) (by rw [e24]; decide) rfl ?_
    refine wk_ls [(0, .inr (.inr (.ref 61))), (3, .inl (q1)), (4, .inl (q7))] rfl ⟨rfl, rfl, rfl, trivial⟩ ?_
    exact wk_post (wk_d (by decide) (w_mFinishTwo_277 z σ13 (q1) (q7) Q r5 r11 w)) (fun v σ' ⟨e, hF, hQ⟩ => ⟨e, sg_F_t (sg_F_t (sg_F_t (sg_F_t (sg_F_r [64, 75, 76, 78, 79, 80, 81, 82, 83, 84, 85, 86, 87, 8061, 10061, 11061, 11077, 12077, 13077, 14077, 15077, 16077, 17077, 18077, 19077] σ) (sg_F_m (L := [64, 75, 76, 78, 79, 80, 81, 82, 83, 84, 85, 86, 87, 8061, 10061, 11061, 11077, 12077, 13077, 14077, 15077, 16077, 17077, 18077, 19077]) hF3 rfl)) (sg_F_m (L := [64, 75, 76, 78, 79, 80, 81, 82, 83, 84, 85, 86, 87, 8061, 10061, 11061, 11077, 12077, 13077, 14077, 15077, 16077, 17077, 18077, 19077]) hF9 rfl)) (sg_F_m (L := [64, 75, 76, 78, 79, 80, 81, 82, 83, 84, 85, 86, 87, 8061, 10061, 11061, 11077, 12077, 13077, 14077, 15077, 16077, 17077, 18077, 19077]) hF15 rfl)) (sg_F_m hF rfl), hQ⟩)
  have w := w.2 e24
  by_cases e26 : (sx_at σ 3 200 (a1)) = 278
  · have w := w.1 e26
    refine wk_lw tt_122 (off := 107) (tgt := 146) rfl (by decide) (sx_R ..) (by rw [e26]; decide) rfl ?_
    refine wk_ls [(0, .inr (.inr (.ref 61))), (3, .inl (q1)), (4, .inl (q7))] rfl ⟨rfl, rfl, rfl, trivial⟩ ?_
    exact wk_post (wk_d (by decide) (w_mFinishTwo_278 z σ13 (q1) (q7) Q r5 r11 w)) (fun v σ' ⟨e, hF, hQ⟩ => ⟨e, sg_F_t (sg_F_t (sg_F_t (sg_F_t (sg_F_r [64, 75, 76, 78, 79, 80, 81, 82, 83, 84, 85, 86, 87, 8061, 10061, 11061, 11077, 12077, 13077, 14077, 15077, 16077, 17077, 18077, 19077] σ) (sg_F_m (L := [64, 75, 76, 78, 79, 80, 81, 82, 83, 84, 85, 86, 87, 8061, 10061, 11061, 11077, 12077, 13077, 14077, 15077, 16077, 17077, 18077, 19077]) hF3 rfl)) (sg_F_m (L := [64, 75, 76, 78, 79, 80, 81, 82, 83, 84, 85, 86, 87, 8061, 10061, 11061, 11077, 12077, 13077, 14077, 15077, 16077, 17077, 18077, 19077]) hF9 rfl)) (sg_F_m (L := [64, 75, 76, 78, 79, 80, 81, 82, 83, 84, 85, 86, 87, 8061, 10061, 11061, 11077, 12077, 13077, 14077, 15077, 16077, 17077, 18077, 19077]) hF15 rfl)) (sg_F_m hF rfl), hQ⟩)
  have w := w.2 e26
  refine wk_lw tt_122 (off := 117) (tgt := 156) rfl (by decide) (sx_R ..) (by simp only [Op.lookupswitch.offset]; rw [if_neg (fun h => e16 h.symm), if_neg (fun h => e18 h.symm), if_neg (fun h => e20 h.symm), if_neg (fun h => e22 h.symm), if_neg (fun h => e24 h.symm), if_neg (fun h => e26 h.symm)]) rfl ?_
  refine wk_ls [(0, .inr (.inr (.ref 61))), (2, .inl ((sx_at σ 3 200 (a1)))), (3, .inl (q1)), (4, .inl (q7))] rfl ⟨rfl, rfl, rfl, rfl, trivial⟩ ?_
  exact wk_post (wk_d (by decide) (w_mFinishTwo_d z σ13 ((sx_at σ 3 200 (a1))) (q1) (q7) Q (sx_R ..) r5 r11 w)) (fun v σ' ⟨e, hF, hQ⟩ => ⟨e, sg_F_t (sg_F_t (sg_F_t (sg_F_t (sg_F_r [64, 75, 76, 78, 79, 80, 81, 82, 83, 84, 85, 86, 87, 8061, 10061, 11061, 11077, 12077, 13077, 14077, 15077, 16077, 17077, 18077, 19077] σ) (sg_F_m (L := [64, 75, 76, 78, 79, 80, 81, 82, 83, 84, 85, 86, 87, 8061, 10061, 11061, 11077, 12077, 13077, 14077, 15077, 16077, 17077, 18077, 19077]) hF3 rfl)) (sg_F_m (L := [64, 75, 76, 78, 79, 80, 81, 82, 83, 84, 85, 86, 87, 8061, 10061, 11061, 11077, 12077, 13077, 14077, 15077, 16077, 17077, 18077, 19077]) hF9 rfl)) (sg_F_m (L := [64, 75, 76, 78, 79, 80, 81, 82, 83, 84, 85, 86, 87, 8061, 10061, 11061, 11077, 12077, 13077, 14077, 15077, 16077, 17077, 18077, 19077]) hF15 rfl)) (sg_F_m hF rfl), hQ⟩)
-- NestedVectors$Machine.enter
def V_mEnter (σ : sg_S) (a1 : Int) (Q : sg_S → Prop) : Prop := (∃ (I4 : Nat → Int → sg_S → Prop) (X6 : sg_S → Prop), (∃ n, I4 n (0) σ) ∧ (∀ (n14 : Nat) (v1 : Int) (σ2 : sg_S), sg_R v1 → sg_F [62] σ σ2 → I4 n14 v1 σ2 → (((sx_at σ 23 12 (a1)) ≤ v1 → X6 σ2) ∧ (v1 < (sx_at σ 23 12 (a1)) → ((6 ≤ v1 → X6 σ2) ∧ (v1 < 6 → sg_R ((sx_at σ 24 12 (a1)) + v1) ∧ sg_R ((sg_g σ 61 7) - (sx_at σ 23 12 (a1))) ∧ sg_R (((sg_g σ 61 7) - (sx_at σ 23 12 (a1))) + v1) ∧ ∀ σ31, σ31 = (sx_put σ2 62 272 (((sx_at σ 24 12 (a1)) + v1)) ((sx_at σ 64 400 ((((sg_g σ 61 7) - (sx_at σ 23 12 (a1))) + v1))))) → sg_R (v1 + 1) ∧ (∃ m, m < n14 ∧ I4 m ((v1 + 1)) σ31)))))) ∧ (∀ (σ2 : sg_S), sg_F [62] σ σ2 → X6 σ2 → sg_R ((sg_g σ 61 7) - (sx_at σ 23 12 (a1))) ∧ ∀ σ17, σ17 = (sg_w σ2 61 7 (((sg_g σ 61 7) - (sx_at σ 23 12 (a1))))) → ∀ σ20, σ20 = (sx_put σ17 63 13 (a1) ((sg_g σ 61 8))) → ∀ σ23, σ23 = (sg_w σ20 61 8 ((sx_at σ 31 13 (a1)))) → Q σ23))
set_option maxHeartbeats 4000000 in
set_option maxRecDepth 8000 in
theorem w_mEnter (z : Value) (σ : sg_S) (a1 : Int) (Q : sg_S → Prop) (ra1 : sg_R a1) (w : V_mEnter σ a1 Q) : wx z 1 119 0 [(0, .inr (.inr (.ref 61))), (1, .inl (a1))] [] σ (fun v σ' => v = none ∧ sg_F [62, 63, 8061, 9061] σ σ' ∧ Q σ') := by
  unfold V_mEnter at w
  refine wk_b tt_119 4 (pc' := 8) (ls' := [(0, .inr (.inr (.ref 61))), (1, .inl (a1))]) (st' := [.inl (a1), .inr (.inr (.ref 23))]) (σ' := σ) rfl ?_
  refine wk_callp tt_119 rfl rfl rfl rfl rfl tt_5 rfl (by decide) (at_i0 z σ 23 12 (a1) rfl (by decide) ra1) ?_
  show wx z 1 119 11 [(0, .inr (.inr (.ref 61))), (1, .inl (a1))] [.inl ((sx_at σ 23 12 (a1)))] σ (fun v σ' => v = none ∧ sg_F [62, 63, 8061, 9061] σ σ' ∧ Q σ')
  refine wk_b tt_119 3 (pc' := 14) (ls' := [(3, .inl (0)), (2, .inl ((sx_at σ 23 12 (a1)))), (0, .inr (.inr (.ref 61))), (1, .inl (a1))]) (st' := []) (σ' := σ) rfl ?_
  obtain ⟨I4, X6, ⟨μ5, w11⟩, w12, w13⟩ := w
  have ex15 : ∀ (σ2 : sg_S), sg_F [62] σ σ2 → X6 σ2 → wx z 1 119 66 [(0, .inr (.inr (.ref 61))), (1, .inl (a1)), (2, .inl ((sx_at σ 23 12 (a1))))] [] σ2 (fun v σ' => v = none ∧ sg_F [62, 63, 8061, 9061] σ σ' ∧ Q σ') := by
    intro σ2 hF3 w
    have w := w13 σ2 hF3 w
    obtain ⟨c16, w⟩ := w
    refine wk_b tt_119 6 (pc' := 76) (ls' := [(0, .inr (.inr (.ref 61))), (1, .inl (a1)), (2, .inl ((sx_at σ 23 12 (a1))))]) (st' := []) (σ' := (sg_w σ2 61 7 (((sg_g σ2 61 7) - (sx_at σ 23 12 (a1)))))) rfl ?_
    rw [show (sg_g σ2 61 7) = (sg_g σ 61 7) from by rw [sg_F_ga hF3 rfl]]
    generalize hs18 : (sg_w σ2 61 7 (((sg_g σ 61 7) - (sx_at σ 23 12 (a1))))) = σ17
    have w := w σ17 hs18.symm
    have hF19 : sg_F [8061] σ2 σ17 := by rw [← hs18]; exact sg_F_w (sg_F_r _ _) rfl _
    refine wk_b tt_119 5 (pc' := 85) (ls' := [(0, .inr (.inr (.ref 61))), (1, .inl (a1)), (2, .inl ((sx_at σ 23 12 (a1))))]) (st' := [.inl ((sg_g σ17 61 8)), .inl (a1), .inr (.inr (.ref 63))]) (σ' := σ17) rfl ?_
    rw [show (sg_g σ17 61 8) = (sg_g σ 61 8) from by rw [sg_F_g hF19 rfl, sg_F_ga hF3 rfl]]
    refine wk_callp tt_119 rfl rfl rfl rfl rfl tt_21 rfl (by decide) (pt_i0 z σ17 63 13 (a1) ((sg_g σ 61 8)) rfl (by decide) ra1) ?_
    show wx z 1 119 88 [(0, .inr (.inr (.ref 61))), (1, .inl (a1)), (2, .inl ((sx_at σ 23 12 (a1))))] [] (sx_put σ17 63 13 (a1) ((sg_g σ 61 8))) (fun v σ' => v = none ∧ sg_F [62, 63, 8061, 9061] σ σ' ∧ Q σ')
    generalize hs21 : (sx_put σ17 63 13 (a1) ((sg_g σ 61 8))) = σ20
    have w := w σ20 hs21.symm
    have hF22 : sg_F [63] σ17 σ20 := by rw [← hs21]; exact sg_F_p (sg_F_r _ _) rfl _ _ _
    refine wk_b tt_119 5 (pc' := 97) (ls' := [(0, .inr (.inr (.ref 61))), (1, .inl (a1)), (2, .inl ((sx_at σ 23 12 (a1))))]) (st' := [.inl (a1), .inr (.inr (.ref 31)), .inr (.inr (.ref 61))]) (σ' := σ20) rfl ?_
    refine wk_callp tt_119 rfl rfl rfl rfl rfl tt_5 rfl (by decide) (at_i0 z σ20 31 13 (a1) rfl (by decide) ra1) ?_
    show wx z 1 119 100 [(0, .inr (.inr (.ref 61))), (1, .inl (a1)), (2, .inl ((sx_at σ 23 12 (a1))))] [.inl ((sx_at σ20 31 13 (a1))), .inr (.inr (.ref 61))] σ20 (fun v σ' => v = none ∧ sg_F [62, 63, 8061, 9061] σ σ' ∧ Q σ')
    rw [sx_F (a := 31) (n := 13) (i := (a1)) hF22 rfl, sx_F (a := 31) (n := 13) (i := (a1)) hF19 rfl, sx_F (a := 31) (n := 13) (i := (a1)) hF3 rfl]
    refine wk_b tt_119 1 (pc' := 103) (ls' := [(0, .inr (.inr (.ref 61))), (1, .inl (a1)), (2, .inl ((sx_at σ 23 12 (a1))))]) (st' := []) (σ' := (sg_w σ20 61 8 ((sx_at σ 31 13 (a1))))) rfl ?_
    generalize hs24 : (sg_w σ20 61 8 ((sx_at σ 31 13 (a1)))) = σ23
    have w := w σ23 hs24.symm
    have hF25 : sg_F [9061] σ20 σ23 := by rw [← hs24]; exact sg_F_w (sg_F_r _ _) rfl _
    exact wk_rV tt_119 rfl rfl ⟨rfl, (sg_F_t (sg_F_t (sg_F_t (sg_F_t (sg_F_r [62, 63, 8061, 9061] σ) (sg_F_m (L := [62, 63, 8061, 9061]) hF3 rfl)) (sg_F_m (L := [62, 63, 8061, 9061]) hF19 rfl)) (sg_F_m (L := [62, 63, 8061, 9061]) hF22 rfl)) (sg_F_m (L := [62, 63, 8061, 9061]) hF25 rfl)), w⟩
  have lp10 : ∀ (n14 : Nat) (v1 : Int) (σ2 : sg_S), sg_R v1 → sg_F [62] σ σ2 → I4 n14 v1 σ2 → wx z 1 119 14 [(0, .inr (.inr (.ref 61))), (1, .inl (a1)), (2, .inl ((sx_at σ 23 12 (a1)))), (3, .inl (v1))] [] σ2 (fun v σ' => v = none ∧ sg_F [62, 63, 8061, 9061] σ σ' ∧ Q σ') := by
    intro n14
    induction n14 using Nat.strongRecOn with
    | _ n14 ih8 =>
      intro v1 σ2 r7 hF3 w
      have w := w12 n14 v1 σ2 r7 hF3 w
      refine wk_b tt_119 2 (pc' := 16) (ls' := [(0, .inr (.inr (.ref 61))), (1, .inl (a1)), (2, .inl ((sx_at σ 23 12 (a1)))), (3, .inl (v1))]) (st' := [.inl ((sx_at σ 23 12 (a1))), .inl (v1)]) (σ' := σ2) rfl ?_
      refine wk_if2 tt_119 (tgt := 66) rfl rfl r7 (sx_R ..) (fun (h26 : (sx_at σ 23 12 (a1)) ≤ v1) => ?_) (fun (h26 : v1 < (sx_at σ 23 12 (a1))) => ?_)
      ·
        have w := w.1 h26
        exact wk_ls [(0, .inr (.inr (.ref 61))), (1, .inl (a1)), (2, .inl ((sx_at σ 23 12 (a1))))] rfl ⟨rfl, rfl, rfl, trivial⟩ (ex15  σ2  (sg_F_t (sg_F_r [62] σ) (sg_F_m (L := [62]) hF3 rfl)) w)
      ·
        have w := w.2 h26
        refine wk_b tt_119 2 (pc' := 22) (ls' := [(0, .inr (.inr (.ref 61))), (1, .inl (a1)), (2, .inl ((sx_at σ 23 12 (a1)))), (3, .inl (v1))]) (st' := [.inl (6), .inl (v1)]) (σ' := σ2) rfl ?_
        refine wk_if2 tt_119 (tgt := 66) rfl rfl r7 (by decide) (fun (h27 : 6 ≤ v1) => ?_) (fun (h27 : v1 < 6) => ?_)
        ·
          have w := w.1 h27
          exact wk_ls [(0, .inr (.inr (.ref 61))), (1, .inl (a1)), (2, .inl ((sx_at σ 23 12 (a1))))] rfl ⟨rfl, rfl, rfl, trivial⟩ (ex15  σ2  (sg_F_t (sg_F_r [62] σ) (sg_F_m (L := [62]) hF3 rfl)) w)
        ·
          have w := w.2 h27
          refine wk_b tt_119 6 (pc' := 37) (ls' := [(0, .inr (.inr (.ref 61))), (1, .inl (a1)), (2, .inl ((sx_at σ 23 12 (a1)))), (3, .inl (v1))]) (st' := [.inl (a1), .inr (.inr (.ref 24)), .inr (.inr (.ref 62))]) (σ' := σ2) rfl ?_
          refine wk_callp tt_119 rfl rfl rfl rfl rfl tt_5 rfl (by decide) (at_i0 z σ2 24 12 (a1) rfl (by decide) ra1) ?_
          show wx z 1 119 40 [(0, .inr (.inr (.ref 61))), (1, .inl (a1)), (2, .inl ((sx_at σ 23 12 (a1)))), (3, .inl (v1))] [.inl ((sx_at σ2 24 12 (a1))), .inr (.inr (.ref 62))] σ2 (fun v σ' => v = none ∧ sg_F [62, 63, 8061, 9061] σ σ' ∧ Q σ')
          rw [sx_F (a := 24) (n := 12) (i := (a1)) hF3 rfl]
          obtain ⟨c28, w⟩ := w
          obtain ⟨c29, w⟩ := w
          obtain ⟨c30, w⟩ := w
          refine wk_b tt_119 10 (pc' := 54) (ls' := [(0, .inr (.inr (.ref 61))), (1, .inl (a1)), (2, .inl ((sx_at σ 23 12 (a1)))), (3, .inl (v1))]) (st' := [.inl ((((sg_g σ2 61 7) - (sx_at σ 23 12 (a1))) + v1)), .inr (.inr (.ref 64)), .inl (((sx_at σ 24 12 (a1)) + v1)), .inr (.inr (.ref 62))]) (σ' := σ2) rfl ?_
          rw [show (sg_g σ2 61 7) = (sg_g σ 61 7) from by rw [sg_F_ga hF3 rfl]]
          refine wk_callp tt_119 rfl rfl rfl rfl rfl tt_5 rfl (by decide) (at_i0 z σ2 64 400 ((((sg_g σ 61 7) - (sx_at σ 23 12 (a1))) + v1)) rfl (by decide) c30) ?_
          show wx z 1 119 57 [(0, .inr (.inr (.ref 61))), (1, .inl (a1)), (2, .inl ((sx_at σ 23 12 (a1)))), (3, .inl (v1))] [.inl ((sx_at σ2 64 400 ((((sg_g σ 61 7) - (sx_at σ 23 12 (a1))) + v1)))), .inl (((sx_at σ 24 12 (a1)) + v1)), .inr (.inr (.ref 62))] σ2 (fun v σ' => v = none ∧ sg_F [62, 63, 8061, 9061] σ σ' ∧ Q σ')
          rw [sx_F (a := 64) (n := 400) (i := ((((sg_g σ 61 7) - (sx_at σ 23 12 (a1))) + v1))) hF3 rfl]
          refine wk_callp tt_119 rfl rfl rfl rfl rfl tt_21 rfl (by decide) (pt_i0 z σ2 62 272 (((sx_at σ 24 12 (a1)) + v1)) ((sx_at σ 64 400 ((((sg_g σ 61 7) - (sx_at σ 23 12 (a1))) + v1)))) rfl (by decide) c28) ?_
          show wx z 1 119 60 [(0, .inr (.inr (.ref 61))), (1, .inl (a1)), (2, .inl ((sx_at σ 23 12 (a1)))), (3, .inl (v1))] [] (sx_put σ2 62 272 (((sx_at σ 24 12 (a1)) + v1)) ((sx_at σ 64 400 ((((sg_g σ 61 7) - (sx_at σ 23 12 (a1))) + v1))))) (fun v σ' => v = none ∧ sg_F [62, 63, 8061, 9061] σ σ' ∧ Q σ')
          generalize hs32 : (sx_put σ2 62 272 (((sx_at σ 24 12 (a1)) + v1)) ((sx_at σ 64 400 ((((sg_g σ 61 7) - (sx_at σ 23 12 (a1))) + v1))))) = σ31
          have w := w σ31 hs32.symm
          have hF33 : sg_F [62] σ2 σ31 := by rw [← hs32]; exact sg_F_p (sg_F_r _ _) rfl _ _ _
          obtain ⟨c34, w⟩ := w
          refine wk_b tt_119 2 (pc' := 14) (ls' := [(3, .inl ((v1 + 1))), (0, .inr (.inr (.ref 61))), (1, .inl (a1)), (2, .inl ((sx_at σ 23 12 (a1))))]) (st' := []) (σ' := σ31) rfl ?_
          obtain ⟨m35, hm35, w⟩ := w
          exact wk_ls [(0, .inr (.inr (.ref 61))), (1, .inl (a1)), (2, .inl ((sx_at σ 23 12 (a1)))), (3, .inl ((v1 + 1)))] rfl ⟨rfl, rfl, rfl, rfl, trivial⟩ (ih8 m35 hm35 ((v1 + 1)) σ31 c34 (sg_F_t (sg_F_t (sg_F_r [62] σ) (sg_F_m (L := [62]) hF3 rfl)) (sg_F_m (L := [62]) hF33 rfl)) w)
  exact wk_ls [(0, .inr (.inr (.ref 61))), (1, .inl (a1)), (2, .inl ((sx_at σ 23 12 (a1)))), (3, .inl (0))] rfl ⟨rfl, rfl, rfl, rfl, trivial⟩ (lp10 μ5 (0) σ (by decide) (sg_F_r _ _) w11)
