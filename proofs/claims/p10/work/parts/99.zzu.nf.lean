/-! What the methods of the nested run of the class ask for (5). -/
def V_mnRun (σ : sg_S) (a1 : Int) (Q : Int → sg_S → Prop) : Prop := V_mnStart σ  (fun σ2 => sg_F [47, 8045, 9045, 11045, 21045, 22045, 23045, 24045] σ σ2 → (∃ (I10 : Nat → Int → sg_S → Prop) (X12 : sg_S → Prop), (∃ n, I10 n (0) σ2) ∧ (∀ (n20 : Nat) (v7 : Int) (σ8 : sg_S), sg_R v7 → sg_F [46, 47, 48, 53, 54, 55, 56, 57, 58, 59, 60, 8045, 9045, 10045, 11045, 21045, 22045, 23045, 24045] σ2 σ8 → I10 n20 v7 σ8 → ((100000 ≤ v7 → X12 σ8) ∧ (v7 < 100000 → (((sg_g σ8 45 8) < 0 → X12 σ8) ∧ (0 ≤ (sg_g σ8 45 8) → ((¬ (sg_g σ8 45 10) = 0 → X12 σ8) ∧ ((sg_g σ8 45 10) = 0 → sg_R ((sg_g σ8 45 8) + 1) ∧ ∀ σ32, σ32 = (sg_w σ8 45 8 (((sg_g σ8 45 8) + 1))) → (∃ P35 : sg_S → Prop, (((sx_at σ 29 1013 ((sg_g σ8 45 8))) = 0 → V_nBegin σ32 ((sx_at σ 30 1013 ((sg_g σ8 45 8)))) (fun σ45 => sg_F [11045, 23045, 24045] σ32 σ45 → P35 σ45)) ∧ (¬ (sx_at σ 29 1013 ((sg_g σ8 45 8))) = 0 → (((sx_at σ 29 1013 ((sg_g σ8 45 8))) = 1 → V_mnFinish σ32 ((sx_at σ 30 1013 ((sg_g σ8 45 8)))) (fun σ53 => sg_F [48, 53, 54, 8045, 10045, 11045, 21045, 22045, 23045] σ32 σ53 → P35 σ53)) ∧ (¬ (sx_at σ 29 1013 ((sg_g σ8 45 8))) = 1 → (((sx_at σ 29 1013 ((sg_g σ8 45 8))) = 2 → V_mnFinishOne σ32 ((sx_at σ 30 1013 ((sg_g σ8 45 8)))) (fun σ61 => sg_F [48, 53, 54, 8045, 10045, 11045, 21045, 22045, 23045] σ32 σ61 → P35 σ61)) ∧ (¬ (sx_at σ 29 1013 ((sg_g σ8 45 8))) = 2 → (((sx_at σ 29 1013 ((sg_g σ8 45 8))) = 3 → V_mnFinishTwo σ32 ((sx_at σ 30 1013 ((sg_g σ8 45 8)))) (fun σ69 => sg_F [48, 53, 54, 55, 8045, 10045, 11045, 21045, 22045, 23045] σ32 σ69 → P35 σ69)) ∧ (¬ (sx_at σ 29 1013 ((sg_g σ8 45 8))) = 3 → (((sx_at σ 29 1013 ((sg_g σ8 45 8))) = 4 → V_mnPop σ32  (fun q76 σ77 => sg_R q76 → sg_F [8045] σ32 σ77 → ∀ σ82, σ82 = (sx_put σ77 46 272 ((sx_at σ 16 200 ((sx_at σ 30 1013 ((sg_g σ8 45 8)))))) (q76)) → P35 σ82)) ∧ (¬ (sx_at σ 29 1013 ((sg_g σ8 45 8))) = 4 → (((sx_at σ 29 1013 ((sg_g σ8 45 8))) = 5 → V_mnEnter σ32 ((sx_at σ 16 200 ((sx_at σ 30 1013 ((sg_g σ8 45 8)))))) (fun σ88 => sg_F [46, 47, 8045, 9045] σ32 σ88 → P35 σ88)) ∧ (¬ (sx_at σ 29 1013 ((sg_g σ8 45 8))) = 5 → (((sx_at σ 29 1013 ((sg_g σ8 45 8))) = 6 → ∀ σ95, σ95 = (sg_w σ32 45 8 ((sx_at σ8 47 13 ((sx_at σ 30 1013 ((sg_g σ8 45 8))))))) → P35 σ95) ∧ (¬ (sx_at σ 29 1013 ((sg_g σ8 45 8))) = 6 → (((sx_at σ 29 1013 ((sg_g σ8 45 8))) = 7 → V_nFork σ32 ((sx_at σ 30 1013 ((sg_g σ8 45 8)))) (fun σ101 => sg_F [8045, 9045] σ32 σ101 → P35 σ101)) ∧ (¬ (sx_at σ 29 1013 ((sg_g σ8 45 8))) = 7 → (((sx_at σ 29 1013 ((sg_g σ8 45 8))) = 8 → V_nTurn σ32 ((sx_at σ 30 1013 ((sg_g σ8 45 8)))) (fun σ109 => sg_F [9045] σ32 σ109 → P35 σ109)) ∧ (¬ (sx_at σ 29 1013 ((sg_g σ8 45 8))) = 8 → (((sx_at σ 29 1013 ((sg_g σ8 45 8))) = 9 → V_nJoin σ32 ((sx_at σ 30 1013 ((sg_g σ8 45 8)))) (fun σ117 => sg_F [] σ32 σ117 → P35 σ117)) ∧ (¬ (sx_at σ 29 1013 ((sg_g σ8 45 8))) = 9 → (((sx_at σ 29 1013 ((sg_g σ8 45 8))) = 10 → V_nOpen σ32 ((sx_at σ 30 1013 ((sg_g σ8 45 8)))) (fun σ125 => sg_F [46, 56, 57, 58, 59, 60, 9045, 11045, 24045] σ32 σ125 → P35 σ125)) ∧ (¬ (sx_at σ 29 1013 ((sg_g σ8 45 8))) = 10 → (((sx_at σ 29 1013 ((sg_g σ8 45 8))) = 11 → V_nSift σ32 ((sx_at σ 30 1013 ((sg_g σ8 45 8)))) (fun σ133 => sg_F [46, 57, 60, 8045, 9045, 24045] σ32 σ133 → P35 σ133)) ∧ (¬ (sx_at σ 29 1013 ((sg_g σ8 45 8))) = 11 → V_nNext σ32 ((sx_at σ 30 1013 ((sg_g σ8 45 8)))) (fun σ139 => sg_F [46, 57, 60, 9045, 24045] σ32 σ139 → P35 σ139))))))))))))))))))))))))) ∧ (∀ (σ36 : sg_S), sg_F [46, 47, 48, 53, 54, 55, 56, 57, 58, 59, 60, 8045, 9045, 10045, 11045, 21045, 22045, 23045, 24045] σ32 σ36 → P35 σ36 → sg_R (v7 + 1) ∧ (∃ m, m < n20 ∧ I10 m ((v7 + 1)) σ36)))))))))) ∧ (∀ (σ8 : sg_S), sg_F [46, 47, 48, 53, 54, 55, 56, 57, 58, 59, 60, 8045, 9045, 10045, 11045, 21045, 22045, 23045, 24045] σ2 σ8 → X12 σ8 → V_mnConclude σ8 (a1) (fun σ23 => sg_F [49, 50, 51, 52, 8045, 12045] σ8 σ23 → Q ((sg_g σ8 45 10)) σ23))))
set_option maxHeartbeats 4000000 in
set_option maxRecDepth 8000 in
theorem w_mnRun (z : Value) (σ : sg_S) (a1 : Int) (Q : Int → sg_S → Prop) (ra1 : sg_R a1) (w : V_mnRun σ a1 Q) : wx z 8 126 0 [(0, .inr (.inr (.ref 45))), (1, .inl (a1))] [] σ (fun v σ' => ∃ q, v = some (.inl q) ∧ sg_R q ∧ sg_F [46, 47, 48, 49, 50, 51, 52, 53, 54, 55, 56, 57, 58, 59, 60, 8045, 9045, 10045, 11045, 12045, 21045, 22045, 23045, 24045] σ σ' ∧ Q q σ') := by
  unfold V_mnRun at w
  refine wk_b tt_126 1 (pc' := 1) (ls' := [(0, .inr (.inr (.ref 45))), (1, .inl (a1))]) (st' := [.inr (.inr (.ref 45))]) (σ' := σ) rfl ?_
  refine wk_call tt_126 rfl rfl rfl rfl rfl tt_127 rfl (by decide) (w_mnStart z σ  _  w) (fun u6 σ2 hq4 => ?_)
  obtain ⟨rfl, hF3, w⟩ := hq4
  have w := w hF3
  refine wk_b tt_126 2 (pc' := 6) (ls' := [(2, .inl (0)), (0, .inr (.inr (.ref 45))), (1, .inl (a1))]) (st' := []) (σ' := σ2) rfl ?_
  obtain ⟨I10, X12, ⟨μ11, w17⟩, w18, w19⟩ := w
  have ex21 : ∀ (σ8 : sg_S), sg_F [46, 47, 48, 53, 54, 55, 56, 57, 58, 59, 60, 8045, 9045, 10045, 11045, 21045, 22045, 23045, 24045] σ2 σ8 → X12 σ8 → wx z 8 126 273 [(0, .inr (.inr (.ref 45))), (1, .inl (a1))] [] σ8 (fun v σ' => ∃ q, v = some (.inl q) ∧ sg_R q ∧ sg_F [46, 47, 48, 49, 50, 51, 52, 53, 54, 55, 56, 57, 58, 59, 60, 8045, 9045, 10045, 11045, 12045, 21045, 22045, 23045, 24045] σ σ' ∧ Q q σ') := by
    intro σ8 hF9 w
    have w := w19 σ8 hF9 w
    refine wk_b tt_126 2 (pc' := 275) (ls' := [(0, .inr (.inr (.ref 45))), (1, .inl (a1))]) (st' := [.inl (a1), .inr (.inr (.ref 45))]) (σ' := σ8) rfl ?_
    refine wk_call tt_126 rfl rfl rfl rfl rfl tt_118 rfl (by decide) (w_mnConclude z σ8 (a1) _ ra1 w) (fun u27 σ23 hq25 => ?_)
    obtain ⟨rfl, hF24, w⟩ := hq25
    have w := w hF24
    refine wk_b tt_126 2 (pc' := 282) (ls' := [(0, .inr (.inr (.ref 45))), (1, .inl (a1))]) (st' := [.inl ((sg_g σ23 45 10))]) (σ' := σ23) rfl ?_
    rw [show (sg_g σ23 45 10) = (sg_g σ8 45 10) from by rw [sg_F_g hF24 rfl]]
    exact wk_rI tt_126 rfl rfl ⟨_, rfl, (sg_Rg _ _ _), (sg_F_t (sg_F_t (sg_F_t (sg_F_r [46, 47, 48, 49, 50, 51, 52, 53, 54, 55, 56, 57, 58, 59, 60, 8045, 9045, 10045, 11045, 12045, 21045, 22045, 23045, 24045] σ) (sg_F_m (L := [46, 47, 48, 49, 50, 51, 52, 53, 54, 55, 56, 57, 58, 59, 60, 8045, 9045, 10045, 11045, 12045, 21045, 22045, 23045, 24045]) hF3 rfl)) (sg_F_m (L := [46, 47, 48, 49, 50, 51, 52, 53, 54, 55, 56, 57, 58, 59, 60, 8045, 9045, 10045, 11045, 12045, 21045, 22045, 23045, 24045]) hF9 rfl)) (sg_F_m (L := [46, 47, 48, 49, 50, 51, 52, 53, 54, 55, 56, 57, 58, 59, 60, 8045, 9045, 10045, 11045, 12045, 21045, 22045, 23045, 24045]) hF24 rfl)), w⟩
  have lp16 : ∀ (n20 : Nat) (v7 : Int) (σ8 : sg_S), sg_R v7 → sg_F [46, 47, 48, 53, 54, 55, 56, 57, 58, 59, 60, 8045, 9045, 10045, 11045, 21045, 22045, 23045, 24045] σ2 σ8 → I10 n20 v7 σ8 → wx z 8 126 6 [(0, .inr (.inr (.ref 45))), (1, .inl (a1)), (2, .inl (v7))] [] σ8 (fun v σ' => ∃ q, v = some (.inl q) ∧ sg_R q ∧ sg_F [46, 47, 48, 49, 50, 51, 52, 53, 54, 55, 56, 57, 58, 59, 60, 8045, 9045, 10045, 11045, 12045, 21045, 22045, 23045, 24045] σ σ' ∧ Q q σ') := by
    intro n20
    induction n20 using Nat.strongRecOn with
    | _ n20 ih14 =>
      intro v7 σ8 r13 hF9 w
      have w := w18 n20 v7 σ8 r13 hF9 w
      refine wk_b tt_126 2 (pc' := 9) (ls' := [(0, .inr (.inr (.ref 45))), (1, .inl (a1)), (2, .inl (v7))]) (st' := [.inl (100000), .inl (v7)]) (σ' := σ8) rfl ?_
      refine wk_if2 tt_126 (tgt := 273) rfl rfl r13 (by decide) (fun (h28 : 100000 ≤ v7) => ?_) (fun (h28 : v7 < 100000) => ?_)
      ·
        have w := w.1 h28
        exact wk_ls [(0, .inr (.inr (.ref 45))), (1, .inl (a1))] rfl ⟨rfl, rfl, trivial⟩ (ex21  σ8  (sg_F_t (sg_F_r [46, 47, 48, 53, 54, 55, 56, 57, 58, 59, 60, 8045, 9045, 10045, 11045, 21045, 22045, 23045, 24045] σ2) (sg_F_m (L := [46, 47, 48, 53, 54, 55, 56, 57, 58, 59, 60, 8045, 9045, 10045, 11045, 21045, 22045, 23045, 24045]) hF9 rfl)) w)
      ·
        have w := w.2 h28
        refine wk_b tt_126 2 (pc' := 16) (ls' := [(0, .inr (.inr (.ref 45))), (1, .inl (a1)), (2, .inl (v7))]) (st' := [.inl ((sg_g σ8 45 8))]) (σ' := σ8) rfl ?_
        refine wk_if tt_126 (tgt := 273) rfl rfl (sg_Rg _ _ _) (fun (h29 : (sg_g σ8 45 8) < 0) => ?_) (fun (h29 : 0 ≤ (sg_g σ8 45 8)) => ?_)
        ·
          have w := w.1 h29
          exact wk_ls [(0, .inr (.inr (.ref 45))), (1, .inl (a1))] rfl ⟨rfl, rfl, trivial⟩ (ex21  σ8  (sg_F_t (sg_F_r [46, 47, 48, 53, 54, 55, 56, 57, 58, 59, 60, 8045, 9045, 10045, 11045, 21045, 22045, 23045, 24045] σ2) (sg_F_m (L := [46, 47, 48, 53, 54, 55, 56, 57, 58, 59, 60, 8045, 9045, 10045, 11045, 21045, 22045, 23045, 24045]) hF9 rfl)) w)
        ·
          have w := w.2 h29
          refine wk_b tt_126 2 (pc' := 23) (ls' := [(0, .inr (.inr (.ref 45))), (1, .inl (a1)), (2, .inl (v7))]) (st' := [.inl ((sg_g σ8 45 10))]) (σ' := σ8) rfl ?_
          refine wk_if tt_126 (tgt := 273) rfl rfl (sg_Rg _ _ _) (fun (h30 : ¬ (sg_g σ8 45 10) = 0) => ?_) (fun (h30 : (sg_g σ8 45 10) = 0) => ?_)
          ·
            have w := w.1 h30
            exact wk_ls [(0, .inr (.inr (.ref 45))), (1, .inl (a1))] rfl ⟨rfl, rfl, trivial⟩ (ex21  σ8  (sg_F_t (sg_F_r [46, 47, 48, 53, 54, 55, 56, 57, 58, 59, 60, 8045, 9045, 10045, 11045, 21045, 22045, 23045, 24045] σ2) (sg_F_m (L := [46, 47, 48, 53, 54, 55, 56, 57, 58, 59, 60, 8045, 9045, 10045, 11045, 21045, 22045, 23045, 24045]) hF9 rfl)) w)
          ·
            have w := w.2 h30
            refine wk_b tt_126 5 (pc' := 37) (ls' := [(0, .inr (.inr (.ref 45))), (1, .inl (a1)), (2, .inl (v7))]) (st' := [.inl ((sg_g σ8 45 8)), .inr (.inr (.ref 30))]) (σ' := σ8) rfl ?_
            refine wk_callp tt_126 rfl rfl rfl rfl rfl tt_5 rfl (by decide) (at_i0 z σ8 30 1013 ((sg_g σ8 45 8)) rfl (by decide) (sg_Rg _ _ _)) ?_
            show wx z 8 126 40 [(0, .inr (.inr (.ref 45))), (1, .inl (a1)), (2, .inl (v7))] [.inl ((sx_at σ8 30 1013 ((sg_g σ8 45 8))))] σ8 (fun v σ' => ∃ q, v = some (.inl q) ∧ sg_R q ∧ sg_F [46, 47, 48, 49, 50, 51, 52, 53, 54, 55, 56, 57, 58, 59, 60, 8045, 9045, 10045, 11045, 12045, 21045, 22045, 23045, 24045] σ σ' ∧ Q q σ')
            rw [sx_F (a := 30) (n := 1013) (i := ((sg_g σ8 45 8))) hF9 rfl, sx_F (a := 30) (n := 1013) (i := ((sg_g σ8 45 8))) hF3 rfl]
            refine wk_b tt_126 6 (pc' := 52) (ls' := [(3, .inl ((sx_at σ 30 1013 ((sg_g σ8 45 8))))), (0, .inr (.inr (.ref 45))), (1, .inl (a1)), (2, .inl (v7))]) (st' := [.inl ((sg_g σ8 45 8)), .inr (.inr (.ref 29))]) (σ' := σ8) rfl ?_
            refine wk_callp tt_126 rfl rfl rfl rfl rfl tt_5 rfl (by decide) (at_i0 z σ8 29 1013 ((sg_g σ8 45 8)) rfl (by decide) (sg_Rg _ _ _)) ?_
            show wx z 8 126 55 [(3, .inl ((sx_at σ 30 1013 ((sg_g σ8 45 8))))), (0, .inr (.inr (.ref 45))), (1, .inl (a1)), (2, .inl (v7))] [.inl ((sx_at σ8 29 1013 ((sg_g σ8 45 8))))] σ8 (fun v σ' => ∃ q, v = some (.inl q) ∧ sg_R q ∧ sg_F [46, 47, 48, 49, 50, 51, 52, 53, 54, 55, 56, 57, 58, 59, 60, 8045, 9045, 10045, 11045, 12045, 21045, 22045, 23045, 24045] σ σ' ∧ Q q σ')
            rw [sx_F (a := 29) (n := 1013) (i := ((sg_g σ8 45 8))) hF9 rfl, sx_F (a := 29) (n := 1013) (i := ((sg_g σ8 45 8))) hF3 rfl]
            obtain ⟨c31, w⟩ := w
            refine wk_b tt_126 7 (pc' := 67) (ls' := [(4, .inl ((sx_at σ 29 1013 ((sg_g σ8 45 8))))), (3, .inl ((sx_at σ 30 1013 ((sg_g σ8 45 8))))), (0, .inr (.inr (.ref 45))), (1, .inl (a1)), (2, .inl (v7))]) (st' := []) (σ' := (sg_w σ8 45 8 (((sg_g σ8 45 8) + 1)))) rfl ?_
            generalize hs33 : (sg_w σ8 45 8 (((sg_g σ8 45 8) + 1))) = σ32
            have w := w σ32 hs33.symm
            have hF34 : sg_F [9045] σ8 σ32 := by rw [← hs33]; exact sg_F_w (sg_F_r _ _) rfl _
            refine wk_b tt_126 1 (pc' := 69) (ls' := [(4, .inl ((sx_at σ 29 1013 ((sg_g σ8 45 8))))), (3, .inl ((sx_at σ 30 1013 ((sg_g σ8 45 8))))), (0, .inr (.inr (.ref 45))), (1, .inl (a1)), (2, .inl (v7))]) (st' := [.inl ((sx_at σ 29 1013 ((sg_g σ8 45 8))))]) (σ' := σ32) rfl ?_
            obtain ⟨P35, w, w39⟩ := w
            have jn38 : ∀ (σ36 : sg_S), sg_F [46, 47, 48, 53, 54, 55, 56, 57, 58, 59, 60, 8045, 9045, 10045, 11045, 21045, 22045, 23045, 24045] σ32 σ36 → P35 σ36 → wx z 8 126 267 [(0, .inr (.inr (.ref 45))), (1, .inl (a1)), (2, .inl (v7))] [] σ36 (fun v σ' => ∃ q, v = some (.inl q) ∧ sg_R q ∧ sg_F [46, 47, 48, 49, 50, 51, 52, 53, 54, 55, 56, 57, 58, 59, 60, 8045, 9045, 10045, 11045, 12045, 21045, 22045, 23045, 24045] σ σ' ∧ Q q σ') := by
              intro σ36 hF37 w
              have w := w39 σ36 hF37 w
              obtain ⟨c40, w⟩ := w
              refine wk_b tt_126 2 (pc' := 6) (ls' := [(2, .inl ((v7 + 1))), (0, .inr (.inr (.ref 45))), (1, .inl (a1))]) (st' := []) (σ' := σ36) rfl ?_
              obtain ⟨m41, hm41, w⟩ := w
              exact wk_ls [(0, .inr (.inr (.ref 45))), (1, .inl (a1)), (2, .inl ((v7 + 1)))] rfl ⟨rfl, rfl, rfl, trivial⟩ (ih14 m41 hm41 ((v7 + 1)) σ36 c40 (sg_F_t (sg_F_t (sg_F_t (sg_F_r [46, 47, 48, 53, 54, 55, 56, 57, 58, 59, 60, 8045, 9045, 10045, 11045, 21045, 22045, 23045, 24045] σ2) (sg_F_m (L := [46, 47, 48, 53, 54, 55, 56, 57, 58, 59, 60, 8045, 9045, 10045, 11045, 21045, 22045, 23045, 24045]) hF9 rfl)) (sg_F_m (L := [46, 47, 48, 53, 54, 55, 56, 57, 58, 59, 60, 8045, 9045, 10045, 11045, 21045, 22045, 23045, 24045]) hF34 rfl)) (sg_F_m (L := [46, 47, 48, 53, 54, 55, 56, 57, 58, 59, 60, 8045, 9045, 10045, 11045, 21045, 22045, 23045, 24045]) hF37 rfl)) w)
            by_cases e42 : (sx_at σ 29 1013 ((sg_g σ8 45 8))) = 0
            · have w := w.1 e42
              refine wk_ts tt_126 (off := 63) (tgt := 132) rfl (sx_R ..) (by rw [e42]; decide) rfl ?_
              refine wk_b tt_126 2 (pc' := 134) (ls' := [(4, .inl ((sx_at σ 29 1013 ((sg_g σ8 45 8))))), (3, .inl ((sx_at σ 30 1013 ((sg_g σ8 45 8))))), (0, .inr (.inr (.ref 45))), (1, .inl (a1)), (2, .inl (v7))]) (st' := [.inl ((sx_at σ 30 1013 ((sg_g σ8 45 8)))), .inr (.inr (.ref 45))]) (σ' := σ32) rfl ?_
              refine wk_call tt_126 rfl rfl rfl rfl rfl tt_132 rfl (by decide) (w_nBegin z σ32 ((sx_at σ 30 1013 ((sg_g σ8 45 8)))) _ (sx_R ..) w) (fun u49 σ45 hq47 => ?_)
              obtain ⟨rfl, hF46, w⟩ := hq47
              have w := w hF46
              refine wk_b tt_126 1 (pc' := 267) (ls' := [(4, .inl ((sx_at σ 29 1013 ((sg_g σ8 45 8))))), (3, .inl ((sx_at σ 30 1013 ((sg_g σ8 45 8))))), (0, .inr (.inr (.ref 45))), (1, .inl (a1)), (2, .inl (v7))]) (st' := []) (σ' := σ45) rfl ?_
              exact wk_ls [(0, .inr (.inr (.ref 45))), (1, .inl (a1)), (2, .inl (v7))] rfl ⟨rfl, rfl, rfl, trivial⟩ (jn38 σ45 (sg_F_t (sg_F_r [46, 47, 48, 53, 54, 55, 56, 57, 58, 59, 60, 8045, 9045, 10045, 11045, 21045, 22045, 23045, 24045] σ32) (sg_F_m (L := [46, 47, 48, 53, 54, 55, 56, 57, 58, 59, 60, 8045, 9045, 10045, 11045, 21045, 22045, 23045, 24045]) hF46 rfl)) w)
            have w := w.2 e42
            by_cases e50 : (sx_at σ 29 1013 ((sg_g σ8 45 8))) = 1
            · have w := w.1 e50
              refine wk_ts tt_126 (off := 71) (tgt := 140) rfl (sx_R ..) (by rw [e50]; decide) rfl ?_
              refine wk_b tt_126 2 (pc' := 142) (ls' := [(4, .inl ((sx_at σ 29 1013 ((sg_g σ8 45 8))))), (3, .inl ((sx_at σ 30 1013 ((sg_g σ8 45 8))))), (0, .inr (.inr (.ref 45))), (1, .inl (a1)), (2, .inl (v7))]) (st' := [.inl ((sx_at σ 30 1013 ((sg_g σ8 45 8)))), .inr (.inr (.ref 45))]) (σ' := σ32) rfl ?_
              refine wk_call tt_126 rfl rfl rfl rfl rfl tt_120 rfl (by decide) (w_mnFinish z σ32 ((sx_at σ 30 1013 ((sg_g σ8 45 8)))) _ (sx_R ..) w) (fun u57 σ53 hq55 => ?_)
              obtain ⟨rfl, hF54, w⟩ := hq55
              have w := w hF54
              refine wk_b tt_126 1 (pc' := 267) (ls' := [(4, .inl ((sx_at σ 29 1013 ((sg_g σ8 45 8))))), (3, .inl ((sx_at σ 30 1013 ((sg_g σ8 45 8))))), (0, .inr (.inr (.ref 45))), (1, .inl (a1)), (2, .inl (v7))]) (st' := []) (σ' := σ53) rfl ?_
              exact wk_ls [(0, .inr (.inr (.ref 45))), (1, .inl (a1)), (2, .inl (v7))] rfl ⟨rfl, rfl, rfl, trivial⟩ (jn38 σ53 (sg_F_t (sg_F_r [46, 47, 48, 53, 54, 55, 56, 57, 58, 59, 60, 8045, 9045, 10045, 11045, 21045, 22045, 23045, 24045] σ32) (sg_F_m (L := [46, 47, 48, 53, 54, 55, 56, 57, 58, 59, 60, 8045, 9045, 10045, 11045, 21045, 22045, 23045, 24045]) hF54 rfl)) w)
            have w := w.2 e50
            by_cases e58 : (sx_at σ 29 1013 ((sg_g σ8 45 8))) = 2
            · have w := w.1 e58
              refine wk_ts tt_126 (off := 79) (tgt := 148) rfl (sx_R ..) (by rw [e58]; decide) rfl ?_
              refine wk_b tt_126 2 (pc' := 150) (ls' := [(4, .inl ((sx_at σ 29 1013 ((sg_g σ8 45 8))))), (3, .inl ((sx_at σ 30 1013 ((sg_g σ8 45 8))))), (0, .inr (.inr (.ref 45))), (1, .inl (a1)), (2, .inl (v7))]) (st' := [.inl ((sx_at σ 30 1013 ((sg_g σ8 45 8)))), .inr (.inr (.ref 45))]) (σ' := σ32) rfl ?_
              refine wk_call tt_126 rfl rfl rfl rfl rfl tt_121 rfl (by decide) (w_mnFinishOne z σ32 ((sx_at σ 30 1013 ((sg_g σ8 45 8)))) _ (sx_R ..) w) (fun u65 σ61 hq63 => ?_)
              obtain ⟨rfl, hF62, w⟩ := hq63
              have w := w hF62
              refine wk_b tt_126 1 (pc' := 267) (ls' := [(4, .inl ((sx_at σ 29 1013 ((sg_g σ8 45 8))))), (3, .inl ((sx_at σ 30 1013 ((sg_g σ8 45 8))))), (0, .inr (.inr (.ref 45))), (1, .inl (a1)), (2, .inl (v7))]) (st' := []) (σ' := σ61) rfl ?_
              exact wk_ls [(0, .inr (.inr (.ref 45))), (1, .inl (a1)), (2, .inl (v7))] rfl ⟨rfl, rfl, rfl, trivial⟩ (jn38 σ61 (sg_F_t (sg_F_r [46, 47, 48, 53, 54, 55, 56, 57, 58, 59, 60, 8045, 9045, 10045, 11045, 21045, 22045, 23045, 24045] σ32) (sg_F_m (L := [46, 47, 48, 53, 54, 55, 56, 57, 58, 59, 60, 8045, 9045, 10045, 11045, 21045, 22045, 23045, 24045]) hF62 rfl)) w)
            have w := w.2 e58
            by_cases e66 : (sx_at σ 29 1013 ((sg_g σ8 45 8))) = 3
            · have w := w.1 e66
              refine wk_ts tt_126 (off := 87) (tgt := 156) rfl (sx_R ..) (by rw [e66]; decide) rfl ?_
              refine wk_b tt_126 2 (pc' := 158) (ls' := [(4, .inl ((sx_at σ 29 1013 ((sg_g σ8 45 8))))), (3, .inl ((sx_at σ 30 1013 ((sg_g σ8 45 8))))), (0, .inr (.inr (.ref 45))), (1, .inl (a1)), (2, .inl (v7))]) (st' := [.inl ((sx_at σ 30 1013 ((sg_g σ8 45 8)))), .inr (.inr (.ref 45))]) (σ' := σ32) rfl ?_
              refine wk_call tt_126 rfl rfl rfl rfl rfl tt_122 rfl (by decide) (w_mnFinishTwo z σ32 ((sx_at σ 30 1013 ((sg_g σ8 45 8)))) _ (sx_R ..) w) (fun u73 σ69 hq71 => ?_)
              obtain ⟨rfl, hF70, w⟩ := hq71
              have w := w hF70
              refine wk_b tt_126 1 (pc' := 267) (ls' := [(4, .inl ((sx_at σ 29 1013 ((sg_g σ8 45 8))))), (3, .inl ((sx_at σ 30 1013 ((sg_g σ8 45 8))))), (0, .inr (.inr (.ref 45))), (1, .inl (a1)), (2, .inl (v7))]) (st' := []) (σ' := σ69) rfl ?_
              exact wk_ls [(0, .inr (.inr (.ref 45))), (1, .inl (a1)), (2, .inl (v7))] rfl ⟨rfl, rfl, rfl, trivial⟩ (jn38 σ69 (sg_F_t (sg_F_r [46, 47, 48, 53, 54, 55, 56, 57, 58, 59, 60, 8045, 9045, 10045, 11045, 21045, 22045, 23045, 24045] σ32) (sg_F_m (L := [46, 47, 48, 53, 54, 55, 56, 57, 58, 59, 60, 8045, 9045, 10045, 11045, 21045, 22045, 23045, 24045]) hF70 rfl)) w)
            have w := w.2 e66
            by_cases e74 : (sx_at σ 29 1013 ((sg_g σ8 45 8))) = 4
            · have w := w.1 e74
              refine wk_ts tt_126 (off := 95) (tgt := 164) rfl (sx_R ..) (by rw [e74]; decide) rfl ?_
              refine wk_b tt_126 6 (pc' := 176) (ls' := [(4, .inl ((sx_at σ 29 1013 ((sg_g σ8 45 8))))), (3, .inl ((sx_at σ 30 1013 ((sg_g σ8 45 8))))), (0, .inr (.inr (.ref 45))), (1, .inl (a1)), (2, .inl (v7))]) (st' := [.inl ((sx_at σ 30 1013 ((sg_g σ8 45 8)))), .inr (.inr (.ref 16)), .inr (.inr (.ref 46))]) (σ' := σ32) rfl ?_
              refine wk_callp tt_126 rfl rfl rfl rfl rfl tt_5 rfl (by decide) (at_i0 z σ32 16 200 ((sx_at σ 30 1013 ((sg_g σ8 45 8)))) rfl (by decide) (sx_R ..)) ?_
              show wx z 8 126 179 [(4, .inl ((sx_at σ 29 1013 ((sg_g σ8 45 8))))), (3, .inl ((sx_at σ 30 1013 ((sg_g σ8 45 8))))), (0, .inr (.inr (.ref 45))), (1, .inl (a1)), (2, .inl (v7))] [.inl ((sx_at σ32 16 200 ((sx_at σ 30 1013 ((sg_g σ8 45 8)))))), .inr (.inr (.ref 46))] σ32 (fun v σ' => ∃ q, v = some (.inl q) ∧ sg_R q ∧ sg_F [46, 47, 48, 49, 50, 51, 52, 53, 54, 55, 56, 57, 58, 59, 60, 8045, 9045, 10045, 11045, 12045, 21045, 22045, 23045, 24045] σ σ' ∧ Q q σ')
              rw [sx_F (a := 16) (n := 200) (i := ((sx_at σ 30 1013 ((sg_g σ8 45 8))))) hF34 rfl, sx_F (a := 16) (n := 200) (i := ((sx_at σ 30 1013 ((sg_g σ8 45 8))))) hF9 rfl, sx_F (a := 16) (n := 200) (i := ((sx_at σ 30 1013 ((sg_g σ8 45 8))))) hF3 rfl]
              refine wk_b tt_126 1 (pc' := 180) (ls' := [(4, .inl ((sx_at σ 29 1013 ((sg_g σ8 45 8))))), (3, .inl ((sx_at σ 30 1013 ((sg_g σ8 45 8))))), (0, .inr (.inr (.ref 45))), (1, .inl (a1)), (2, .inl (v7))]) (st' := [.inr (.inr (.ref 45)), .inl ((sx_at σ 16 200 ((sx_at σ 30 1013 ((sg_g σ8 45 8)))))), .inr (.inr (.ref 46))]) (σ' := σ32) rfl ?_
              refine wk_call tt_126 rfl rfl rfl rfl rfl tt_124 rfl (by decide) (w_mnPop z σ32  _  w) (fun u81 σ77 hq79 => ?_)
              obtain ⟨q76, rfl, r80, hF78, w⟩ := hq79
              have w := w r80 hF78
              refine wk_callp tt_126 rfl rfl rfl rfl rfl tt_21 rfl (by decide) (pt_i0 z σ77 46 272 ((sx_at σ 16 200 ((sx_at σ 30 1013 ((sg_g σ8 45 8)))))) (q76) rfl (by decide) (sx_R ..)) ?_
              show wx z 8 126 186 [(4, .inl ((sx_at σ 29 1013 ((sg_g σ8 45 8))))), (3, .inl ((sx_at σ 30 1013 ((sg_g σ8 45 8))))), (0, .inr (.inr (.ref 45))), (1, .inl (a1)), (2, .inl (v7))] [] (sx_put σ77 46 272 ((sx_at σ 16 200 ((sx_at σ 30 1013 ((sg_g σ8 45 8)))))) (q76)) (fun v σ' => ∃ q, v = some (.inl q) ∧ sg_R q ∧ sg_F [46, 47, 48, 49, 50, 51, 52, 53, 54, 55, 56, 57, 58, 59, 60, 8045, 9045, 10045, 11045, 12045, 21045, 22045, 23045, 24045] σ σ' ∧ Q q σ')
              generalize hs83 : (sx_put σ77 46 272 ((sx_at σ 16 200 ((sx_at σ 30 1013 ((sg_g σ8 45 8)))))) (q76)) = σ82
              have w := w σ82 hs83.symm
              have hF84 : sg_F [46] σ77 σ82 := by rw [← hs83]; exact sg_F_p (sg_F_r _ _) rfl _ _ _
              refine wk_b tt_126 1 (pc' := 267) (ls' := [(4, .inl ((sx_at σ 29 1013 ((sg_g σ8 45 8))))), (3, .inl ((sx_at σ 30 1013 ((sg_g σ8 45 8))))), (0, .inr (.inr (.ref 45))), (1, .inl (a1)), (2, .inl (v7))]) (st' := []) (σ' := σ82) rfl ?_
              exact wk_ls [(0, .inr (.inr (.ref 45))), (1, .inl (a1)), (2, .inl (v7))] rfl ⟨rfl, rfl, rfl, trivial⟩ (jn38 σ82 (sg_F_t (sg_F_t (sg_F_r [46, 47, 48, 53, 54, 55, 56, 57, 58, 59, 60, 8045, 9045, 10045, 11045, 21045, 22045, 23045, 24045] σ32) (sg_F_m (L := [46, 47, 48, 53, 54, 55, 56, 57, 58, 59, 60, 8045, 9045, 10045, 11045, 21045, 22045, 23045, 24045]) hF78 rfl)) (sg_F_m (L := [46, 47, 48, 53, 54, 55, 56, 57, 58, 59, 60, 8045, 9045, 10045, 11045, 21045, 22045, 23045, 24045]) hF84 rfl)) w)
            have w := w.2 e74
            by_cases e85 : (sx_at σ 29 1013 ((sg_g σ8 45 8))) = 5
            · have w := w.1 e85
              refine wk_ts tt_126 (off := 120) (tgt := 189) rfl (sx_R ..) (by rw [e85]; decide) rfl ?_
              refine wk_b tt_126 5 (pc' := 198) (ls' := [(4, .inl ((sx_at σ 29 1013 ((sg_g σ8 45 8))))), (3, .inl ((sx_at σ 30 1013 ((sg_g σ8 45 8))))), (0, .inr (.inr (.ref 45))), (1, .inl (a1)), (2, .inl (v7))]) (st' := [.inl ((sx_at σ 30 1013 ((sg_g σ8 45 8)))), .inr (.inr (.ref 16)), .inr (.inr (.ref 45))]) (σ' := σ32) rfl ?_
              refine wk_callp tt_126 rfl rfl rfl rfl rfl tt_5 rfl (by decide) (at_i0 z σ32 16 200 ((sx_at σ 30 1013 ((sg_g σ8 45 8)))) rfl (by decide) (sx_R ..)) ?_
              show wx z 8 126 201 [(4, .inl ((sx_at σ 29 1013 ((sg_g σ8 45 8))))), (3, .inl ((sx_at σ 30 1013 ((sg_g σ8 45 8))))), (0, .inr (.inr (.ref 45))), (1, .inl (a1)), (2, .inl (v7))] [.inl ((sx_at σ32 16 200 ((sx_at σ 30 1013 ((sg_g σ8 45 8)))))), .inr (.inr (.ref 45))] σ32 (fun v σ' => ∃ q, v = some (.inl q) ∧ sg_R q ∧ sg_F [46, 47, 48, 49, 50, 51, 52, 53, 54, 55, 56, 57, 58, 59, 60, 8045, 9045, 10045, 11045, 12045, 21045, 22045, 23045, 24045] σ σ' ∧ Q q σ')
              rw [sx_F (a := 16) (n := 200) (i := ((sx_at σ 30 1013 ((sg_g σ8 45 8))))) hF34 rfl, sx_F (a := 16) (n := 200) (i := ((sx_at σ 30 1013 ((sg_g σ8 45 8))))) hF9 rfl, sx_F (a := 16) (n := 200) (i := ((sx_at σ 30 1013 ((sg_g σ8 45 8))))) hF3 rfl]
              refine wk_call tt_126 rfl rfl rfl rfl rfl tt_119 rfl (by decide) (w_mnEnter z σ32 ((sx_at σ 16 200 ((sx_at σ 30 1013 ((sg_g σ8 45 8)))))) _ (sx_R ..) w) (fun u92 σ88 hq90 => ?_)
              obtain ⟨rfl, hF89, w⟩ := hq90
              have w := w hF89
              refine wk_b tt_126 1 (pc' := 267) (ls' := [(4, .inl ((sx_at σ 29 1013 ((sg_g σ8 45 8))))), (3, .inl ((sx_at σ 30 1013 ((sg_g σ8 45 8))))), (0, .inr (.inr (.ref 45))), (1, .inl (a1)), (2, .inl (v7))]) (st' := []) (σ' := σ88) rfl ?_
              exact wk_ls [(0, .inr (.inr (.ref 45))), (1, .inl (a1)), (2, .inl (v7))] rfl ⟨rfl, rfl, rfl, trivial⟩ (jn38 σ88 (sg_F_t (sg_F_r [46, 47, 48, 53, 54, 55, 56, 57, 58, 59, 60, 8045, 9045, 10045, 11045, 21045, 22045, 23045, 24045] σ32) (sg_F_m (L := [46, 47, 48, 53, 54, 55, 56, 57, 58, 59, 60, 8045, 9045, 10045, 11045, 21045, 22045, 23045, 24045]) hF89 rfl)) w)
            have w := w.2 e85
            by_cases e93 : (sx_at σ 29 1013 ((sg_g σ8 45 8))) = 6
            · have w := w.1 e93
              refine wk_ts tt_126 (off := 138) (tgt := 207) rfl (sx_R ..) (by rw [e93]; decide) rfl ?_
              refine wk_b tt_126 4 (pc' := 213) (ls' := [(4, .inl ((sx_at σ 29 1013 ((sg_g σ8 45 8))))), (3, .inl ((sx_at σ 30 1013 ((sg_g σ8 45 8))))), (0, .inr (.inr (.ref 45))), (1, .inl (a1)), (2, .inl (v7))]) (st' := [.inl ((sx_at σ 30 1013 ((sg_g σ8 45 8)))), .inr (.inr (.ref 47)), .inr (.inr (.ref 45))]) (σ' := σ32) rfl ?_
              refine wk_callp tt_126 rfl rfl rfl rfl rfl tt_5 rfl (by decide) (at_i0 z σ32 47 13 ((sx_at σ 30 1013 ((sg_g σ8 45 8)))) rfl (by decide) (sx_R ..)) ?_
              show wx z 8 126 216 [(4, .inl ((sx_at σ 29 1013 ((sg_g σ8 45 8))))), (3, .inl ((sx_at σ 30 1013 ((sg_g σ8 45 8))))), (0, .inr (.inr (.ref 45))), (1, .inl (a1)), (2, .inl (v7))] [.inl ((sx_at σ32 47 13 ((sx_at σ 30 1013 ((sg_g σ8 45 8)))))), .inr (.inr (.ref 45))] σ32 (fun v σ' => ∃ q, v = some (.inl q) ∧ sg_R q ∧ sg_F [46, 47, 48, 49, 50, 51, 52, 53, 54, 55, 56, 57, 58, 59, 60, 8045, 9045, 10045, 11045, 12045, 21045, 22045, 23045, 24045] σ σ' ∧ Q q σ')
              rw [sx_F (a := 47) (n := 13) (i := ((sx_at σ 30 1013 ((sg_g σ8 45 8))))) hF34 rfl]
              refine wk_b tt_126 1 (pc' := 219) (ls' := [(4, .inl ((sx_at σ 29 1013 ((sg_g σ8 45 8))))), (3, .inl ((sx_at σ 30 1013 ((sg_g σ8 45 8))))), (0, .inr (.inr (.ref 45))), (1, .inl (a1)), (2, .inl (v7))]) (st' := []) (σ' := (sg_w σ32 45 8 ((sx_at σ8 47 13 ((sx_at σ 30 1013 ((sg_g σ8 45 8)))))))) rfl ?_
              generalize hs96 : (sg_w σ32 45 8 ((sx_at σ8 47 13 ((sx_at σ 30 1013 ((sg_g σ8 45 8))))))) = σ95
              have w := w σ95 hs96.symm
              have hF97 : sg_F [9045] σ32 σ95 := by rw [← hs96]; exact sg_F_w (sg_F_r _ _) rfl _
              refine wk_b tt_126 1 (pc' := 267) (ls' := [(4, .inl ((sx_at σ 29 1013 ((sg_g σ8 45 8))))), (3, .inl ((sx_at σ 30 1013 ((sg_g σ8 45 8))))), (0, .inr (.inr (.ref 45))), (1, .inl (a1)), (2, .inl (v7))]) (st' := []) (σ' := σ95) rfl ?_
              exact wk_ls [(0, .inr (.inr (.ref 45))), (1, .inl (a1)), (2, .inl (v7))] rfl ⟨rfl, rfl, rfl, trivial⟩ (jn38 σ95 (sg_F_t (sg_F_r [46, 47, 48, 53, 54, 55, 56, 57, 58, 59, 60, 8045, 9045, 10045, 11045, 21045, 22045, 23045, 24045] σ32) (sg_F_m (L := [46, 47, 48, 53, 54, 55, 56, 57, 58, 59, 60, 8045, 9045, 10045, 11045, 21045, 22045, 23045, 24045]) hF97 rfl)) w)
            have w := w.2 e93
            by_cases e98 : (sx_at σ 29 1013 ((sg_g σ8 45 8))) = 7
            · have w := w.1 e98
              refine wk_ts tt_126 (off := 153) (tgt := 222) rfl (sx_R ..) (by rw [e98]; decide) rfl ?_
              refine wk_b tt_126 2 (pc' := 224) (ls' := [(4, .inl ((sx_at σ 29 1013 ((sg_g σ8 45 8))))), (3, .inl ((sx_at σ 30 1013 ((sg_g σ8 45 8))))), (0, .inr (.inr (.ref 45))), (1, .inl (a1)), (2, .inl (v7))]) (st' := [.inl ((sx_at σ 30 1013 ((sg_g σ8 45 8)))), .inr (.inr (.ref 45))]) (σ' := σ32) rfl ?_
              refine wk_call tt_126 rfl rfl rfl rfl rfl tt_142 rfl (by decide) (w_nFork z σ32 ((sx_at σ 30 1013 ((sg_g σ8 45 8)))) _ (sx_R ..) w) (fun u105 σ101 hq103 => ?_)
              obtain ⟨rfl, hF102, w⟩ := hq103
              have w := w hF102
              refine wk_b tt_126 1 (pc' := 267) (ls' := [(4, .inl ((sx_at σ 29 1013 ((sg_g σ8 45 8))))), (3, .inl ((sx_at σ 30 1013 ((sg_g σ8 45 8))))), (0, .inr (.inr (.ref 45))), (1, .inl (a1)), (2, .inl (v7))]) (st' := []) (σ' := σ101) rfl ?_
              exact wk_ls [(0, .inr (.inr (.ref 45))), (1, .inl (a1)), (2, .inl (v7))] rfl ⟨rfl, rfl, rfl, trivial⟩ (jn38 σ101 (sg_F_t (sg_F_r [46, 47, 48, 53, 54, 55, 56, 57, 58, 59, 60, 8045, 9045, 10045, 11045, 21045, 22045, 23045, 24045] σ32) (sg_F_m (L := [46, 47, 48, 53, 54, 55, 56, 57, 58, 59, 60, 8045, 9045, 10045, 11045, 21045, 22045, 23045, 24045]) hF102 rfl)) w)
            have w := w.2 e98
            by_cases e106 : (sx_at σ 29 1013 ((sg_g σ8 45 8))) = 8
            · have w := w.1 e106
              refine wk_ts tt_126 (off := 161) (tgt := 230) rfl (sx_R ..) (by rw [e106]; decide) rfl ?_
              refine wk_b tt_126 2 (pc' := 232) (ls' := [(4, .inl ((sx_at σ 29 1013 ((sg_g σ8 45 8))))), (3, .inl ((sx_at σ 30 1013 ((sg_g σ8 45 8))))), (0, .inr (.inr (.ref 45))), (1, .inl (a1)), (2, .inl (v7))]) (st' := [.inl ((sx_at σ 30 1013 ((sg_g σ8 45 8)))), .inr (.inr (.ref 45))]) (σ' := σ32) rfl ?_
              refine wk_call tt_126 rfl rfl rfl rfl rfl tt_164 rfl (by decide) (w_nTurn z σ32 ((sx_at σ 30 1013 ((sg_g σ8 45 8)))) _ (sx_R ..) w) (fun u113 σ109 hq111 => ?_)
              obtain ⟨rfl, hF110, w⟩ := hq111
              have w := w hF110
              refine wk_b tt_126 1 (pc' := 267) (ls' := [(4, .inl ((sx_at σ 29 1013 ((sg_g σ8 45 8))))), (3, .inl ((sx_at σ 30 1013 ((sg_g σ8 45 8))))), (0, .inr (.inr (.ref 45))), (1, .inl (a1)), (2, .inl (v7))]) (st' := []) (σ' := σ109) rfl ?_
              exact wk_ls [(0, .inr (.inr (.ref 45))), (1, .inl (a1)), (2, .inl (v7))] rfl ⟨rfl, rfl, rfl, trivial⟩ (jn38 σ109 (sg_F_t (sg_F_r [46, 47, 48, 53, 54, 55, 56, 57, 58, 59, 60, 8045, 9045, 10045, 11045, 21045, 22045, 23045, 24045] σ32) (sg_F_m (L := [46, 47, 48, 53, 54, 55, 56, 57, 58, 59, 60, 8045, 9045, 10045, 11045, 21045, 22045, 23045, 24045]) hF110 rfl)) w)
            have w := w.2 e106
            by_cases e114 : (sx_at σ 29 1013 ((sg_g σ8 45 8))) = 9
            · have w := w.1 e114
              refine wk_ts tt_126 (off := 169) (tgt := 238) rfl (sx_R ..) (by rw [e114]; decide) rfl ?_
              refine wk_b tt_126 2 (pc' := 240) (ls' := [(4, .inl ((sx_at σ 29 1013 ((sg_g σ8 45 8))))), (3, .inl ((sx_at σ 30 1013 ((sg_g σ8 45 8))))), (0, .inr (.inr (.ref 45))), (1, .inl (a1)), (2, .inl (v7))]) (st' := [.inl ((sx_at σ 30 1013 ((sg_g σ8 45 8)))), .inr (.inr (.ref 45))]) (σ' := σ32) rfl ?_
              refine wk_call tt_126 rfl rfl rfl rfl rfl tt_146 rfl (by decide) (w_nJoin z σ32 ((sx_at σ 30 1013 ((sg_g σ8 45 8)))) _ (sx_R ..) w) (fun u121 σ117 hq119 => ?_)
              obtain ⟨rfl, hF118, w⟩ := hq119
              have w := w hF118
              refine wk_b tt_126 1 (pc' := 267) (ls' := [(4, .inl ((sx_at σ 29 1013 ((sg_g σ8 45 8))))), (3, .inl ((sx_at σ 30 1013 ((sg_g σ8 45 8))))), (0, .inr (.inr (.ref 45))), (1, .inl (a1)), (2, .inl (v7))]) (st' := []) (σ' := σ117) rfl ?_
              exact wk_ls [(0, .inr (.inr (.ref 45))), (1, .inl (a1)), (2, .inl (v7))] rfl ⟨rfl, rfl, rfl, trivial⟩ (jn38 σ117 (sg_F_t (sg_F_r [46, 47, 48, 53, 54, 55, 56, 57, 58, 59, 60, 8045, 9045, 10045, 11045, 21045, 22045, 23045, 24045] σ32) (sg_F_m (L := [46, 47, 48, 53, 54, 55, 56, 57, 58, 59, 60, 8045, 9045, 10045, 11045, 21045, 22045, 23045, 24045]) hF118 rfl)) w)
            have w := w.2 e114
            by_cases e122 : (sx_at σ 29 1013 ((sg_g σ8 45 8))) = 10
            · have w := w.1 e122
              refine wk_ts tt_126 (off := 177) (tgt := 246) rfl (sx_R ..) (by rw [e122]; decide) rfl ?_
              refine wk_b tt_126 2 (pc' := 248) (ls' := [(4, .inl ((sx_at σ 29 1013 ((sg_g σ8 45 8))))), (3, .inl ((sx_at σ 30 1013 ((sg_g σ8 45 8))))), (0, .inr (.inr (.ref 45))), (1, .inl (a1)), (2, .inl (v7))]) (st' := [.inl ((sx_at σ 30 1013 ((sg_g σ8 45 8)))), .inr (.inr (.ref 45))]) (σ' := σ32) rfl ?_
              refine wk_call tt_126 rfl rfl rfl rfl rfl tt_152 rfl (by decide) (w_nOpen z σ32 ((sx_at σ 30 1013 ((sg_g σ8 45 8)))) _ (sx_R ..) w) (fun u129 σ125 hq127 => ?_)
              obtain ⟨rfl, hF126, w⟩ := hq127
              have w := w hF126
              refine wk_b tt_126 1 (pc' := 267) (ls' := [(4, .inl ((sx_at σ 29 1013 ((sg_g σ8 45 8))))), (3, .inl ((sx_at σ 30 1013 ((sg_g σ8 45 8))))), (0, .inr (.inr (.ref 45))), (1, .inl (a1)), (2, .inl (v7))]) (st' := []) (σ' := σ125) rfl ?_
              exact wk_ls [(0, .inr (.inr (.ref 45))), (1, .inl (a1)), (2, .inl (v7))] rfl ⟨rfl, rfl, rfl, trivial⟩ (jn38 σ125 (sg_F_t (sg_F_r [46, 47, 48, 53, 54, 55, 56, 57, 58, 59, 60, 8045, 9045, 10045, 11045, 21045, 22045, 23045, 24045] σ32) (sg_F_m (L := [46, 47, 48, 53, 54, 55, 56, 57, 58, 59, 60, 8045, 9045, 10045, 11045, 21045, 22045, 23045, 24045]) hF126 rfl)) w)
            have w := w.2 e122
            by_cases e130 : (sx_at σ 29 1013 ((sg_g σ8 45 8))) = 11
            · have w := w.1 e130
              refine wk_ts tt_126 (off := 185) (tgt := 254) rfl (sx_R ..) (by rw [e130]; decide) rfl ?_
              refine wk_b tt_126 2 (pc' := 256) (ls' := [(4, .inl ((sx_at σ 29 1013 ((sg_g σ8 45 8))))), (3, .inl ((sx_at σ 30 1013 ((sg_g σ8 45 8))))), (0, .inr (.inr (.ref 45))), (1, .inl (a1)), (2, .inl (v7))]) (st' := [.inl ((sx_at σ 30 1013 ((sg_g σ8 45 8)))), .inr (.inr (.ref 45))]) (σ' := σ32) rfl ?_
              refine wk_call tt_126 rfl rfl rfl rfl rfl tt_161 rfl (by decide) (w_nSift z σ32 ((sx_at σ 30 1013 ((sg_g σ8 45 8)))) _ (sx_R ..) w) (fun u137 σ133 hq135 => ?_)
              obtain ⟨rfl, hF134, w⟩ := hq135
              have w := w hF134
              refine wk_b tt_126 1 (pc' := 267) (ls' := [(4, .inl ((sx_at σ 29 1013 ((sg_g σ8 45 8))))), (3, .inl ((sx_at σ 30 1013 ((sg_g σ8 45 8))))), (0, .inr (.inr (.ref 45))), (1, .inl (a1)), (2, .inl (v7))]) (st' := []) (σ' := σ133) rfl ?_
              exact wk_ls [(0, .inr (.inr (.ref 45))), (1, .inl (a1)), (2, .inl (v7))] rfl ⟨rfl, rfl, rfl, trivial⟩ (jn38 σ133 (sg_F_t (sg_F_r [46, 47, 48, 53, 54, 55, 56, 57, 58, 59, 60, 8045, 9045, 10045, 11045, 21045, 22045, 23045, 24045] σ32) (sg_F_m (L := [46, 47, 48, 53, 54, 55, 56, 57, 58, 59, 60, 8045, 9045, 10045, 11045, 21045, 22045, 23045, 24045]) hF134 rfl)) w)
            have w := w.2 e130
            refine wk_ts tt_126 (off := 193) (tgt := 262) rfl (sx_R ..) (by rcases sw_lo ((sx_at σ 29 1013 ((sg_g σ8 45 8)))) 0 with h | h; (unfold bm_swt; rw [if_pos (Or.inl h)]); (unfold bm_swt; rw [if_pos (Or.inr (Int.lt_of_add_one_le (sw_st (k := 11) (sw_st (k := 10) (sw_st (k := 9) (sw_st (k := 8) (sw_st (k := 7) (sw_st (k := 6) (sw_st (k := 5) (sw_st (k := 4) (sw_st (k := 3) (sw_st (k := 2) (sw_st (k := 1) (sw_st (k := 0) h e42) e50) e58) e66) e74) e85) e93) e98) e106) e114) e122) e130)))])) rfl ?_
            refine wk_b tt_126 2 (pc' := 264) (ls' := [(4, .inl ((sx_at σ 29 1013 ((sg_g σ8 45 8))))), (3, .inl ((sx_at σ 30 1013 ((sg_g σ8 45 8))))), (0, .inr (.inr (.ref 45))), (1, .inl (a1)), (2, .inl (v7))]) (st' := [.inl ((sx_at σ 30 1013 ((sg_g σ8 45 8)))), .inr (.inr (.ref 45))]) (σ' := σ32) rfl ?_
            refine wk_call tt_126 rfl rfl rfl rfl rfl tt_151 rfl (by decide) (w_nNext z σ32 ((sx_at σ 30 1013 ((sg_g σ8 45 8)))) _ (sx_R ..) w) (fun u143 σ139 hq141 => ?_)
            obtain ⟨rfl, hF140, w⟩ := hq141
            have w := w hF140
            exact wk_ls [(0, .inr (.inr (.ref 45))), (1, .inl (a1)), (2, .inl (v7))] rfl ⟨rfl, rfl, rfl, trivial⟩ (jn38 σ139 (sg_F_t (sg_F_r [46, 47, 48, 53, 54, 55, 56, 57, 58, 59, 60, 8045, 9045, 10045, 11045, 21045, 22045, 23045, 24045] σ32) (sg_F_m (L := [46, 47, 48, 53, 54, 55, 56, 57, 58, 59, 60, 8045, 9045, 10045, 11045, 21045, 22045, 23045, 24045]) hF140 rfl)) w)
  exact wk_ls [(0, .inr (.inr (.ref 45))), (1, .inl (a1)), (2, .inl (0))] rfl ⟨rfl, rfl, rfl, trivial⟩ (lp16 μ11 (0) σ2 (by decide) (sg_F_r _ _) w17)
/-! VALUES and the EVALUATION of a PROGRAM as it is written, with its work and its span. -/
/-- a value, told by paths: at the end of a path a number, before it the length of a sequence -/
abbrev vaF : Type := List Nat → Int
def sbF (v : vaF) (i : Nat) : vaF := fun p => v (i :: p)
def nmF (x : Int) : vaF := fun _ => x
def itF (v : vaF) : List vaF := (List.range (v []).toNat).map (sbF v)
def mkF (l : List vaF) : vaF := fun p => match p with
  | [] => (l.length : Int)
  | i :: q => (l.getD i (nmF 0)) q
theorem itF_l (v : vaF) : (itF v).length = (v []).toNat := by simp [itF]
theorem itF_g {v : vaF} {i : Nat} {w : vaF} (h : (itF v)[i]? = some w) : i < (v []).toNat ∧ w = sbF v i := by
  have hl := gE_l h
  rw [itF_l] at hl
  refine ⟨hl, ?_⟩
  unfold itF at h
  rw [List.getElem?_map, List.getElem?_range hl] at h
  exact (Option.some.inj h).symm
theorem itF_i {v : vaF} {i : Nat} (h : i < (v []).toNat) : (itF v)[i]? = some (sbF v i) := by
  unfold itF
  rw [List.getElem?_map, List.getElem?_range h]; rfl
theorem itF_mk (l : List vaF) : itF (mkF l) = l := by
  apply List.ext_getElem?
  intro i
  rcases Nat.lt_or_ge i l.length with h | h
  · rw [itF_i (by show i < ((l.length : Int)).toNat; omega), List.getElem?_eq_getElem h]
    congr 1
    funext p
    show (l.getD i (nmF 0)) p = _
    rw [List.getD_eq_getElem?_getD, List.getElem?_eq_getElem h]; rfl
  · rw [List.getElem?_eq_none (by rw [itF_l]; show ((l.length : Int)).toNat ≤ i; omega), List.getElem?_eq_none h]
theorem mkF_0 (l : List vaF) : mkF l [] = l.length := rfl
/-- what numbers together come to -/
def sumF : List Int → Int
  | [] => 0
  | x :: r => x + sumF r
theorem sumF_a : ∀ (l m : List Int), sumF (l ++ m) = sumF l + sumF m
  | [], m => by simp [sumF]
  | x :: r, m => by simp only [List.cons_append, sumF]; rw [sumF_a r m]; omega
/-- COUNT of a value of depth d -/
def cnvF : Nat → vaF → Int
  | 0, _ => 0
  | d + 1, v => ((itF v).length : Int) + sumF ((itF v).map (cnvF d))
def cnL (d : Nat) (l : List vaF) : Int := (l.length : Int) + sumF (l.map (cnvF d))
theorem cnF_mk (d : Nat) (l : List vaF) : cnvF (d + 1) (mkF l) = cnL d l := by simp only [cnvF, itF_mk, cnL]
theorem cnF_0 : ∀ (d : Nat) (v : vaF), 0 ≤ cnvF d v
  | 0, _ => Int.le_refl _
  | d + 1, v => by
    have : ∀ l : List vaF, 0 ≤ sumF (l.map (cnvF d)) := fun l => by
      induction l with
      | nil => exact Int.le_refl _
      | cons x r ih => simp only [List.map_cons, sumF]; have := cnF_0 d x; omega
    simp only [cnvF]
    have := this (itF v)
    omega
theorem sum_0 (d : Nat) (l : List vaF) : 0 ≤ sumF (l.map (cnvF d)) := by
  induction l with
  | nil => exact Int.le_refl _
  | cons x r ih => simp only [List.map_cons, sumF]; have := cnF_0 d x; omega
theorem cnL_a (d : Nat) (l m : List vaF) : cnL d (l ++ m) = cnL d l + cnL d m := by
  unfold cnL
  rw [List.map_append, sumF_a, List.length_append]; omega
theorem cnL_l (d : Nat) (l : List vaF) : (l.length : Int) ≤ cnL d l := by
  unfold cnL
  have := sum_0 d l
  omega
theorem cnL_1 (l : List vaF) : cnL 0 l = l.length := by
  unfold cnL
  have : sumF (l.map (cnvF 0)) = 0 := by
    induction l with
    | nil => rfl
    | cons x r ih => simp only [List.map_cons, sumF]; rw [ih]; rfl
  rw [this]; omega
/-- the result of a step of work: a finding and the work, or values, the work, the span, what is bound -/
abbrev eV : Type := Int → vaF
abbrev eR : Type := (Int × Int) ⊕ (vaF × Int × Int × eV)
abbrev eRs : Type := (Int × Int) ⊕ (List vaF × Int × Int × eV)
def eUp (ρ : eV) (b : Int) (v : vaF) : eV := fun x => if x = b then v else ρ x
def eUs (ρ : eV) (b : Int) : Nat → List vaF → eV
  | _, [] => ρ
  | j, v :: r => eUs (eUp ρ (b + j) v) b (j + 1) r
/-- parts one after another -/
def eS (go : Int → eV → Int → eR) : List Int → eV → Int → eRs
  | [], ρ, w => .inr ([], w, 0, ρ)
  | x :: r, ρ, w => match go x ρ w with
    | .inl e => .inl e
    | .inr (v, w1, s1, ρ1) => match eS go r ρ1 w1 with
      | .inl e => .inl e
      | .inr (vs, w2, s2, ρ2) => .inr (v :: vs, w2, s1 + s2, ρ2)
/-- one place of a { } -/
def evT (go : Int → eV → Int → eR) (gd : List Int) (bd : Int) (ρ : eV) (w : Int) : eRs := match gd with
  | [] => (match go bd ρ w with
    | .inl e => .inl e
    | .inr (v, w1, s1, ρ1) => .inr ([v], w1, s1, ρ1))
  | g :: _ => (match go g ρ w with
    | .inl e => .inl e
    | .inr (v, w1, s1, ρ1) => if v [] = 0 then .inr ([], w1, s1, ρ1) else (match go bd ρ1 w1 with
      | .inl e => .inl e
      | .inr (v2, w2, s2, ρ2) => .inr ([v2], w2, s1 + s2, ρ2)))
/-- all places of a { }: the greatest span of one -/
def eP (one : Nat → eV → Int → eRs) : Nat → Nat → eV → Int → Int → List vaF → eRs
  | 0, _, ρ, w, bs, acc => .inr (acc, w, bs, ρ)
  | k + 1, i, ρ, w, bs, acc => match one i ρ w with
    | .inl e => .inl e
    | .inr (vs, w1, s1, ρ1) => eP one k (i + 1) ρ1 w1 (if bs < s1 then s1 else bs) (acc ++ vs)
/-- numbers before -/
def scnF : Int → List Int → List Int
  | _, [] => []
  | m, x :: r => m :: scnF (sg_n (m + x)) r
def foF (k : Int) : Int → List Int → Int
  | m, [] => m
  | m, x :: r => foF k (if k = 18 then sg_n (m + x) else if k = 19 then (if m < x then x else m) else if x < m then x else m) r
def pkF : List vaF → List Int → List vaF
  | v :: r, x :: s => if x = 0 then pkF r s else v :: pkF r s
  | _, _ => []
/-- a row of wishes, inverted from place i on: who wishes each of n places, or nothing -/
def ivF (n : Nat) : Nat → List Int → (Int → Int) → Option (Int → Int)
  | _, [], g => some g
  | i, x :: r, g => if 0 ≤ x ∧ x < n ∧ g x = -1 then ivF n (i + 1) r (fun y => if y = x then (i : Int) else g y) else none
/-- parts with given lengths -/
def ptF : List vaF → List Int → List vaF
  | _, [] => []
  | l, x :: r => mkF (l.take x.toNat) :: ptF (l.drop x.toNat) r
def nuF (v : vaF) : List Int := (itF v).map (fun w => w [])
def arF (k a b : Int) : Int := v_operated k a b
/-- an operation on values: a finding, or a value with what is to be paid for it -/
def eO (k ty x : Int) (vs : List vaF) : Int ⊕ (vaF × Int) :=
  let a := vs.getD 0 (nmF 0)
  let b := vs.getD 1 (nmF 0)
  if k = 0 then .inr (nmF x, 0)
  else if k < 11 then (if (k = 9 ∨ k = 10) ∧ b [] = 0 then .inl 1 else .inr (nmF (arF k (a []) (b [])), 0))
  else if k = 11 then .inr (nmF (itF a).length, 0)
  else if k = 12 then (if 0 ≤ b [] ∧ b [] < (itF a).length then .inr ((itF a).getD (b []).toNat (nmF 0), 0) else .inl 2)
  else if k = 14 then .inr (mkF vs, cnL (ty - 1).toNat vs)
  else if k = 16 then (if 0 ≤ a [] ∧ a [] ≤ 200 then .inr (mkF ((List.range (a []).toNat).map (fun i : Nat => nmF (i : Int))), cnL 0 ((List.range (a []).toNat).map (fun i : Nat => nmF (i : Int)))) else .inl 5)
  else if k = 17 then (if 0 ≤ b [] ∧ b [] ≤ 200 then .inr (mkF (List.replicate (b []).toNat a), cnL (ty - 1).toNat (List.replicate (b []).toNat a)) else .inl 5)
  else if k = 18 then .inr (nmF (foF 18 0 (nuF a)), (itF a).length)
  else if k = 19 ∨ k = 20 then (match nuF a with
    | [] => .inl 4
    | y :: r => .inr (nmF (foF k y r), (itF a).length))
  else if k = 21 then .inr (mkF ((scnF 0 (nuF a)).map nmF), cnL 0 ((scnF 0 (nuF a)).map nmF))
  else if k = 22 then .inr (mkF (itF a).reverse, cnL (ty - 1).toNat (itF a).reverse)
  else if k = 23 then (if (itF a).length + (itF b).length ≤ 200 then .inr (mkF (itF a ++ itF b), cnL (ty - 1).toNat (itF a ++ itF b)) else .inl 5)
  else if k = 24 then (if sumF ((itF a).map (fun v => ((itF v).length : Int))) ≤ 200 then .inr (mkF ((itF a).map itF).flatten, cnL (ty - 1).toNat ((itF a).map itF).flatten) else .inl 5)
  else if k = 25 then (if (itF a).length = (itF b).length then .inr (mkF (pkF (itF a) (nuF b)), cnL (ty - 1).toNat (pkF (itF a) (nuF b))) else .inl 3)
  else if k = 26 then (if (itF a).length = (itF b).length then (match ivF (itF b).length 0 (nuF b) (fun _ => -1) with
    | none => .inl 6
    | some g => .inr (mkF ((List.range (itF a).length).map (fun i : Nat => (itF a).getD (g i).toNat (nmF 0))), cnL (ty - 1).toNat ((List.range (itF a).length).map (fun i : Nat => (itF a).getD (g i).toNat (nmF 0))))) else .inl 3)
  else (if (nuF b).any (fun x => decide (x < 0)) = true then .inl 5 else if sumF (nuF b) = (itF a).length then .inr (mkF (ptF (itF a) (nuF b)), cnL (ty - 1).toNat (ptF (itF a) (nuF b))) else .inl 3)
/-- what is paid at a node's end -/
def ePay (r : Int ⊕ (vaF × Int)) (w s : Int) (ρ : eV) : eR := match r with
  | .inl e => .inl (e, w)
  | .inr (v, c) => if w + c ≤ 3000 then .inr (v, w + c, s, ρ) else .inl (7, w)
section EVL
variable (A : aT) (T B : Int → Int) (call : Int → eV → Int → eR)
/-- a node is worked out -/
def evN : Nat → Int → eV → Int → eR
  | 0, _, _, w => .inl (7, w)
  | f + 1, n, ρ, w =>
    if w + 1 ≤ 3000 then
      (if A.2.1 n = 1 then .inr (ρ (B n), w + 1, 1, ρ)
      else if A.2.1 n = 2 then (match evN f ((A.2.2.2.2.1 n).getD 0 0) ρ (w + 1) with
        | .inl e => .inl e
        | .inr (v, w1, s1, ρ1) => match evN f ((A.2.2.2.2.1 n).getD 1 0) (eUp ρ1 n v) w1 with
          | .inl e => .inl e
          | .inr (v2, w2, s2, ρ2) => .inr (v2, w2, 1 + s1 + s2, ρ2))
      else if A.2.1 n = 3 then (match evN f ((A.2.2.2.2.1 n).getD 0 0) ρ (w + 1) with
        | .inl e => .inl e
        | .inr (v, w1, s1, ρ1) => match evN f ((A.2.2.2.2.1 n).getD (if v [] = 0 then 2 else 1) 0) ρ1 w1 with
          | .inl e => .inl e
          | .inr (v2, w2, s2, ρ2) => .inr (v2, w2, 1 + s1 + s2, ρ2))
      else if A.2.1 n = 13 then (match eS (evN f) (A.2.2.2.2.1 n) ρ (w + 1) with
        | .inl e => .inl e
        | .inr (vs, w1, s1, ρ1) => match call (B n) (eUs ρ1 (1100 + 6 * B n) 0 vs) w1 with
          | .inl e => .inl e
          | .inr (v2, w2, s2, ρ2) => .inr (v2, w2, 1 + s1 + s2, ρ2))
      else if A.2.1 n = 15 then (match eS (evN f) (kGs A n) ρ (w + 1) with
        | .inl e => .inl e
        | .inr (vs, w1, s1, ρ1) =>
          if vs.any (fun v => decide ((itF v).length ≠ (itF (vs.getD 0 (nmF 0))).length)) = true then .inl (3, w1)
          else match eP (fun i ρ w => evT (evN f) ((A.2.2.2.2.1 n).drop (1 + (A.2.2.2.2.2 n).length)) ((A.2.2.2.2.1 n).getD 0 0) (eUs ρ (210 + 4 * n) 0 (vs.map (fun v => (itF v).getD i (nmF 0)))) w) (itF (vs.getD 0 (nmF 0))).length 0 ρ1 w1 0 [] with
            | .inl e => .inl e
            | .inr (acc, w2, bs, ρ2) => ePay (.inr (mkF acc, cnL (T n - 1).toNat acc)) w2 (1 + s1 + bs) ρ2)
      else match eS (evN f) (A.2.2.2.2.1 n) ρ (w + 1) with
        | .inl e => .inl e
        | .inr (vs, w1, s1, ρ1) => ePay (eO (A.2.1 n) (T n) (sg_n (A.2.2.2.1 n)) vs) w1 (1 + s1) ρ1)
    else .inl (7, w)
end EVL
/-- DEFS below k -/
def eC (A : aT) (D : List aDf) (T B : Int → Int) : Nat → Int → eV → Int → eR
  | 0, _, _, w => .inl (7, w)
  | k + 1, q, ρ, w => if q = (k : Int) then evN A T B (eC A D T B k) 201 ((D.getD k (0, 0, [], 0)).2.2.2) ρ w else eC A D T B k q ρ w
theorem eC_e (A : aT) (D : List aDf) (T B : Int → Int) : ∀ (k q : Nat), q < k → ∀ ρ w, eC A D T B k (q : Int) ρ w = evN A T B (eC A D T B q) 201 ((D.getD q (0, 0, [], 0)).2.2.2) ρ w
  | 0, q, h, ρ, w => by omega
  | k + 1, q, h, ρ, w => by
    simp only [eC]
    by_cases e : q = k
    · subst e; rw [if_pos rfl]
    · rw [if_neg (by omega), eC_e A D T B k q (by omega)]
/-! VALUES on the heap of the nested run. -/
def cvF (σ : sg_S) : Nat → vaF → Int → Prop
  | 0, v, x => v [] = x
  | d + 1, v, x => (0 ≤ x ∧ x + 2 + (itF v).length ≤ sg_g σ 45 20) ∧ (itF v).length ≤ 200 ∧ cnvF (d + 1) v ≤ 3000 ∧ (sg_g σ 53 x = (itF v).length ∧ sg_g σ 53 (x + 1) = cnvF (d + 1) v) ∧ ∀ (i : Nat) (w : vaF), (itF v)[i]? = some w → cvF σ d w (sg_g σ 53 (x + 2 + i))
/-- the heap only grows -/
def cEx (σ σ' : sg_S) : Prop := sg_g σ 45 20 ≤ sg_g σ' 45 20 ∧ ∀ i, 0 ≤ i → i < sg_g σ 45 20 → sg_g σ' 53 i = sg_g σ 53 i
theorem cEx_r (σ : sg_S) : cEx σ σ := ⟨Int.le_refl _, fun _ _ _ => rfl⟩
theorem cEx_t {σ σ1 σ2 : sg_S} (h : cEx σ σ1) (g : cEx σ1 σ2) : cEx σ σ2 := ⟨Int.le_trans h.1 g.1, fun i a b => (g.2 i a (by have := h.1; omega)).trans (h.2 i a b)⟩
theorem cEx_F {L : List Nat} {σ σ' : sg_S} (f : sg_F L σ σ') (hL : (!sg_cv L 45 20 && sg_ca L 53) = true) : cEx σ σ' := by
  simp only [Bool.and_eq_true, Bool.not_eq_true'] at hL
  exact ⟨by rw [sg_F_g f hL.1]; exact Int.le_refl _, fun i _ _ => sg_F_ga f hL.2⟩
theorem cvF_up {σ σ' : sg_S} (h : cEx σ σ') : ∀ {d : Nat} {v : vaF} {x : Int}, cvF σ d v x → cvF σ' d v x
  | 0, _, _, a => a
  | d + 1, v, x, ⟨a1, a2, a3, a4, a5⟩ => by
    have h1 := h.1
    refine ⟨⟨a1.1, by omega⟩, a2, a3, ⟨by rw [h.2 x (by omega) (by omega)]; exact a4.1, by rw [h.2 (x + 1) (by omega) (by omega)]; exact a4.2⟩, fun i w hw => ?_⟩
    have hi := gE_l hw
    rw [h.2 (x + 2 + i) (by omega) (by omega)]
    exact cvF_up h (a5 i w hw)
theorem cvF_F {L : List Nat} {σ σ' : sg_S} {d : Nat} {v : vaF} {x : Int} (a : cvF σ d v x) (f : sg_F L σ σ') (hL : (!sg_cv L 45 20 && sg_ca L 53) = true) : cvF σ' d v x := cvF_up (cEx_F f hL) a
section CVA
variable {σ : sg_S} {d : Nat} {v w : vaF} {x : Int} {i : Nat}
theorem cv_len (hB : sg_g σ 45 20 ≤ 9003) (h : cvF σ (d + 1) v x) : v_nLengthOf σ x = (itF v).length := by
  obtain ⟨a1, a2, a3, a4, a5⟩ := h
  unfold v_nLengthOf
  rw [xa_in ⟨a1.1, by omega⟩]; exact a4.1
theorem cv_cnt (hB : sg_g σ 45 20 ≤ 9003) (h : cvF σ (d + 1) v x) : p_nCountOf σ x ∧ v_nCountOf σ x = cnvF (d + 1) v := by
  obtain ⟨a1, a2, a3, a4, a5⟩ := h
  unfold v_nCountOf p_nCountOf
  rw [xa_in ⟨by omega, by omega⟩]
  exact ⟨⟨⟨by omega, by omega⟩, trivial⟩, a4.2⟩
theorem cv_item (hB : sg_g σ 45 20 ≤ 9003) (h : cvF σ (d + 1) v x) (hi : (itF v)[i]? = some w) : p_nItemOf σ x (i : Int) ∧ sg_R (v_nItemOf σ x (i : Int)) ∧ cvF σ d w (v_nItemOf σ x (i : Int)) := by
  obtain ⟨a1, a2, a3, a4, a5⟩ := h
  have hl := gE_l hi
  have e : v_nItemOf σ x (i : Int) = sg_g σ 53 (x + 2 + i) := by
    unfold v_nItemOf
    rw [xa_in ⟨by omega, by omega⟩]
  refine ⟨⟨⟨by omega, by omega⟩, ⟨by omega, by omega⟩, trivial⟩, by rw [e]; exact sg_Rg _ _ _, ?_⟩
  rw [e]
  exact a5 i w hi
theorem cv_x (h : cvF σ (d + 1) v x) (hB : sg_g σ 45 20 ≤ 9003) : 0 ≤ x ∧ x ≤ 9001 ∧ (itF v).length ≤ 200 ∧ cnvF (d + 1) v ≤ 3000 := by
  obtain ⟨a1, a2, a3, a4, a5⟩ := h
  exact ⟨a1.1, by omega, a2, a3⟩
end CVA
/-- what was added -/
def cO (σ : sg_S) (d : Nat) (L : List vaF) : Prop := sg_g σ 45 21 = L.length ∧ L.length ≤ 200 ∧ ∀ (i : Nat) (w : vaF), L[i]? = some w → cvF σ d w (sg_g σ 54 i)
theorem cO_F {K : List Nat} {σ σ' : sg_S} {d : Nat} {L : List vaF} (h : cO σ d L) (f : sg_F K σ σ') (hK : (!sg_cv K 45 20 && sg_ca K 53 && !sg_cv K 45 21 && sg_ca K 54) = true) : cO σ' d L := by
  simp only [Bool.and_eq_true, Bool.not_eq_true'] at hK
  obtain ⟨⟨⟨k1, k2⟩, k3⟩, k4⟩ := hK
  refine ⟨by rw [sg_F_g f k3]; exact h.1, h.2.1, fun i w hw => ?_⟩
  rw [sg_F_ga f k4]
  exact cvF_F (h.2.2 i w hw) f (by rw [k1, k2]; rfl)
theorem cO_0 {σ : sg_S} {d : Nat} (h : sg_g σ 45 21 = 0) : cO σ d [] := ⟨h, by simp, fun i w hw => by simp at hw⟩
theorem n_add {σ : sg_S} {d : Nat} {L : List vaF} {v : vaF} {x : Int} {Q : sg_S → Prop} (h : cO σ d L) (hl : L.length < 200) (hv : cvF σ d v x) (hx : sg_R x) (k : ∀ σ', cO σ' d (L ++ [v]) → sg_F [54, 22045] σ σ' → Q σ') : V_nAdd σ x Q := by
  obtain ⟨h1, h2, h3⟩ := h
  unfold V_nAdd
  intro σ1 e1
  rw [h1, xp_in ⟨by omega, by omega⟩] at e1
  rw [h1]
  refine ⟨⟨by omega, by omega⟩, fun σ5 e5 => ?_⟩
  have f : sg_F [54, 22045] σ σ5 := by rw [e5, e1]; exact sg_F_w (sg_F_w (sg_F_r _ _) rfl _) rfl _
  refine k σ5 ⟨?_, by rw [List.length_append, List.length_cons, List.length_nil]; omega, fun i w hw => ?_⟩ f
  · rw [e5, sg_gw_e _ _ _ _ ⟨by omega, by omega⟩, List.length_append, List.length_cons, List.length_nil]; omega
  · rcases Nat.lt_or_ge i L.length with q | q
    · rw [List.getElem?_append_left q] at hw
      rw [e5, sg_gw_c _ _ _ _ _ _ (by decide), e1, sg_gw_k _ _ _ _ _ _ (by omega)]
      rw [← e1, ← e5]
      exact cvF_F (h3 i w hw) f rfl
    · rw [List.getElem?_append_right q] at hw
      have z : i - L.length = 0 := by
        have := gE_l hw
        simp only [List.length_cons, List.length_nil] at this
        omega
      rw [z] at hw
      simp only [List.getElem?_cons_zero, Option.some.injEq] at hw
      subst hw
      have ei : i = L.length := by omega
      subst ei
      have : sg_g σ5 54 (L.length : Int) = x := by rw [e5, sg_gw_c _ _ _ _ _ _ (by decide), e1, sg_gw_e _ _ _ _ hx]
      rw [this]
      exact cvF_F hv f rfl
theorem tkF_1 {α : Type} {l : List α} {i : Nat} {w : α} (h : l[i]? = some w) : l.take (i + 1) = l.take i ++ [w] := by rw [List.take_add_one, h]; rfl
theorem gE_x {α : Type} {l : List α} {i : Nat} (h : i < l.length) : ∃ w, l[i]? = some w := ⟨_, List.getElem?_eq_getElem h⟩
theorem n_addAll {σ : sg_S} {d : Nat} {L : List vaF} {v : vaF} {x : Int} {Q : sg_S → Prop} (hB : sg_g σ 45 20 ≤ 9003) (h : cO σ d L) (hv : cvF σ (d + 1) v x) (hl : L.length + (itF v).length ≤ 200) (k : ∀ σ', cO σ' d (L ++ itF v) → sg_F [54, 22045] σ σ' → Q σ') : V_nAddAll σ x Q := by
  have hlen := cv_len hB hv
  unfold V_nAddAll
  rw [hlen]
  refine ⟨fun n v1 σ2 => ∃ i : Nat, v1 = i ∧ n = (itF v).length - i ∧ i ≤ (itF v).length ∧ cO σ2 d (L ++ (itF v).take i), fun σ2 => cO σ2 d (L ++ itF v), ⟨_, 0, rfl, rfl, Nat.zero_le _, by rw [List.take_zero, List.append_nil]; exact h⟩, ?_, fun σ2 f2 h2 => k σ2 h2 f2⟩
  rintro n v1 σ2 r1 f2 ⟨i, rfl, en, hi, hO⟩
  refine ⟨fun z => ?_, fun z => ?_⟩
  · have : (itF v).take i = itF v := List.take_of_length_le (by omega)
    rw [this] at hO; exact hO
  · obtain ⟨w, hw⟩ := gE_x (l := itF v) (i := i) (by omega)
    obtain ⟨q1, q2, q3⟩ := cv_item hB hv hw
    refine ⟨q1, n_add hO (by rw [List.length_append, List.length_take]; omega) (cvF_F q3 f2 rfl) q2 (fun σ' h' f' _ => ⟨⟨by omega, by omega⟩, (itF v).length - (i + 1), by omega, i + 1, by omega, rfl, by omega, ?_⟩)⟩
    rw [tkF_1 hw, ← List.append_assoc]; exact h'
/-- a new sequence on the heap -/
theorem n_keep {σ : sg_S} {d : Nat} {L : List vaF} {c t hs : Int} {Q : sg_S → Prop} (h : cO σ d L) (hc : c = cnL d L) (hc3 : c ≤ 3000) (hh : sg_g σ 45 20 = hs) (h0 : 0 ≤ hs ∧ hs + 2 + L.length ≤ 9003) (ht : sg_g σ 45 7 = t) (t0 : 0 ≤ t ∧ t < 3200) (k : ∀ σ', sg_F [48, 53, 8045, 21045, 22045] σ σ' → cEx σ σ' → sg_g σ' 45 20 = hs + 2 + L.length → sg_g σ' 45 21 = 0 → sg_g σ' 45 7 = t + 1 → sg_g σ' 48 t = hs → (∀ i, ¬ i = t → sg_g σ' 48 i = sg_g σ 48 i) → cvF σ' (d + 1) (mkF L) hs → Q σ') : V_nKeep σ c Q := by
  obtain ⟨h1, h2, h3⟩ := id h
  have cl := cnL_l d L
  unfold V_nKeep
  rw [hh, h1, ht]
  intro σ1 e1
  rw [xp_in ⟨h0.1, by omega⟩] at e1
  refine ⟨⟨by omega, by omega⟩, fun σ5 e5 => ?_⟩
  rw [xp_in ⟨by omega, by omega⟩] at e5
  have f5 : sg_F [53] σ σ5 := by rw [e5, e1]; exact sg_F_w (sg_F_w (sg_F_r _ _) rfl _) rfl _
  have g50 : sg_g σ5 53 hs = L.length := by rw [e5, sg_gw_k _ _ _ _ _ _ (by omega), e1, sg_gw_e _ _ _ _ ⟨by omega, by omega⟩]
  have g51 : sg_g σ5 53 (hs + 1) = c := by rw [e5, sg_gw_e _ _ _ _ ⟨by omega, by omega⟩]
  have g5o : ∀ i, i < hs → sg_g σ5 53 i = sg_g σ 53 i := fun i hi => by rw [e5, sg_gw_k _ _ _ _ _ _ (by omega), e1, sg_gw_k _ _ _ _ _ _ (by omega)]
  refine ⟨fun n v8 σ9 => ∃ i : Nat, v8 = i ∧ n = L.length - i ∧ i ≤ L.length ∧ (∀ j, j < hs + 2 → sg_g σ9 53 j = sg_g σ5 53 j) ∧ ∀ j : Nat, j < i → sg_g σ9 53 (hs + 2 + j) = sg_g σ 54 j, fun σ9 => (∀ j, j < hs + 2 → sg_g σ9 53 j = sg_g σ5 53 j) ∧ ∀ j : Nat, j < L.length → sg_g σ9 53 (hs + 2 + j) = sg_g σ 54 j, ⟨_, 0, rfl, rfl, Nat.zero_le _, fun _ _ => rfl, fun j hj => by omega⟩, ?_, ?_⟩
  · rintro n v8 σ9 r8 f9 ⟨i, rfl, en, hi, a1, a2⟩
    refine ⟨fun z => ⟨a1, fun j hj => a2 j (by omega)⟩, fun z => ⟨⟨by omega, by omega⟩, ⟨by omega, by omega⟩, fun σ41 e41 => ⟨⟨by omega, by omega⟩, L.length - (i + 1), by omega, i + 1, by omega, rfl, by omega, fun j hj => ?_, fun j hj => ?_⟩⟩⟩
    · rw [xp_in ⟨by omega, by omega⟩] at e41
      rw [e41, sg_gw_k _ _ _ _ _ _ (by omega)]; exact a1 j hj
    · rw [xp_in ⟨by omega, by omega⟩, xa_in ⟨by omega, by omega⟩] at e41
      by_cases c : j = i
      · subst c; rw [e41, sg_gw_e _ _ _ _ (sg_Rg _ _ _)]
      · rw [e41, sg_gw_k _ _ _ _ _ _ (by omega)]; exact a2 j (by omega)
  · rintro σ9 f9 ⟨a1, a2⟩
    refine ⟨⟨by omega, by omega⟩, ⟨by omega, by omega⟩, fun σ25 e25 σ28 e28 σ31 e31 => ⟨⟨by omega, by omega⟩, fun σ35 e35 => ?_⟩⟩
    rw [xp_in ⟨t0.1, t0.2⟩] at e31
    have F : sg_F [48, 53, 8045, 21045, 22045] σ σ35 := by
      rw [e35, e31, e28, e25]
      exact sg_F_w (sg_F_w (sg_F_w (sg_F_w (sg_F_t (sg_F_m f5 rfl) (sg_F_m f9 rfl)) rfl _) rfl _) rfl _) rfl _
    have g53 : ∀ i, sg_g σ35 53 i = sg_g σ9 53 i := fun i => by rw [e35, sg_gw_c _ _ _ _ _ _ (by decide), e31, sg_gw_c _ _ _ _ _ _ (by decide), e28, sg_gw_c _ _ _ _ _ _ (by decide), e25, sg_gw_c _ _ _ _ _ _ (by decide)]
    have g20 : sg_g σ35 45 20 = hs + 2 + L.length := by rw [e35, sg_gw_k _ _ _ _ _ _ (by decide), e31, sg_gw_c _ _ _ _ _ _ (by decide), e28, sg_gw_k _ _ _ _ _ _ (by decide), e25, sg_gw_e _ _ _ _ ⟨by omega, by omega⟩]
    have g21 : sg_g σ35 45 21 = 0 := by rw [e35, sg_gw_k _ _ _ _ _ _ (by decide), e31, sg_gw_c _ _ _ _ _ _ (by decide), e28, sg_gw_e _ _ _ _ (by decide)]
    have g7 : sg_g σ35 45 7 = t + 1 := by rw [e35, sg_gw_e _ _ _ _ ⟨by omega, by omega⟩]
    have g48 : sg_g σ35 48 t = hs := by rw [e35, sg_gw_c _ _ _ _ _ _ (by decide), e31, sg_gw_e _ _ _ _ ⟨by omega, by omega⟩]
    have o48 : ∀ i, ¬ i = t → sg_g σ35 48 i = sg_g σ 48 i := fun i hi => by
      rw [e35, sg_gw_c _ _ _ _ _ _ (by decide), e31, sg_gw_k _ _ _ _ _ _ hi, e28, sg_gw_c _ _ _ _ _ _ (by decide), e25, sg_gw_c _ _ _ _ _ _ (by decide), sg_F_ga f9 rfl, sg_F_ga f5 rfl]
    have ex : cEx σ σ35 := ⟨by rw [g20, hh]; omega, fun i a b => by rw [hh] at b; rw [g53, a1 i (by omega), g5o i b]⟩
    refine k σ35 F ex g20 g21 g7 g48 o48 ?_
    have il : itF (mkF L) = L := itF_mk L
    refine ⟨⟨h0.1, by rw [g20, il]; omega⟩, by rw [il]; exact h2, by rw [cnF_mk]; omega, ⟨by rw [g53, a1 hs (by omega), g50, il], by rw [g53, a1 (hs + 1) (by omega), g51, cnF_mk]; exact hc⟩, fun i w hw => ?_⟩
    rw [il] at hw
    rw [g53, a2 i (gE_l hw)]
    exact cvF_up ex (h3 i w hw)
/-- what an operation comes to -/
def pyF (r : Int ⊕ (vaF × Int)) (w : Int) : (Int × Int) ⊕ (vaF × Int) := match r with
  | .inl e => .inl (e, w)
  | .inr (v, c) => if w + c ≤ 3000 then .inr (v, w + c) else .inl (7, w)
def cR (σ σ' : sg_S) (d : Nat) (t w : Int) : (Int × Int) ⊕ (vaF × Int) → Prop
  | .inl (e, w') => sg_g σ' 45 10 = e ∧ ¬ e = 0 ∧ sg_g σ' 45 22 = w'
  | .inr (v, w') => sg_g σ' 45 10 = 0 ∧ sg_g σ' 45 22 = w' ∧ (w ≤ w' ∧ w' ≤ 3000) ∧ sg_g σ' 45 7 = t + 1 ∧ sg_g σ' 45 21 = 0 ∧ cEx σ σ' ∧ sg_g σ' 45 20 ≤ sg_g σ 45 20 + 3 * (w' - w) + 2 ∧ cvF σ' d v (sg_g σ' 48 t) ∧ ∀ i, i < t → sg_g σ' 48 i = sg_g σ 48 i
abbrev ngL : List Nat := [48, 53, 54, 55, 8045, 11045, 21045, 22045, 23045]
/-- before an operation's own work: its parts are popped -/
def nO (σ : sg_S) (t w : Int) : Prop := sg_g σ 45 10 = 0 ∧ sg_g σ 45 7 = t ∧ sg_g σ 45 22 = w ∧ (0 ≤ t ∧ t ≤ 3000) ∧ (0 ≤ w ∧ w ≤ 3000) ∧ 0 ≤ sg_g σ 45 20 ∧ sg_g σ 45 20 + 3 ≤ 3 * w
theorem n_give {σ : sg_S} {d : Nat} {L : List vaF} {t w : Int} {Q : sg_S → Prop} (hO : nO σ t w) (h9 : sg_g σ 45 9 = (d + 1 : Nat)) (h : cO σ d L) (k : ∀ σ', sg_F [48, 53, 8045, 11045, 21045, 22045, 23045] σ σ' → cR σ σ' (d + 1) t w (pyF (.inr (mkF L, cnL d L)) w) → Q σ') : V_nGive σ Q := by
  obtain ⟨o1, o2, o3, o4, o5, o6, o7⟩ := id hO
  obtain ⟨h1, h2, h3⟩ := id h
  have cl := cnL_l d L
  have it : ∀ (i : Nat) (v : vaF), L[i]? = some v → 1 ≤ d → p_nCountOf σ (sg_g σ 54 i) ∧ v_nCountOf σ (sg_g σ 54 i) = cnvF d v ∧ cnvF d v ≤ 3000 := fun i v hv hd => by
    obtain ⟨d', rfl⟩ : ∃ d', d = d' + 1 := ⟨d - 1, by omega⟩
    have q := cv_cnt (by omega) (h3 i v hv)
    exact ⟨q.1, q.2, (cv_x (h3 i v hv) (by omega)).2.2.2⟩
  have sm : ∀ i : Nat, i ≤ L.length → 1 ≤ d → sumF ((L.take i).map (cnvF d)) ≤ 3000 * i := fun i => by
    induction i with
    | zero => intro _ _; simp [sumF]
    | succ i ih =>
      intro hi hd
      obtain ⟨v, hv⟩ := gE_x (l := L) (i := i) (by omega)
      have a := ih (by omega) hd
      have b := (it i v hv hd).2.2
      rw [tkF_1 hv, List.map_append, sumF_a]
      simp only [List.map_cons, List.map_nil, sumF]
      omega
  unfold V_nGive
  rw [h1, h9]
  refine ⟨fun n v1 v2 => ∃ i : Nat, v2 = i ∧ n = L.length - i ∧ i ≤ L.length ∧ v1 = L.length + sumF ((L.take i).map (cnvF d)), fun v1 => v1 = cnL d L, ⟨_, 0, rfl, rfl, Nat.zero_le _, by simp [sumF]⟩, ?_, ?_⟩
  · rintro n v1 v2 r1 r2 ⟨i, rfl, en, hi, ev⟩
    refine ⟨fun z => ?_, fun z => ⟨fun z1 => ?_, fun z1 => ?_⟩⟩
    · have : L.take i = L := List.take_of_length_le (by omega)
      rw [this] at ev; exact ev
    · have d0 : d = 0 := by omega
      subst d0
      rw [cnL_1, ev]
      have : ∀ l : List vaF, sumF (l.map (cnvF 0)) = 0 := fun l => by
        have := cnL_1 l
        unfold cnL at this
        omega
      rw [this]; omega
    · obtain ⟨v, hv⟩ := gE_x (l := L) (i := i) (by omega)
      obtain ⟨q1, q2, q3⟩ := it i v hv (by omega)
      have s1 := sm i hi (by omega)
      have s0 := sum_0 d (L.take i)
      have c0 := cnF_0 d v
      rw [xa_in ⟨by omega, by omega⟩, q2]
      refine ⟨q1, ⟨by omega, by omega⟩, ⟨by omega, by omega⟩, L.length - (i + 1), by omega, i + 1, by omega, rfl, by omega, ?_⟩
      rw [tkF_1 hv, List.map_append, sumF_a, ev]
      simp only [List.map_cons, List.map_nil, sumF]
      omega
  · rintro v1 r1 rfl
    have r1' := r1.2
    unfold V_nSpend
    rw [o3]
    have cb : cnL d L ≤ 700000 := by
      by_cases hd : 1 ≤ d
      · have := sm L.length (Nat.le_refl _) hd
        rw [List.take_length] at this
        unfold cnL
        omega
      · have d0 : d = 0 := by omega
        subst d0
        rw [cnL_1]; omega
    refine ⟨⟨by omega, by omega⟩, fun z σ3 e3 _ f3 => ⟨fun q => absurd q (by decide), fun _ => ?_⟩, fun z σ6 e6 _ f6 => ⟨fun _ => ?_, fun q => absurd rfl q⟩⟩
    · have f3' : sg_F [23045] σ σ3 := by rw [e3]; exact sg_F_w (sg_F_r _ _) rfl _
      refine n_keep (hs := sg_g σ 45 20) (t := t) (cO_F h f3' rfl) rfl (by omega) (sg_F_g f3' (by rfl)) ⟨o6, by omega⟩ (by rw [sg_F_g f3' (by rfl)]; exact o2) ⟨by omega, by omega⟩ (fun σ' f' k1 k2 k3 k4 k5 k6 k7 _ => k σ' (sg_F_t (sg_F_m f3' rfl) (sg_F_m f' rfl)) ?_)
      unfold pyF
      simp only
      rw [if_pos z]
      refine ⟨by rw [sg_F_g f' (by rfl), sg_F_g f3' (by rfl)]; exact o1, by rw [sg_F_g f' (by rfl), e3, sg_gw_e _ _ _ _ ⟨by omega, by omega⟩], ⟨by omega, by omega⟩, k4, k3, cEx_t (cEx_F f3' rfl) k1, by rw [k2]; omega, by rw [k5]; exact k7, fun i hi => by rw [k6 i (by omega), sg_F_ga f3' rfl]⟩
    · have f6' : sg_F [11045] σ σ6 := by rw [e6]; exact sg_F_w (sg_F_r _ _) rfl _
      refine k σ6 (sg_F_m f6' rfl) ?_
      unfold pyF
      simp only
      rw [if_neg (by omega)]
      exact ⟨by rw [e6, sg_gw_e _ _ _ _ (by decide)], by decide, by rw [sg_F_g f6' (by rfl)]; exact o3⟩
/-! OPERATIONS of the nested run, one by one. -/
theorem bad_0 {a : Int} : v_yBadSize a = 0 ↔ (0 ≤ a ∧ a ≤ 200) := by
  unfold v_yBadSize
  by_cases c : a < 0
  · rw [if_pos c]; constructor
    · intro z; cases z
    · intro z; omega
  · rw [if_neg c]
    by_cases c2 : a ≤ 200
    · rw [if_pos c2]; exact ⟨fun _ => ⟨by omega, c2⟩, fun _ => rfl⟩
    · rw [if_neg c2]; constructor
      · intro z; cases z
      · intro z; omega
theorem nO_F {K : List Nat} {σ σ3 : sg_S} {t w : Int} (h : nO σ t w) (f : sg_F K σ σ3) (hK : (!sg_cv K 45 10 && !sg_cv K 45 7 && !sg_cv K 45 22 && !sg_cv K 45 20) = true) : nO σ3 t w := by
  simp only [Bool.and_eq_true, Bool.not_eq_true'] at hK
  obtain ⟨⟨⟨k1, k2⟩, k3⟩, k4⟩ := hK
  unfold nO at h ⊢
  rw [sg_F_g f k1, sg_F_g f k2, sg_F_g f k3, sg_F_g f k4]
  exact h
theorem cR_F {K : List Nat} {σ σ3 σ' : sg_S} {d : Nat} {t w : Int} {r : (Int × Int) ⊕ (vaF × Int)} (f : sg_F K σ σ3) (hK : (!sg_cv K 45 20 && sg_ca K 53 && sg_ca K 48) = true) (h : cR σ3 σ' d t w r) : cR σ σ' d t w r := by
  simp only [Bool.and_eq_true, Bool.not_eq_true'] at hK
  obtain ⟨⟨k1, k2⟩, k3⟩ := hK
  match r, h with
  | .inl (e, w'), h => exact h
  | .inr (v, w'), h =>
    obtain ⟨a1, a2, a3, a4, a5, a6, a7, a8, a9⟩ := h
    refine ⟨a1, a2, a3, a4, a5, cEx_t (cEx_F f (by rw [k1, k2]; rfl)) a6, by rw [← sg_F_g f k1]; exact a7, a8, fun i hi => by rw [a9 i hi, sg_F_ga f k3]⟩
section NOP
variable {σ : sg_S} {d : Nat} {t w x y : Int} {u v : vaF} {Q : sg_S → Prop}
theorem n_flt {σ1 σ' : sg_S} {e : Int} (hO : nO σ t w) (f : sg_F [54, 55, 22045] σ σ1) (he : sg_R e ∧ ¬ e = 0) (e' : σ' = sg_w σ1 45 10 e) : sg_F ngL σ σ' ∧ cR σ σ' d t w (pyF (.inl e) w) := by
  have f2 : sg_F [11045] σ1 σ' := by rw [e']; exact sg_F_w (sg_F_r _ _) rfl _
  refine ⟨sg_F_t (sg_F_m f rfl) (sg_F_m f2 rfl), ?_⟩
  refine ⟨by rw [e', sg_gw_e _ _ _ _ he.1], he.2, ?_⟩
  rw [sg_F_g f2 (by rfl), sg_F_g f (by rfl)]
  exact hO.2.2.1
theorem n_push (ht : sg_g σ 45 7 = t) (t0 : 0 ≤ t ∧ t < 3200) (hx : sg_R x) (k : ∀ σ', sg_F [48, 8045] σ σ' → sg_g σ' 45 7 = t + 1 → sg_g σ' 48 t = x → (∀ i, ¬ i = t → sg_g σ' 48 i = sg_g σ 48 i) → Q σ') : V_mnPush σ x Q := by
  unfold V_mnPush
  rw [ht]
  intro σ1 e1
  rw [xp_in t0] at e1
  refine ⟨⟨by omega, by omega⟩, fun σ5 e5 => k σ5 ?_ ?_ ?_ (fun i hi => ?_)⟩
  · rw [e5, e1]; exact sg_F_w (sg_F_w (sg_F_r _ _) rfl _) rfl _
  · rw [e5, sg_gw_e _ _ _ _ ⟨by omega, by omega⟩]
  · rw [e5, sg_gw_c _ _ _ _ _ _ (by decide), e1, sg_gw_e _ _ _ _ hx]
  · rw [e5, sg_gw_c _ _ _ _ _ _ (by decide), e1, sg_gw_k _ _ _ _ _ _ hi]
theorem n_pop {Q : Int → sg_S → Prop} (ht : sg_g σ 45 7 = t + 1) (t0 : 0 ≤ t ∧ t < 3200) (k : ∀ σ', sg_F [8045] σ σ' → sg_g σ' 45 7 = t → sg_R (sg_g σ 48 t) → Q (sg_g σ 48 t) σ') : V_mnPop σ Q := by
  unfold V_mnPop
  rw [ht, show t + 1 - 1 = t by omega, xa_in t0]
  refine ⟨⟨by omega, by omega⟩, fun σ2 e2 => k σ2 ?_ ?_ (sg_Rg _ _ _)⟩
  · rw [e2]; exact sg_F_w (sg_F_r _ _) rfl _
  · rw [e2, sg_gw_e _ _ _ _ ⟨by omega, by omega⟩]
/-- a value that costs nothing, or n -/
theorem n_valC {c : Int} {σ1 : sg_S} (hO : nO σ t w) (h21 : sg_g σ 45 21 = 0) (hv : cvF σ d v x) (hx : sg_R x) (hc : 0 ≤ c ∧ w + c ≤ 3000) (f1 : sg_F [23045] σ σ1) (h22 : sg_g σ1 45 22 = w + c) (k : ∀ σ', sg_F ngL σ σ' → cR σ σ' d t w (pyF (.inr (v, c)) w) → Q σ') : V_mnPush σ1 x (fun σ' => sg_F [48, 8045] σ1 σ' → Q σ') := by
  obtain ⟨o1, o2, o3, o4, o5, o6, o7⟩ := id hO
  refine n_push (t := t) (by rw [sg_F_g f1 (by rfl)]; exact o2) ⟨by omega, by omega⟩ hx (fun σ' f' k1 k2 k3 _ => ?_)
  have F : sg_F [48, 8045, 23045] σ σ' := sg_F_t (sg_F_m f1 rfl) (sg_F_m f' rfl)
  refine k σ' (sg_F_m F rfl) ?_
  unfold pyF
  simp only
  rw [if_pos hc.2]
  refine ⟨by rw [sg_F_g F (by rfl)]; exact o1, by rw [sg_F_g f' (by rfl)]; exact h22, ⟨by omega, hc.2⟩, k1, by rw [sg_F_g F (by rfl)]; exact h21, cEx_F F rfl, by rw [sg_F_g F (by rfl)]; omega, ?_, fun i hi => by rw [k3 i (by omega), sg_F_ga f1 rfl]⟩
  rw [k2]
  exact cvF_F hv F rfl
theorem n_val (hO : nO σ t w) (h21 : sg_g σ 45 21 = 0) (hv : cvF σ d v x) (hx : sg_R x) (k : ∀ σ', sg_F ngL σ σ' → cR σ σ' d t w (pyF (.inr (v, 0)) w) → Q σ') : V_mnPush σ x (fun σ' => sg_F [48, 8045] σ σ' → Q σ') := n_valC (c := 0) hO h21 hv hx ⟨Int.le_refl _, by have := hO.2.2.2.2.1; omega⟩ (sg_F_r _ _) (by rw [hO.2.2.1]; omega) k
theorem n_giveA {L : List vaF} {σ3 : sg_S} (hO : nO σ t w) (h9 : sg_g σ 45 9 = (d + 1 : Nat)) (f3 : sg_F [54, 55, 22045] σ σ3) (h : cO σ3 d L) (k : ∀ σ', sg_F ngL σ σ' → cR σ σ' (d + 1) t w (pyF (.inr (mkF L, cnL d L)) w) → Q σ') : V_nGive σ3 (fun σ' => sg_F [48, 53, 8045, 11045, 21045, 22045, 23045] σ3 σ' → Q σ') :=
  n_give (nO_F hO f3 rfl) (by rw [sg_F_g f3 (by rfl)]; exact h9) h (fun σ' f' r' _ => k σ' (sg_F_t (sg_F_m f3 rfl) (sg_F_m f' rfl)) (cR_F f3 rfl r'))
theorem n_measure (hO : nO σ t w) (h21 : sg_g σ 45 21 = 0) (hv : cvF σ (d + 1) v x) (k : ∀ σ', sg_F ngL σ σ' → cR σ σ' 0 t w (pyF (.inr (nmF (itF v).length, 0)) w) → Q σ') : V_nMeasure σ x Q := by
  have hB : sg_g σ 45 20 ≤ 9003 := by have := hO.2.2.2.2; omega
  have l := (cv_x hv hB).2.2.1
  unfold V_nMeasure
  rw [cv_len hB hv]
  exact n_val (d := 0) (v := nmF (itF v).length) hO h21 rfl ⟨by omega, by omega⟩ k
theorem n_select (hO : nO σ t w) (h21 : sg_g σ 45 21 = 0) (hv : cvF σ (d + 1) v x) (k : ∀ σ', sg_F ngL σ σ' → cR σ σ' d t w (pyF (if 0 ≤ y ∧ y < (itF v).length then .inr ((itF v).getD y.toNat (nmF 0), 0) else .inl 2) w) → Q σ') : V_nSelect σ x y Q := by
  have hB : sg_g σ 45 20 ≤ 9003 := by have := hO.2.2.2.2; omega
  unfold V_nSelect
  rw [cv_len hB hv]
  refine ⟨fun z σ2 e2 => ?_, fun z => ⟨fun z2 => ?_, fun z2 σ2 e2 => ?_⟩⟩
  · rw [if_neg (by omega)] at k
    obtain ⟨a, b⟩ := n_flt (d := d) hO (sg_F_r _ _) (by decide) e2
    exact k σ2 a b
  · obtain ⟨u, hu⟩ := gE_x (l := itF v) (i := y.toNat) (by omega)
    obtain ⟨q1, q2, q3⟩ := cv_item hB hv hu
    rw [show ((y.toNat : Nat) : Int) = y by omega] at q1 q2 q3
    rw [if_pos ⟨z, z2⟩, List.getD_eq_getElem?_getD, hu, Option.getD_some] at k
    exact ⟨q1, n_val hO h21 q3 q2 k⟩
  · rw [if_neg (by omega)] at k
    obtain ⟨a, b⟩ := n_flt (d := d) hO (sg_F_r _ _) (by decide) e2
    exact k σ2 a b
theorem ar_b {k a b : Int} (hk : 4 ≤ k ∧ k ≤ 10) {R : Int → sg_S → Prop} (kk : R (v_operated k a b) σ) : V_yCompute σ (kmp k) a b R := by
  have c : k = 4 ∨ k = 5 ∨ k = 6 ∨ k = 7 ∨ k = 8 ∨ k = 9 ∨ k = 10 := by omega
  unfold V_yCompute
  rcases c with e | e | e | e | e | e | e <;> subst e
  · refine ⟨fun z => absurd z (by decide), fun _ => ⟨fun z => absurd z (by decide), fun _ => ⟨fun z => absurd z (by decide), fun _ => ⟨fun z => absurd z (by decide), fun _ => ⟨fun z => absurd z (by decide), fun _ => ⟨fun _ => ?_, fun z => absurd rfl z⟩⟩⟩⟩⟩⟩
    unfold V_yCompute_60
    unfold v_operated at kk
    rw [if_pos rfl] at kk
    exact ⟨fun z => by rw [if_pos z] at kk; exact kk, fun z => by rw [if_neg (by omega)] at kk; exact kk⟩
  · refine ⟨fun z => absurd z (by decide), fun _ => ⟨fun z => absurd z (by decide), fun _ => ⟨fun z => absurd z (by decide), fun _ => ⟨fun z => absurd z (by decide), fun _ => ⟨fun z => absurd z (by decide), fun _ => ⟨fun z => absurd z (by decide), fun _ => ⟨fun _ => ?_, fun z => absurd rfl z⟩⟩⟩⟩⟩⟩⟩
    unfold V_yCompute_61
    unfold v_operated at kk
    rw [if_neg (by decide), if_pos rfl] at kk
    exact ⟨fun z => by rw [if_pos z] at kk; exact kk, fun z => by rw [if_neg (fun q => q z)] at kk; exact kk⟩
  · refine ⟨fun z => absurd z (by decide), fun _ => ⟨fun z => absurd z (by decide), fun _ => ⟨fun _ => ?_, fun z => absurd rfl z⟩⟩⟩
    exact kk
  · refine ⟨fun z => absurd z (by decide), fun _ => ⟨fun z => absurd z (by decide), fun _ => ⟨fun z => absurd z (by decide), fun _ => ⟨fun _ => ?_, fun z => absurd rfl z⟩⟩⟩⟩
    exact kk
  · refine ⟨fun z => absurd z (by decide), fun _ => ⟨fun _ => ?_, fun z => absurd rfl z⟩⟩
    exact kk
  · refine ⟨fun z => absurd z (by decide), fun _ => ⟨fun z => absurd z (by decide), fun _ => ⟨fun z => absurd z (by decide), fun _ => ⟨fun z => absurd z (by decide), fun _ => ⟨fun _ => ?_, fun z => absurd rfl z⟩⟩⟩⟩⟩
    unfold V_yCompute_47
    unfold v_operated at kk
    rw [if_neg (by decide), if_neg (by decide), if_neg (by decide), if_neg (by decide), if_neg (by decide)] at kk
    exact ⟨fun z => ⟨z, by rw [if_pos z, if_neg (fun q => q rfl)] at kk; exact kk⟩, fun z => by rw [if_neg (fun q => q z)] at kk; exact kk⟩
  · refine ⟨fun _ => ?_, fun z => absurd rfl z⟩
    unfold V_yCompute_37
    unfold v_operated at kk
    rw [if_neg (by decide), if_neg (by decide), if_neg (by decide), if_neg (by decide), if_neg (by decide)] at kk
    exact ⟨fun z => ⟨z, by rw [if_pos z, if_pos (by decide)] at kk; exact kk⟩, fun z => by rw [if_neg (fun q => q z)] at kk; exact kk⟩
theorem dz_b {k b : Int} (hk : 4 ≤ k ∧ k ≤ 10) : v_yDividesByZero (kmp k) b = 0 ↔ ¬ ((k = 9 ∨ k = 10) ∧ b = 0) := by
  unfold v_yDividesByZero
  by_cases cb : b = 0
  · rw [if_neg (fun q => q cb)]
    have c : k = 4 ∨ k = 5 ∨ k = 6 ∨ k = 7 ∨ k = 8 ∨ k = 9 ∨ k = 10 := by omega
    rcases c with e | e | e | e | e | e | e <;> subst e <;> simp [kmp, cb]
  · rw [if_pos cb]; exact ⟨fun _ q => cb q.2, fun _ => rfl⟩
theorem n_combine {k : Int} (hk : 4 ≤ k ∧ k ≤ 10) (hO : nO σ t w) (h21 : sg_g σ 45 21 = 0) (kk : ∀ σ', sg_F ngL σ σ' → cR σ σ' 0 t w (pyF (if (k = 9 ∨ k = 10) ∧ y = 0 then .inl 1 else .inr (nmF (arF k x y), 0)) w) → Q σ') : V_nCombine σ (kmp k) x y Q := by
  unfold V_nCombine
  refine ⟨fun z => ar_b hk (fun r => ?_), fun z σ2 e2 => ?_⟩
  · rw [if_neg (dz_b hk |>.mp z)] at kk
    exact n_val (d := 0) (v := nmF (arF k x y)) hO h21 rfl r kk
  · have : (k = 9 ∨ k = 10) ∧ y = 0 := Decidable.byContradiction (fun q => z (dz_b hk |>.mpr q))
    rw [if_pos this] at kk
    obtain ⟨a, b⟩ := n_flt (d := 0) hO (sg_F_r _ _) (by decide) e2
    exact kk σ2 a b
theorem n_countUp (hO : nO σ t w) (h21 : sg_g σ 45 21 = 0) (h9 : sg_g σ 45 9 = 1) (k : ∀ σ', sg_F ngL σ σ' → cR σ σ' 1 t w (pyF (if 0 ≤ x ∧ x ≤ 200 then .inr (mkF ((List.range x.toNat).map (fun i : Nat => nmF (i : Int))), cnL 0 ((List.range x.toNat).map (fun i : Nat => nmF (i : Int)))) else .inl 5) w) → Q σ') : V_nCountUp σ x Q := by
  unfold V_nCountUp
  refine ⟨fun z => ?_, fun z σ2 e2 => ?_⟩
  · have hx := bad_0.mp z
    rw [if_pos hx] at k
    refine ⟨fun n v2 σ3 => ∃ i : Nat, v2 = i ∧ n = x.toNat - i ∧ i ≤ x.toNat ∧ cO σ3 0 ((List.range i).map (fun i : Nat => nmF (i : Int))), fun σ3 => cO σ3 0 ((List.range x.toNat).map (fun i : Nat => nmF (i : Int))), ⟨_, 0, rfl, rfl, Nat.zero_le _, cO_0 h21⟩, ?_, fun σ3 f3 h3 => n_giveA hO h9 (sg_F_m f3 rfl) h3 k⟩
    rintro n v2 σ3 r2 f3 ⟨i, rfl, en, hi, hc⟩
    refine ⟨fun q => ?_, fun q => n_add (v := nmF (i : Int)) hc (by rw [List.length_map, List.length_range]; omega) rfl r2 (fun σ' h' f' _ => ⟨⟨by omega, by omega⟩, x.toNat - (i + 1), by omega, i + 1, by omega, rfl, by omega, ?_⟩)⟩
    · rw [show x.toNat = i by omega]; exact hc
    · rw [List.range_succ, List.map_append]; exact h'
  · rw [if_neg (fun q => z (bad_0.mpr q))] at k
    obtain ⟨a, b⟩ := n_flt (d := 1) hO (sg_F_r _ _) (by decide) e2
    exact k σ2 a b
theorem n_repeat (hO : nO σ t w) (h21 : sg_g σ 45 21 = 0) (h9 : sg_g σ 45 9 = (d + 1 : Nat)) (hv : cvF σ d v x) (hx : sg_R x) (k : ∀ σ', sg_F ngL σ σ' → cR σ σ' (d + 1) t w (pyF (if 0 ≤ y ∧ y ≤ 200 then .inr (mkF (List.replicate y.toNat v), cnL d (List.replicate y.toNat v)) else .inl 5) w) → Q σ') : V_nRepeat σ x y Q := by
  unfold V_nRepeat
  refine ⟨fun z => ?_, fun z σ2 e2 => ?_⟩
  · have hy := bad_0.mp z
    rw [if_pos hy] at k
    refine ⟨fun n v2 σ3 => ∃ i : Nat, v2 = i ∧ n = y.toNat - i ∧ i ≤ y.toNat ∧ cO σ3 d (List.replicate i v), fun σ3 => cO σ3 d (List.replicate y.toNat v), ⟨_, 0, rfl, rfl, Nat.zero_le _, cO_0 h21⟩, ?_, fun σ3 f3 h3 => n_giveA hO h9 (sg_F_m f3 rfl) h3 k⟩
    rintro n v2 σ3 r2 f3 ⟨i, rfl, en, hi, hc⟩
    refine ⟨fun q => ?_, fun q => n_add hc (by rw [List.length_replicate]; omega) (cvF_F hv f3 rfl) hx (fun σ' h' f' _ => ⟨⟨by omega, by omega⟩, y.toNat - (i + 1), by omega, i + 1, by omega, rfl, by omega, ?_⟩)⟩
    · rw [show y.toNat = i by omega]; exact hc
    · rw [List.replicate_succ']; exact h'
  · rw [if_neg (fun q => z (bad_0.mpr q))] at k
    obtain ⟨a, b⟩ := n_flt (d := d + 1) hO (sg_F_r _ _) (by decide) e2
    exact k σ2 a b
/-- the numbers of a sequence -/
theorem nu_at {i : Nat} (hB : sg_g σ 45 20 ≤ 9003) (hv : cvF σ 1 v x) (hi : i < (itF v).length) : (nuF v)[i]? = some (v_nItemOf σ x (i : Int)) ∧ p_nItemOf σ x (i : Int) ∧ sg_R (v_nItemOf σ x (i : Int)) := by
  obtain ⟨u, hu⟩ := gE_x hi
  obtain ⟨q1, q2, q3⟩ := cv_item hB hv hu
  refine ⟨?_, q1, q2⟩
  unfold nuF
  rw [List.getElem?_map, hu]
  show some (u []) = _
  rw [q3]
theorem nu_l (v : vaF) : (nuF v).length = (itF v).length := by simp [nuF]
theorem fo_b {k a b : Int} (hk : k = 18 ∨ k = 19 ∨ k = 20) {R : Int → sg_S → Prop} (kk : ∀ q, q = (if k = 18 then sg_n (a + b) else if k = 19 then (if a < b then b else a) else if b < a then b else a) → R q σ) : V_yFold σ (kmp k) a b R := by
  unfold V_yFold
  rcases hk with e | e | e <;> subst e
  · exact ⟨fun z => absurd rfl z, fun _ => kk _ rfl⟩
  · refine ⟨fun _ => ⟨fun z => absurd rfl z, fun _ v6 e6 _ => kk v6 ?_⟩, fun z => absurd z (by decide)⟩
    rw [e6]; rfl
  · refine ⟨fun _ => ⟨fun _ v3 e3 _ => kk v3 ?_, fun z => absurd z (by decide)⟩, fun z => absurd z (by decide)⟩
    rw [e3]; rfl
theorem fo_s {k m z : Int} {l : List Int} : foF k m (z :: l) = foF k (if k = 18 then sg_n (m + z) else if k = 19 then (if m < z then z else m) else if z < m then z else m) l := rfl
theorem dr_c {α : Type} {l : List α} {i : Nat} {z : α} (h : l[i]? = some z) : l.drop i = z :: l.drop (i + 1) := by
  have hi := gE_l h
  rw [List.drop_eq_getElem_cons hi]
  rw [List.getElem?_eq_getElem hi] at h
  rw [Option.some.inj h]
/-- fold from place 1 on, then pay -/
theorem n_red {k : Int} {a0 : Int} (hk : k = 18 ∨ k = 19 ∨ k = 20) (hO : nO σ t w) (h21 : sg_g σ 45 21 = 0) (hv : cvF σ 1 v x) (ra : sg_R a0) (kk : ∀ σ', sg_F ngL σ σ' → cR σ σ' 0 t w (pyF (.inr (nmF (foF k a0 ((nuF v).drop 1)), (itF v).length)) w) → Q σ') : (∃ (I12 : Nat → Int → Int → Prop) (X14 : Int → Prop), (∃ n, I12 n (a0) (1)) ∧ (∀ (n23 : Nat) (v8 : Int) (v9 : Int), sg_R v8 → sg_R v9 → I12 n23 v8 v9 → (((v_nLengthOf σ (x)) ≤ v9 → X14 (v8)) ∧ (v9 < (v_nLengthOf σ (x)) → p_nItemOf σ (x) (v9) ∧ V_yFold σ (kmp k) (v8) ((v_nItemOf σ (x) (v9))) (fun q41 _ => sg_R q41 → sg_R (v9 + 1) ∧ (∃ m, m < n23 ∧ I12 m (q41) ((v9 + 1))))))) ∧ (∀ (v8 : Int), sg_R v8 → X14 v8 → V_nSpend σ ((v_nLengthOf σ (x))) (fun q25 σ26 => (q25 = 0 ∨ q25 = 1) → sg_F [11045, 23045] σ σ26 → ((q25 = 0 → Q σ26) ∧ (¬ q25 = 0 → V_mnPush σ26 (v8) (fun σ33 => sg_F [48, 8045] σ26 σ33 → Q σ33)))))) := by
  have hB : sg_g σ 45 20 ≤ 9003 := by have := hO.2.2.2.2; omega
  have l2 := (cv_x hv hB).2.2.1
  rw [cv_len hB hv]
  refine ⟨fun n v8 v9 => ∃ i : Nat, v9 = (i + 1 : Nat) ∧ n = (itF v).length - (i + 1) ∧ foF k v8 ((nuF v).drop (i + 1)) = foF k a0 ((nuF v).drop 1), fun v8 => v8 = foF k a0 ((nuF v).drop 1), ⟨_, 0, rfl, rfl, rfl⟩, ?_, ?_⟩
  · rintro n v8 v9 r8 r9 ⟨i, rfl, en, ef⟩
    refine ⟨fun z => ?_, fun z => ?_⟩
    · rw [List.drop_of_length_le (by rw [nu_l]; omega)] at ef
      exact ef
    · obtain ⟨q1, q2, q3⟩ := nu_at hB hv (i := i + 1) (by omega)
      refine ⟨q2, fo_b hk (fun q eq rq => ⟨⟨by omega, by omega⟩, (itF v).length - (i + 1 + 1), by omega, i + 1, by omega, rfl, ?_⟩)⟩
      rw [dr_c q1, fo_s] at ef
      rw [eq]; exact ef
  · rintro v8 r8 e8
    obtain ⟨o1, o2, o3, o4, o5, o6, o7⟩ := id hO
    unfold V_nSpend
    rw [o3]
    refine ⟨⟨by omega, by omega⟩, fun z σ3 e3 _ f3 => ⟨fun q => absurd q (by decide), fun _ => ?_⟩, fun z σ6 e6 _ f6 => ⟨fun _ => ?_, fun q => absurd rfl q⟩⟩
    · have f3' : sg_F [23045] σ σ3 := by rw [e3]; exact sg_F_w (sg_F_r _ _) rfl _
      exact n_valC (d := 0) (v := nmF (foF k a0 ((nuF v).drop 1))) hO h21 e8.symm r8 ⟨by omega, z⟩ f3' (by rw [e3, sg_gw_e _ _ _ _ ⟨by omega, by omega⟩]) kk
    · have f6' : sg_F [11045] σ σ6 := by rw [e6]; exact sg_F_w (sg_F_r _ _) rfl _
      refine kk σ6 (sg_F_m f6' rfl) ?_
      unfold pyF
      simp only
      rw [if_neg (by omega)]
      exact ⟨by rw [e6, sg_gw_e _ _ _ _ (by decide)], by decide, by rw [sg_F_g f6' (by rfl)]; exact o3⟩
theorem nu_c {i : Nat} {z : Int} {l : List Int} (h : l[0]? = some z) (hi : i = 1) : l = z :: l.drop i := by
  subst hi
  have := dr_c h
  rw [List.drop_zero] at this
  exact this
theorem n_reduce {k : Int} (hk : k = 18 ∨ k = 19 ∨ k = 20) (hO : nO σ t w) (h21 : sg_g σ 45 21 = 0) (hv : cvF σ 1 v x) (kk : ∀ σ', sg_F ngL σ σ' → cR σ σ' 0 t w (pyF (if k = 18 then .inr (nmF (foF 18 0 (nuF v)), (itF v).length) else (match nuF v with
    | [] => .inl 4
    | y :: r => .inr (nmF (foF k y r), (itF v).length))) w) → Q σ') : V_nReduce σ (kmp k) x Q := by
  have hB : sg_g σ 45 20 ≤ 9003 := by have := hO.2.2.2.2; omega
  have l2 := (cv_x hv hB).2.2.1
  have hlen := cv_len hB hv
  unfold V_nReduce
  refine ⟨fun z => ⟨⟨fun _ => ⟨(nu_at hB hv (i := 0) (by omega)).2.1, trivial⟩, fun _ => trivial⟩, fun v5 e5 r5 => ?_⟩, fun z => ⟨fun z2 => ⟨⟨fun q => absurd z q, fun _ => trivial⟩, fun v5 e5 r5 => ?_⟩, fun z2 σ2 e2 => ?_⟩⟩
  · rw [if_pos z] at e5
    rw [hlen] at z
    obtain ⟨q1, q2, q3⟩ := nu_at hB hv (i := 0) (by omega)
    have e5' : v5 = v_nItemOf σ x ((0 : Nat) : Int) := e5
    rw [← e5'] at q1
    refine n_red hk hO h21 hv r5 (fun σ' f' r' => kk σ' f' ?_)
    have nc := nu_c (i := 1) q1 rfl
    by_cases c : k = 18
    · rw [if_pos c]
      subst c
      rw [nc, fo_s, if_pos rfl, show sg_n (0 + v5) = v5 by rw [Int.zero_add]; exact sg_id r5]
      rw [nc] at r'
      simp only [List.drop_succ_cons, List.drop_zero] at r'
      exact r'
    · rw [if_neg c, nc]
      rw [nc] at r'
      simp only [List.drop_succ_cons, List.drop_zero] at r'
      exact r'
  · rw [if_neg (fun q => q z)] at e5
    subst e5
    refine n_red hk hO h21 hv r5 (fun σ' f' r' => kk σ' f' ?_)
    have k18 : k = 18 := by
      rcases hk with e | e | e
      · exact e
      · subst e; exact absurd z2 (by decide)
      · subst e; exact absurd z2 (by decide)
    rw [if_pos k18]
    have n0 : nuF v = [] := List.eq_nil_of_length_eq_zero (by rw [nu_l]; omega)
    rw [n0] at r' ⊢
    subst k18
    exact r'
  · have k18 : ¬ k = 18 := fun e => z2 (by subst e; rfl)
    rw [if_neg k18] at kk
    have n0 : nuF v = [] := List.eq_nil_of_length_eq_zero (by rw [nu_l]; omega)
    rw [n0] at kk
    obtain ⟨a, b⟩ := n_flt (d := 0) hO (sg_F_r _ _) (by decide) e2
    exact kk σ2 a b
theorem sc_l : ∀ (m : Int) (l : List Int), (scnF m l).length = l.length
  | _, [] => rfl
  | m, z :: l => by simp only [scnF, List.length_cons, sc_l]
theorem n_sumUp (hO : nO σ t w) (h21 : sg_g σ 45 21 = 0) (h9 : sg_g σ 45 9 = 1) (hv : cvF σ 1 v x) (k : ∀ σ', sg_F ngL σ σ' → cR σ σ' 1 t w (pyF (.inr (mkF ((scnF 0 (nuF v)).map nmF), cnL 0 ((scnF 0 (nuF v)).map nmF))) w) → Q σ') : V_nSumUp σ x Q := by
  have hB : sg_g σ 45 20 ≤ 9003 := by have := hO.2.2.2.2; omega
  have l2 := (cv_x hv hB).2.2.1
  have hlen := cv_len hB hv
  have sl : (scnF 0 (nuF v)).length = (itF v).length := by rw [sc_l, nu_l]
  unfold V_nSumUp
  rw [hlen]
  refine ⟨fun n v1 v2 σ3 => ∃ i : Nat, v2 = i ∧ n = (itF v).length - i ∧ i ≤ (itF v).length ∧ (scnF 0 (nuF v)).drop i = scnF v1 ((nuF v).drop i) ∧ cO σ3 0 (((scnF 0 (nuF v)).take i).map nmF), fun σ3 => cO σ3 0 ((scnF 0 (nuF v)).map nmF), ⟨_, 0, rfl, rfl, Nat.zero_le _, rfl, cO_0 h21⟩, ?_, fun σ3 f3 h3 => n_giveA hO h9 (sg_F_m f3 rfl) h3 k⟩
  rintro n v1 v2 σ3 r1 r2 f3 ⟨i, rfl, en, hi, ed, hc⟩
  refine ⟨fun z => ?_, fun z => ?_⟩
  · have : (scnF 0 (nuF v)).take i = scnF 0 (nuF v) := List.take_of_length_le (by omega)
    rw [this] at hc; exact hc
  · obtain ⟨q1, q2, q3⟩ := nu_at hB hv (i := i) (by omega)
    rw [dr_c q1] at ed
    simp only [scnF] at ed
    have g1 : (scnF 0 (nuF v))[i]? = some v1 := by rw [← List.head?_drop, ed]; rfl
    refine n_add (v := nmF v1) hc (by rw [List.length_map, List.length_take]; omega) rfl r1 (fun σ' h' f' _ => ⟨q2, ⟨by omega, by omega⟩, (itF v).length - (i + 1), by omega, i + 1, by omega, rfl, by omega, ?_, ?_⟩)
    · have := dr_c g1
      rw [ed] at this
      injection this with _ this
      exact this.symm
    · rw [tkF_1 g1, List.map_append]; exact h'
theorem n_reverse (hO : nO σ t w) (h21 : sg_g σ 45 21 = 0) (h9 : sg_g σ 45 9 = (d + 1 : Nat)) (hv : cvF σ (d + 1) v x) (k : ∀ σ', sg_F ngL σ σ' → cR σ σ' (d + 1) t w (pyF (.inr (mkF (itF v).reverse, cnL d (itF v).reverse)) w) → Q σ') : V_nReverse σ x Q := by
  have hB : sg_g σ 45 20 ≤ 9003 := by have := hO.2.2.2.2; omega
  have l2 := (cv_x hv hB).2.2.1
  unfold V_nReverse
  rw [cv_len hB hv]
  refine ⟨⟨by omega, by omega⟩, fun n v3 σ4 => ∃ j : Nat, v3 = (itF v).length - 1 - j ∧ n = (itF v).length - j ∧ j ≤ (itF v).length ∧ cO σ4 d ((itF v).reverse.take j), fun σ4 => cO σ4 d (itF v).reverse, ⟨_, 0, by omega, rfl, Nat.zero_le _, cO_0 h21⟩, ?_, fun σ3 f3 h3 => n_giveA hO h9 (sg_F_m f3 rfl) h3 k⟩
  rintro n v3 σ4 r3 f4 ⟨j, e3, en, hj, hc⟩
  refine ⟨fun z => ?_, fun z => ?_⟩
  · have : (itF v).reverse.take j = (itF v).reverse := List.take_of_length_le (by rw [List.length_reverse]; omega)
    rw [this] at hc; exact hc
  · obtain ⟨u, hu⟩ := gE_x (l := itF v) (i := (itF v).length - 1 - j) (by omega)
    obtain ⟨q1, q2, q3⟩ := cv_item hB hv hu
    rw [show (((itF v).length - 1 - j : Nat) : Int) = v3 by omega] at q1 q2 q3
    have hr : (itF v).reverse[j]? = some u := by rw [List.getElem?_reverse (by omega)]; exact hu
    refine ⟨q1, n_add hc (by rw [List.length_take, List.length_reverse]; omega) (cvF_F q3 f4 rfl) q2 (fun σ' h' f' _ => ⟨⟨by omega, by omega⟩, (itF v).length - (j + 1), by omega, j + 1, by omega, rfl, by omega, ?_⟩)⟩
    rw [tkF_1 hr]; exact h'
theorem n_append (hO : nO σ t w) (h21 : sg_g σ 45 21 = 0) (h9 : sg_g σ 45 9 = (d + 1 : Nat)) (hv : cvF σ (d + 1) v x) (hu : cvF σ (d + 1) u y) (k : ∀ σ', sg_F ngL σ σ' → cR σ σ' (d + 1) t w (pyF (if (itF v).length + (itF u).length ≤ 200 then .inr (mkF (itF v ++ itF u), cnL d (itF v ++ itF u)) else .inl 5) w) → Q σ') : V_nAppend σ x y Q := by
  have hB : sg_g σ 45 20 ≤ 9003 := by have := hO.2.2.2.2; omega
  have l2 := (cv_x hv hB).2.2.1
  have l3 := (cv_x hu hB).2.2.1
  unfold V_nAppend
  rw [cv_len hB hv, cv_len hB hu]
  refine ⟨⟨by omega, by omega⟩, fun z => ?_, fun z σ2 e2 => ?_⟩
  · have := bad_0.mp z
    rw [if_pos (by omega)] at k
    refine n_addAll (L := []) hB (cO_0 h21) hv (by simp only [List.length_nil]; omega) (fun σ6 h6 f6 _ => ?_)
    rw [List.nil_append] at h6
    refine n_addAll (by rw [sg_F_g f6 (by rfl)]; exact hB) h6 (cvF_F hu f6 rfl) (by omega) (fun σ12 h12 f12 _ => ?_)
    exact n_giveA hO h9 (sg_F_t (sg_F_m f6 rfl) (sg_F_m f12 rfl)) h12 k
  · rw [if_neg (fun q => z (bad_0.mpr ⟨by omega, by omega⟩))] at k
    obtain ⟨a, b⟩ := n_flt (d := d + 1) hO (sg_F_r _ _) (by decide) e2
    exact k σ2 a b
theorem fl_l (l : List vaF) : (((l.map itF).flatten.length : Nat) : Int) = sumF (l.map (fun v => ((itF v).length : Int))) := by
  induction l with
  | nil => rfl
  | cons z r ih =>
    simp only [List.map_cons, List.flatten_cons, List.length_append, sumF]
    omega
theorem n_flatten (hO : nO σ t w) (h21 : sg_g σ 45 21 = 0) (h9 : sg_g σ 45 9 = (d + 1 : Nat)) (hv : cvF σ (d + 2) v x) (k : ∀ σ', sg_F ngL σ σ' → cR σ σ' (d + 1) t w (pyF (if sumF ((itF v).map (fun v => ((itF v).length : Int))) ≤ 200 then .inr (mkF ((itF v).map itF).flatten, cnL d ((itF v).map itF).flatten) else .inl 5) w) → Q σ') : V_nFlatten σ x Q := by
  have hB : sg_g σ 45 20 ≤ 9003 := by have := hO.2.2.2.2; omega
  have l2 := (cv_x hv hB).2.2.1
  unfold V_nFlatten
  rw [cv_len hB hv]
  have it : ∀ (i : Nat) (z : vaF), (itF v)[i]? = some z → (itF z).length ≤ 200 := fun i z hz => (cv_x (cv_item hB hv hz).2.2 hB).2.2.1
  have sm : ∀ i : Nat, i ≤ (itF v).length → 0 ≤ sumF (((itF v).take i).map (fun v => ((itF v).length : Int))) ∧ sumF (((itF v).take i).map (fun v => ((itF v).length : Int))) ≤ 200 * i := fun i => by
    induction i with
    | zero => intro _; simp [sumF]
    | succ i ih =>
      intro hi
      obtain ⟨z, hz⟩ := gE_x (l := itF v) (i := i) (by omega)
      have a := ih (by omega)
      have b := it i z hz
      rw [tkF_1 hz, List.map_append, sumF_a]
      simp only [List.map_cons, List.map_nil, sumF]
      omega
  refine ⟨fun n v1 v2 => ∃ i : Nat, v2 = i ∧ n = (itF v).length - i ∧ i ≤ (itF v).length ∧ v1 = sumF (((itF v).take i).map (fun v => ((itF v).length : Int))), fun v1 => v1 = sumF ((itF v).map (fun v => ((itF v).length : Int))), ⟨_, 0, rfl, rfl, Nat.zero_le _, rfl⟩, ?_, ?_⟩
  · rintro n v1 v2 r1 r2 ⟨i, rfl, en, hi, ev⟩
    have s1 := sm i hi
    refine ⟨fun z => ?_, fun z => ?_⟩
    · have : (itF v).take i = itF v := List.take_of_length_le (by omega)
      rw [this] at ev; exact ev
    · obtain ⟨u, hu⟩ := gE_x (l := itF v) (i := i) (by omega)
      obtain ⟨q1, q2, q3⟩ := cv_item hB hv hu
      have b := it i u hu
      rw [cv_len hB q3]
      refine ⟨q1, ⟨by omega, by omega⟩, ⟨by omega, by omega⟩, (itF v).length - (i + 1), by omega, i + 1, by omega, rfl, by omega, ?_⟩
      rw [tkF_1 hu, List.map_append, sumF_a, ev]
      simp only [List.map_cons, List.map_nil, sumF]
      omega
  · rintro v1 r1 rfl
    have s1 := sm (itF v).length (Nat.le_refl _)
    rw [List.take_length] at s1
    refine ⟨fun z => ?_, fun z σ2 e2 => ?_⟩
    · have bz := bad_0.mp z
      rw [if_pos bz.2] at k
      refine ⟨fun n v19 σ20 => ∃ i : Nat, v19 = i ∧ n = (itF v).length - i ∧ i ≤ (itF v).length ∧ cO σ20 d (((itF v).take i).map itF).flatten, fun σ20 => cO σ20 d ((itF v).map itF).flatten, ⟨_, 0, rfl, rfl, Nat.zero_le _, cO_0 h21⟩, ?_, fun σ3 f3 h3 => n_giveA hO h9 (sg_F_m f3 rfl) h3 k⟩
      rintro n v19 σ20 r19 f20 ⟨i, rfl, en, hi, hc⟩
      refine ⟨fun z => ?_, fun z => ?_⟩
      · have : (itF v).take i = itF v := List.take_of_length_le (by omega)
        rw [this] at hc; exact hc
      · obtain ⟨u, hu⟩ := gE_x (l := itF v) (i := i) (by omega)
        obtain ⟨q1, q2, q3⟩ := cv_item hB hv hu
        have hl : (((itF v).take (i + 1)).map itF).flatten = (((itF v).take i).map itF).flatten ++ itF u := by
          rw [tkF_1 hu, List.map_append, List.flatten_append]; simp
        have hle : ((((itF v).take (i + 1)).map itF).flatten.length : Int) ≤ 200 := by
          have e1 := fl_l (itF v)
          have e2 := List.take_append_drop (i + 1) (itF v)
          have e3 : ((itF v).map itF).flatten.length = (((itF v).take (i + 1)).map itF).flatten.length + (((itF v).drop (i + 1)).map itF).flatten.length := by
            rw [← List.length_append, ← List.flatten_append, ← List.map_append, e2]
          omega
        rw [hl, List.length_append] at hle
        refine ⟨q1, n_addAll (by rw [sg_F_g f20 (by rfl)]; exact hB) hc (cvF_F q3 f20 rfl) (by omega) (fun σ' h' f' _ => ⟨⟨by omega, by omega⟩, (itF v).length - (i + 1), by omega, i + 1, by omega, rfl, by omega, ?_⟩)⟩
        rw [hl]; exact h'
    · rw [if_neg (fun q => z (bad_0.mpr ⟨s1.1, q⟩))] at k
      obtain ⟨a, b⟩ := n_flt (d := d + 1) hO (sg_F_r _ _) (by decide) e2
      exact k σ2 a b
theorem pk_s : ∀ {i : Nat} {l : List vaF} {m : List Int} {z : vaF} {y : Int}, l[i]? = some z → m[i]? = some y → pkF (l.take (i + 1)) (m.take (i + 1)) = pkF (l.take i) (m.take i) ++ (if y = 0 then [] else [z])
  | 0, z0 :: l, y0 :: m, z, y, h1, h2 => by
    simp only [List.getElem?_cons_zero, Option.some.injEq] at h1 h2
    subst h1 h2
    simp only [Nat.zero_add, List.take_succ_cons, List.take_zero, pkF]
    split <;> simp
  | i + 1, z0 :: l, y0 :: m, z, y, h1, h2 => by
    simp only [List.getElem?_cons_succ] at h1 h2
    have := pk_s h1 h2
    simp only [List.take_succ_cons, pkF]
    rw [this]
    split <;> simp
  | _, [], _, z, y, h1, h2 => by simp at h1
  | _, _ :: _, [], z, y, h1, h2 => by simp at h2
theorem pk_l : ∀ (l : List vaF) (m : List Int), (pkF l m).length ≤ l.length
  | [], _ => by simp [pkF]
  | z :: l, [] => by simp [pkF]
  | z :: l, y :: m => by
    have := pk_l l m
    simp only [pkF, List.length_cons]
    split
    · omega
    · simp only [List.length_cons]; omega
theorem n_pack (hO : nO σ t w) (h21 : sg_g σ 45 21 = 0) (h9 : sg_g σ 45 9 = (d + 1 : Nat)) (hv : cvF σ (d + 1) v x) (hu : cvF σ 1 u y) (k : ∀ σ', sg_F ngL σ σ' → cR σ σ' (d + 1) t w (pyF (if (itF v).length = (itF u).length then .inr (mkF (pkF (itF v) (nuF u)), cnL d (pkF (itF v) (nuF u))) else .inl 3) w) → Q σ') : V_nPack σ x y Q := by
  have hB : sg_g σ 45 20 ≤ 9003 := by have := hO.2.2.2.2; omega
  have l2 := (cv_x hv hB).2.2.1
  unfold V_nPack
  rw [cv_len hB hv, cv_len hB hu]
  refine ⟨fun z => ?_, fun z σ2 e2 => ?_⟩
  · rw [if_pos (by omega)] at k
    have lu := nu_l u
    refine ⟨fun n v4 σ5 => ∃ i : Nat, v4 = i ∧ n = (itF v).length - i ∧ i ≤ (itF v).length ∧ cO σ5 d (pkF ((itF v).take i) ((nuF u).take i)), fun σ5 => cO σ5 d (pkF (itF v) (nuF u)), ⟨_, 0, rfl, rfl, Nat.zero_le _, cO_0 h21⟩, ?_, fun σ3 f3 h3 => n_giveA hO h9 (sg_F_m f3 rfl) h3 k⟩
    rintro n v4 σ5 r4 f5 ⟨i, rfl, en, hi, hc⟩
    refine ⟨fun z => ?_, fun z => ?_⟩
    · have e1 : (itF v).take i = itF v := List.take_of_length_le (by omega)
      have e2 : (nuF u).take i = nuF u := List.take_of_length_le (by omega)
      rw [e1, e2] at hc; exact hc
    · obtain ⟨c, hcc⟩ := gE_x (l := itF v) (i := i) (by omega)
      obtain ⟨q1, q2, q3⟩ := cv_item hB hv hcc
      obtain ⟨p1, p2, p3⟩ := nu_at hB hu (i := i) (by omega)
      have st := pk_s hcc p1
      refine ⟨p2, fun σ32 => cO σ32 d (pkF ((itF v).take (i + 1)) ((nuF u).take (i + 1))), ⟨fun z => ?_, fun z => ⟨q1, n_add hc ?_ (cvF_F q3 f5 rfl) q2 (fun σ' h' f' _ => ?_)⟩⟩, fun σ32 f32 h32 => ⟨⟨by omega, by omega⟩, (itF v).length - (i + 1), by omega, i + 1, by omega, rfl, by omega, h32⟩⟩
      · rw [st, if_pos z, List.append_nil]; exact hc
      · have := pk_l ((itF v).take i) ((nuF u).take i)
        rw [List.length_take] at this
        omega
      · rw [st, if_neg z]; exact h'
  · rw [if_neg (by omega)] at k
    obtain ⟨a, b⟩ := n_flt (d := d + 1) hO (sg_F_r _ _) (by decide) e2
    exact k σ2 a b
end NOP
