/-! What the methods of the nested run of the class ask for (5). -/
def V_mnRun (σ : sg_S) (a1 : Int) (Q : Int → sg_S → Prop) : Prop := V_mnStart σ  (fun σ2 => sg_F [47, 8045, 9045, 11045, 21045, 22045, 23045, 24045] σ σ2 → (∃ (I10 : Nat → Int → sg_S → Prop) (X12 : sg_S → Prop), (∃ n, I10 n (0) σ2) ∧ (∀ (n20 : Nat) (v7 : Int) (σ8 : sg_S), sg_R v7 → sg_F [46, 47, 48, 53, 54, 55, 56, 57, 58, 59, 60, 8045, 9045, 10045, 11045, 21045, 22045, 23045, 24045] σ2 σ8 → I10 n20 v7 σ8 → ((100000 ≤ v7 → X12 σ8) ∧ (v7 < 100000 → (((sg_g σ8 45 8) < 0 → X12 σ8) ∧ (0 ≤ (sg_g σ8 45 8) → ((¬ (sg_g σ8 45 10) = 0 → X12 σ8) ∧ ((sg_g σ8 45 10) = 0 → sg_R ((sg_g σ8 45 8) + 1) ∧ ∀ σ32, σ32 = (sg_w σ8 45 8 (((sg_g σ8 45 8) + 1))) → (∃ P35 : sg_S → Prop, (((sx_at σ 29 1013 ((sg_g σ8 45 8))) = 0 → V_nBegin σ32 ((sx_at σ 30 1013 ((sg_g σ8 45 8)))) (fun σ45 => sg_F [11045, 23045, 24045] σ32 σ45 → P35 σ45)) ∧ (¬ (sx_at σ 29 1013 ((sg_g σ8 45 8))) = 0 → (((sx_at σ 29 1013 ((sg_g σ8 45 8))) = 1 → V_mnFinish σ32 ((sx_at σ 30 1013 ((sg_g σ8 45 8)))) (fun σ53 => sg_F [48, 53, 54, 8045, 10045, 11045, 21045, 22045, 23045] σ32 σ53 → P35 σ53)) ∧ (¬ (sx_at σ 29 1013 ((sg_g σ8 45 8))) = 1 → (((sx_at σ 29 1013 ((sg_g σ8 45 8))) = 2 → V_mnFinishOne σ32 ((sx_at σ 30 1013 ((sg_g σ8 45 8)))) (fun σ61 => sg_F [48, 53, 54, 8045, 10045, 11045, 21045, 22045, 23045] σ32 σ61 → P35 σ61)) ∧ (¬ (sx_at σ 29 1013 ((sg_g σ8 45 8))) = 2 → (((sx_at σ 29 1013 ((sg_g σ8 45 8))) = 3 → V_mnFinishTwo σ32 ((sx_at σ 30 1013 ((sg_g σ8 45 8)))) (fun σ69 => sg_F [48, 53, 54, 55, 8045, 10045, 11045, 21045, 22045, 23045] σ32 σ69 → P35 σ69)) ∧ (¬ (sx_at σ 29 1013 ((sg_g σ8 45 8))) = 3 → (((sx_at σ 29 1013 ((sg_g σ8 45 8))) = 4 → V_mnPop σ32  (fun q76 σ77 => sg_R q76 → sg_F [8045] σ32 σ77 → ∀ σ82, σ82 = (sx_put σ77 46 272 ((sx_at σ 16 200 ((sx_at σ 30 1013 ((sg_g σ8 45 8)))))) (q76)) → P35 σ82)) ∧ (¬ (sx_at σ 29 1013 ((sg_g σ8 45 8))) = 4 → (((sx_at σ 29 1013 ((sg_g σ8 45 8))) = 5 → V_mnEnter σ32 ((sx_at σ 16 200 ((sx_at σ 30 1013 ((sg_g σ8 45 8)))))) (fun σ88 => sg_F [46, 47, 8045, 9045] σ32 σ88 → P35 σ88)) ∧ (¬ (sx_at σ 29 1013 ((sg_g σ8 45 8))) = 5 → (((sx_at σ 29 1013 ((sg_g σ8 45 8))) = 6 → ∀ σ95, σ95 = (sg_w σ32 45 8 ((sx_at σ8 47 13 ((sx_at σ 30 1013 ((sg_g σ8 45 8))))))) → P35 σ95) ∧ (¬ (sx_at σ 29 1013 ((sg_g σ8 45 8))) = 6 → (((sx_at σ 29 1013 ((sg_g σ8 45 8))) = 7 → V_nFork σ32 ((sx_at σ 30 1013 ((sg_g σ8 45 8)))) (fun σ101 => sg_F [8045, 9045] σ32 σ101 → P35 σ101)) ∧ (¬ (sx_at σ 29 1013 ((sg_g σ8 45 8))) = 7 → (((sx_at σ 29 1013 ((sg_g σ8 45 8))) = 8 → V_nTurn σ32 ((sx_at σ 30 1013 ((sg_g σ8 45 8)))) (fun σ109 => sg_F [9045] σ32 σ109 → P35 σ109)) ∧ (¬ (sx_at σ 29 1013 ((sg_g σ8 45 8))) = 8 → (((sx_at σ 29 1013 ((sg_g σ8 45 8))) = 9 → V_nJoin σ32 ((sx_at σ 30 1013 ((sg_g σ8 45 8)))) (fun σ117 => sg_F [] σ32 σ117 → P35 σ117)) ∧ (¬ (sx_at σ 29 1013 ((sg_g σ8 45 8))) = 9 → (((sx_at σ 29 1013 ((sg_g σ8 45 8))) = 10 → V_nOpen σ32 ((sx_at σ 30 1013 ((sg_g σ8 45 8)))) (fun σ125 => sg_F [46, 56, 57, 58, 59, 60, 9045, 11045, 24045] σ32 σ125 → P35 σ125)) ∧ (¬ (sx_at σ 29 1013 ((sg_g σ8 45 8))) = 10 → (((sx_at σ 29 1013 ((sg_g σ8 45 8))) = 11 → V_nSift σ32 ((sx_at σ 30 1013 ((sg_g σ8 45 8)))) (fun σ133 => sg_F [46, 57, 60, 8045, 9045, 24045] σ32 σ133 → P35 σ133)) ∧ (¬ (sx_at σ 29 1013 ((sg_g σ8 45 8))) = 11 → V_nNext σ32 ((sx_at σ 30 1013 ((sg_g σ8 45 8)))) (fun σ139 => sg_F [46, 57, 60, 9045, 24045] σ32 σ139 → P35 σ139))))))))))))))))))))))))) ∧ (∀ (σ36 : sg_S), sg_F [46, 47, 48, 53, 54, 55, 56, 57, 58, 59, 60, 8045, 9045, 10045, 11045, 21045, 22045, 23045, 24045] σ32 σ36 → P35 σ36 → sg_R (v7 + 1) ∧ (∃ m, m < n20 ∧ I10 m ((v7 + 1)) σ36)))))))))) ∧ (∀ (σ8 : sg_S), sg_F [46, 47, 48, 53, 54, 55, 56, 57, 58, 59, 60, 8045, 9045, 10045, 11045, 21045, 22045, 23045, 24045] σ2 σ8 → X12 σ8 → V_mnConclude σ8 (a1) (fun σ23 => sg_F [49, 50, 51, 52, 8045, 12045] σ8 σ23 → Q ((sg_g σ8 45 10)) σ23))))
set_option maxHeartbeats 4000000 in
set_option maxRecDepth 8000 in
theorem w_mnRun (z : Value) (σ : sg_S) (a1 : Int) (Q : Int → sg_S → Prop) (ra1 : sg_R a1) (w : V_mnRun σ a1 Q) : wx z 8 126 0 [(0, .inr (.inr (.ref 45))), (1, .inl (a1))] [] σ (fun v σ' => ∃ q, v = some (.inl q) ∧ sg_R q ∧ sg_F [46, 47, 48, 49, 50, 51, 52, 53, 54, 55, 56, 57, 58, 59, 60, 8045, 9045, 10045, 11045, 12045, 21045, 22045, 23045, 24045] σ σ' ∧ Q q σ') := by
  unfold V_mnRun at w
  refine wk_b tt_126 1 (pc' := 1) (ls' := [(0, .inr (.inr (.ref 45))), (1, .inl (a1))]) (st' := [.inr (.inr (.ref 45))]) (σ' := σ) rfl ?_
  refine wk_call tt_126 rfl rfl rfl rfl rfl tt_127 rfl (by decide) (w_mnStart z σ  _  w) (fun u6 σ2 hq4 => ?_)
  obtain ⟨rfl, hF3, w⟩ := hq4
  have w := w hF3
  refine wk_b tt_126 2 (pc' := 6) (ls' := [(2, .inl (0)), (0, .inr (.inr (.ref 45))), (1, .inl (a1))]) (st' := []) (σ' := σ2) rfl ?_
  obtain ⟨I10, X12, ⟨μ11, w17⟩, w18, w19⟩ := w
  have ex21 : ∀ (σ8 : sg_S), sg_F [46, 47, 48, 53, 54, 55, 56, 57, 58, 59, 60, 8045, 9045, 10045, 11045, 21045, 22045, 23045, 24045] σ2 σ8 → X12 σ8 → wx z 8 126 273 [(0, .inr (.inr (.ref 45))), (1, .inl (a1))] [] σ8 (fun v σ' => ∃ q, v = some (.inl q) ∧ sg_R q ∧ sg_F [46, 47, 48, 49, 50, 51, 52, 53, 54, 55, 56, 57, 58, 59, 60, 8045, 9045, 10045, 11045, 12045, 21045, 22045, 23045, 24045] σ σ' ∧ Q q σ') := by
    intro σ8 hF9 w
    have w := w19 σ8 hF9 w
    refine wk_b tt_126 2 (pc' := 275) (ls' := [(0, .inr (.inr (.ref 45))), (1, .inl (a1))]) (st' := [.inl (a1), .inr (.inr (.ref 45))]) (σ' := σ8) rfl ?_
    refine wk_call tt_126 rfl rfl rfl rfl rfl tt_118 rfl (by decide) (w_mnConclude z σ8 (a1) _ ra1 w) (fun u27 σ23 hq25 => ?_)
    obtain ⟨rfl, hF24, w⟩ := hq25
    have w := w hF24
    refine wk_b tt_126 2 (pc' := 282) (ls' := [(0, .inr (.inr (.ref 45))), (1, .inl (a1))]) (st' := [.inl ((sg_g σ23 45 10))]) (σ' := σ23) rfl ?_
    rw [show (sg_g σ23 45 10) = (sg_g σ8 45 10) from by rw [sg_F_g hF24 rfl]]
    exact wk_rI tt_126 rfl rfl ⟨_, rfl, (sg_Rg _ _ _), (sg_F_t (sg_F_t (sg_F_t (sg_F_r [46, 47, 48, 49, 50, 51, 52, 53, 54, 55, 56, 57, 58, 59, 60, 8045, 9045, 10045, 11045, 12045, 21045, 22045, 23045, 24045] σ) (sg_F_m (L := [46, 47, 48, 49, 50, 51, 52, 53, 54, 55, 56, 57, 58, 59, 60, 8045, 9045, 10045, 11045, 12045, 21045, 22045, 23045, 24045]) hF3 rfl)) (sg_F_m (L := [46, 47, 48, 49, 50, 51, 52, 53, 54, 55, 56, 57, 58, 59, 60, 8045, 9045, 10045, 11045, 12045, 21045, 22045, 23045, 24045]) hF9 rfl)) (sg_F_m (L := [46, 47, 48, 49, 50, 51, 52, 53, 54, 55, 56, 57, 58, 59, 60, 8045, 9045, 10045, 11045, 12045, 21045, 22045, 23045, 24045]) hF24 rfl)), w⟩
  have lp16 : ∀ (n20 : Nat) (v7 : Int) (σ8 : sg_S), sg_R v7 → sg_F [46, 47, 48, 53, 54, 55, 56, 57, 58, 59, 60, 8045, 9045, 10045, 11045, 21045, 22045, 23045, 24045] σ2 σ8 → I10 n20 v7 σ8 → wx z 8 126 6 [(0, .inr (.inr (.ref 45))), (1, .inl (a1)), (2, .inl (v7))] [] σ8 (fun v σ' => ∃ q, v = some (.inl q) ∧ sg_R q ∧ sg_F [46, 47, 48, 49, 50, 51, 52, 53, 54, 55, 56, 57, 58, 59, 60, 8045, 9045, 10045, 11045, 12045, 21045, 22045, 23045, 24045] σ σ' ∧ Q q σ') := by
    intro n20
    induction n20 using Nat.strongRecOn with
    | _ n20 ih14 =>
      intro v7 σ8 r13 hF9 w
      have w := w18 n20 v7 σ8 r13 hF9 w
      refine wk_b tt_126 2 (pc' := 9) (ls' := [(0, .inr (.inr (.ref 45))), (1, .inl (a1)), (2, .inl (v7))]) (st' := [.inl (100000), .inl (v7)]) (σ' := σ8) rfl ?_
      refine wk_if2 tt_126 (tgt := 273) rfl rfl r13 (by decide) (fun (h28 : 100000 ≤ v7) => ?_) (fun (h28 : v7 < 100000) => ?_)
      ·
        have w := w.1 h28
        exact wk_ls [(0, .inr (.inr (.ref 45))), (1, .inl (a1))] rfl ⟨rfl, rfl, trivial⟩ (ex21  σ8  (sg_F_t (sg_F_r [46, 47, 48, 53, 54, 55, 56, 57, 58, 59, 60, 8045, 9045, 10045, 11045, 21045, 22045, 23045, 24045] σ2) (sg_F_m (L := [46, 47, 48, 53, 54, 55, 56, 57, 58, 59, 60, 8045, 9045, 10045, 11045, 21045, 22045, 23045, 24045]) hF9 rfl)) w)
      ·
        have w := w.2 h28
        refine wk_b tt_126 2 (pc' := 16) (ls' := [(0, .inr (.inr (.ref 45))), (1, .inl (a1)), (2, .inl (v7))]) (st' := [.inl ((sg_g σ8 45 8))]) (σ' := σ8) rfl ?_
        refine wk_if tt_126 (tgt := 273) rfl rfl (sg_Rg _ _ _) (fun (h29 : (sg_g σ8 45 8) < 0) => ?_) (fun (h29 : 0 ≤ (sg_g σ8 45 8)) => ?_)
        ·
          have w := w.1 h29
          exact wk_ls [(0, .inr (.inr (.ref 45))), (1, .inl (a1))] rfl ⟨rfl, rfl, trivial⟩ (ex21  σ8  (sg_F_t (sg_F_r [46, 47, 48, 53, 54, 55, 56, 57, 58, 59, 60, 8045, 9045, 10045, 11045, 21045, 22045, 23045, 24045] σ2) (sg_F_m (L := [46, 47, 48, 53, 54, 55, 56, 57, 58, 59, 60, 8045, 9045, 10045, 11045, 21045, 22045, 23045, 24045]) hF9 rfl)) w)
        ·
          have w := w.2 h29
          refine wk_b tt_126 2 (pc' := 23) (ls' := [(0, .inr (.inr (.ref 45))), (1, .inl (a1)), (2, .inl (v7))]) (st' := [.inl ((sg_g σ8 45 10))]) (σ' := σ8) rfl ?_
          refine wk_if tt_126 (tgt := 273) rfl rfl (sg_Rg _ _ _) (fun (h30 : ¬ (sg_g σ8 45 10) = 0) => ?_) (fun (h30 : (sg_g σ8 45 10) = 0) => ?_)
          ·
            have w := w.1 h30
            exact wk_ls [(0, .inr (.inr (.ref 45))), (1, .inl (a1))] rfl ⟨rfl, rfl, trivial⟩ (ex21  σ8  (sg_F_t (sg_F_r [46, 47, 48, 53, 54, 55, 56, 57, 58, 59, 60, 8045, 9045, 10045, 11045, 21045, 22045, 23045, 24045] σ2) (sg_F_m (L := [46, 47, 48, 53, 54, 55, 56, 57, 58, 59, 60, 8045, 9045, 10045, 11045, 21045, 22045, 23045, 24045]) hF9 rfl)) w)
          ·
            have w := w.2 h30
            refine wk_b tt_126 5 (pc' := 37) (ls' := [(0, .inr (.inr (.ref 45))), (1, .inl (a1)), (2, .inl (v7))]) (st' := [.inl ((sg_g σ8 45 8)), .inr (.inr (.ref 30))]) (σ' := σ8) rfl ?_
            refine wk_callp tt_126 rfl rfl rfl rfl rfl tt_5 rfl (by decide) (at_i0 z σ8 30 1013 ((sg_g σ8 45 8)) rfl (by decide) (sg_Rg _ _ _)) ?_
            show wx z 8 126 40 [(0, .inr (.inr (.ref 45))), (1, .inl (a1)), (2, .inl (v7))] [.inl ((sx_at σ8 30 1013 ((sg_g σ8 45 8))))] σ8 (fun v σ' => ∃ q, v = some (.inl q) ∧ sg_R q ∧ sg_F [46, 47, 48, 49, 50, 51, 52, 53, 54, 55, 56, 57, 58, 59, 60, 8045, 9045, 10045, 11045, 12045, 21045, 22045, 23045, 24045] σ σ' ∧ Q q σ')
            rw [sx_F (a := 30) (n := 1013) (i := ((sg_g σ8 45 8))) hF9 rfl, sx_F (a := 30) (n := 1013) (i := ((sg_g σ8 45 8))) hF3 rfl]
            refine wk_b tt_126 6 (pc' := 52) (ls' := [(3, .inl ((sx_at σ 30 1013 ((sg_g σ8 45 8))))), (0, .inr (.inr (.ref 45))), (1, .inl (a1)), (2, .inl (v7))]) (st' := [.inl ((sg_g σ8 45 8)), .inr (.inr (.ref 29))]) (σ' := σ8) rfl ?_
            refine wk_callp tt_126 rfl rfl rfl rfl rfl tt_5 rfl (by decide) (at_i0 z σ8 29 1013 ((sg_g σ8 45 8)) rfl (by decide) (sg_Rg _ _ _)) ?_
            show wx z 8 126 55 [(3, .inl ((sx_at σ 30 1013 ((sg_g σ8 45 8))))), (0, .inr (.inr (.ref 45))), (1, .inl (a1)), (2, .inl (v7))] [.inl ((sx_at σ8 29 1013 ((sg_g σ8 45 8))))] σ8 (fun v σ' => ∃ q, v = some (.inl q) ∧ sg_R q ∧ sg_F [46, 47, 48, 49, 50, 51, 52, 53, 54, 55, 56, 57, 58, 59, 60, 8045, 9045, 10045, 11045, 12045, 21045, 22045, 23045, 24045] σ σ' ∧ Q q σ')
            rw [sx_F (a := 29) (n := 1013) (i := ((sg_g σ8 45 8))) hF9 rfl, sx_F (a := 29) (n := 1013) (i := ((sg_g σ8 45 8))) hF3 rfl]
            obtain ⟨c31, w⟩ := w
            refine wk_b tt_126 7 (pc' := 67) (ls' := [(4, .inl ((sx_at σ 29 1013 ((sg_g σ8 45 8))))), (3, .inl ((sx_at σ 30 1013 ((sg_g σ8 45 8))))), (0, .inr (.inr (.ref 45))), (1, .inl (a1)), (2, .inl (v7))]) (st' := []) (σ' := (sg_w σ8 45 8 (((sg_g σ8 45 8) + 1)))) rfl ?_
            generalize hs33 : (sg_w σ8 45 8 (((sg_g σ8 45 8) + 1))) = σ32
            have w := w σ32 hs33.symm
            have hF34 : sg_F [9045] σ8 σ32 := by rw [← hs33]; exact sg_F_w (sg_F_r _ _) rfl _
            refine wk_b tt_126 1 (pc' := 69) (ls' := [(4, .inl ((sx_at σ 29 1013 ((sg_g σ8 45 8))))), (3, .inl ((sx_at σ 30 1013 ((sg_g σ8 45 8))))), (0, .inr (.inr (.ref 45))), (1, .inl (a1)), (2, .inl (v7))]) (st' := [.inl ((sx_at σ 29 1013 ((sg_g σ8 45 8))))]) (σ' := σ32) rfl ?_
            obtain ⟨P35, w, w39⟩ := w
            have jn38 : ∀ (σ36 : sg_S), sg_F [46, 47, 48, 53, 54, 55, 56, 57, 58, 59, 60, 8045, 9045, 10045, 11045, 21045, 22045, 23045, 24045] σ32 σ36 → P35 σ36 → wx z 8 126 267 [(0, .inr (.inr (.ref 45))), (1, .inl (a1)), (2, .inl (v7))] [] σ36 (fun v σ' => ∃ q, v = some (.inl q) ∧ sg_R q ∧ sg_F [46, 47, 48, 49, 50, 51, 52, 53, 54, 55, 56, 57, 58, 59, 60, 8045, 9045, 10045, 11045, 12045, 21045, 22045, 23045, 24045] σ σ' ∧ Q q σ') := by
              intro σ36 hF37 w
              have w := w39 σ36 hF37 w
              obtain ⟨c40, w⟩ := w
              refine wk_b tt_126 2 (pc' := 6) (ls' := [(2, .inl ((v7 + 1))), (0, .inr (.inr (.ref 45))), (1, .inl (a1))]) (st' := []) (σ' := σ36) rfl ?_
              obtain ⟨m41, hm41, w⟩ := w
              exact wk_ls [(0, .inr (.inr (.ref 45))), (1, .inl (a1)), (2, .inl ((v7 + 1)))] rfl ⟨rfl, rfl, rfl, trivial⟩ (ih14 m41 hm41 ((v7 + 1)) σ36 c40 (sg_F_t (sg_F_t (sg_F_t (sg_F_r [46, 47, 48, 53, 54, 55, 56, 57, 58, 59, 60, 8045, 9045, 10045, 11045, 21045, 22045, 23045, 24045] σ2) (sg_F_m (L := [46, 47, 48, 53, 54, 55, 56, 57, 58, 59, 60, 8045, 9045, 10045, 11045, 21045, 22045, 23045, 24045]) hF9 rfl)) (sg_F_m (L := [46, 47, 48, 53, 54, 55, 56, 57, 58, 59, 60, 8045, 9045, 10045, 11045, 21045, 22045, 23045, 24045]) hF34 rfl)) (sg_F_m (L := [46, 47, 48, 53, 54, 55, 56, 57, 58, 59, 60, 8045, 9045, 10045, 11045, 21045, 22045, 23045, 24045]) hF37 rfl)) w)
            by_cases e42 : (sx_at σ 29 1013 ((sg_g σ8 45 8))) = 0
            · have w := w.1 e42
              refine wk_ts tt_126 (off := 63) (tgt := 132) rfl (sx_R ..) (by rw [e42]; decide) rfl ?_
              refine wk_b tt_126 2 (pc' := 134) (ls' := [(4, .inl ((sx_at σ 29 1013 ((sg_g σ8 45 8))))), (3, .inl ((sx_at σ 30 1013 ((sg_g σ8 45 8))))), (0, .inr (.inr (.ref 45))), (1, .inl (a1)), (2, .inl (v7))]) (st' := [.inl ((sx_at σ 30 1013 ((sg_g σ8 45 8)))), .inr (.inr (.ref 45))]) (σ' := σ32) rfl ?_
              refine wk_call tt_126 rfl rfl rfl rfl rfl tt_132 rfl (by decide) (w_nBegin z σ32 ((sx_at σ 30 1013 ((sg_g σ8 45 8)))) _ (sx_R ..) w) (fun u49 σ45 hq47 => ?_)
              obtain ⟨rfl, hF46, w⟩ := hq47
              have w := w hF46
              refine wk_b tt_126 1 (pc' := 267) (ls' := [(4, .inl ((sx_at σ 29 1013 ((sg_g σ8 45 8))))), (3, .inl ((sx_at σ 30 1013 ((sg_g σ8 45 8))))), (0, .inr (.inr (.ref 45))), (1, .inl (a1)), (2, .inl (v7))]) (st' := []) (σ' := σ45) rfl ?_
              exact wk_ls [(0, .inr (.inr (.ref 45))), (1, .inl (a1)), (2, .inl (v7))] rfl ⟨rfl, rfl, rfl, trivial⟩ (jn38 σ45 (sg_F_t (sg_F_r [46, 47, 48, 53, 54, 55, 56, 57, 58, 59, 60, 8045, 9045, 10045, 11045, 21045, 22045, 23045, 24045] σ32) (sg_F_m (L := [46, 47, 48, 53, 54, 55, 56, 57, 58, 59, 60, 8045, 9045, 10045, 11045, 21045, 22045, 23045, 24045]) hF46 rfl)) w)
            have w := w.2 e42
            by_cases e50 : (sx_at σ 29 1013 ((sg_g σ8 45 8))) = 1
            · have w := w.1 e50
              refine wk_ts tt_126 (off := 71) (tgt := 140) rfl (sx_R ..) (by rw [e50]; decide) rfl ?_
              refine wk_b tt_126 2 (pc' := 142) (ls' := [(4, .inl ((sx_at σ 29 1013 ((sg_g σ8 45 8))))), (3, .inl ((sx_at σ 30 1013 ((sg_g σ8 45 8))))), (0, .inr (.inr (.ref 45))), (1, .inl (a1)), (2, .inl (v7))]) (st' := [.inl ((sx_at σ 30 1013 ((sg_g σ8 45 8)))), .inr (.inr (.ref 45))]) (σ' := σ32) rfl ?_
              refine wk_call tt_126 rfl rfl rfl rfl rfl tt_120 rfl (by decide) (w_mnFinish z σ32 ((sx_at σ 30 1013 ((sg_g σ8 45 8)))) _ (sx_R ..) w) (fun u57 σ53 hq55 => ?_)
              obtain ⟨rfl, hF54, w⟩ := hq55
              have w := w hF54
              refine wk_b tt_126 1 (pc' := 267) (ls' := [(4, .inl ((sx_at σ 29 1013 ((sg_g σ8 45 8))))), (3, .inl ((sx_at σ 30 1013 ((sg_g σ8 45 8))))), (0, .inr (.inr (.ref 45))), (1, .inl (a1)), (2, .inl (v7))]) (st' := []) (σ' := σ53) rfl ?_
              exact wk_ls [(0, .inr (.inr (.ref 45))), (1, .inl (a1)), (2, .inl (v7))] rfl ⟨rfl, rfl, rfl, trivial⟩ (jn38 σ53 (sg_F_t (sg_F_r [46, 47, 48, 53, 54, 55, 56, 57, 58, 59, 60, 8045, 9045, 10045, 11045, 21045, 22045, 23045, 24045] σ32) (sg_F_m (L := [46, 47, 48, 53, 54, 55, 56, 57, 58, 59, 60, 8045, 9045, 10045, 11045, 21045, 22045, 23045, 24045]) hF54 rfl)) w)
            have w := w.2 e50
            by_cases e58 : (sx_at σ 29 1013 ((sg_g σ8 45 8))) = 2
            · have w := w.1 e58
              refine wk_ts tt_126 (off := 79) (tgt := 148) rfl (sx_R ..) (by rw [e58]; decide) rfl ?_
              refine wk_b tt_126 2 (pc' := 150) (ls' := [(4, .inl ((sx_at σ 29 1013 ((sg_g σ8 45 8))))), (3, .inl ((sx_at σ 30 1013 ((sg_g σ8 45 8))))), (0, .inr (.inr (.ref 45))), (1, .inl (a1)), (2, .inl (v7))]) (st' := [.inl ((sx_at σ 30 1013 ((sg_g σ8 45 8)))), .inr (.inr (.ref 45))]) (σ' := σ32) rfl ?_
              refine wk_call tt_126 rfl rfl rfl rfl rfl tt_121 rfl (by decide) (w_mnFinishOne z σ32 ((sx_at σ 30 1013 ((sg_g σ8 45 8)))) _ (sx_R ..) w) (fun u65 σ61 hq63 => ?_)
              obtain ⟨rfl, hF62, w⟩ := hq63
              have w := w hF62
              refine wk_b tt_126 1 (pc' := 267) (ls' := [(4, .inl ((sx_at σ 29 1013 ((sg_g σ8 45 8))))), (3, .inl ((sx_at σ 30 1013 ((sg_g σ8 45 8))))), (0, .inr (.inr (.ref 45))), (1, .inl (a1)), (2, .inl (v7))]) (st' := []) (σ' := σ61) rfl ?_
              exact wk_ls [(0, .inr (.inr (.ref 45))), (1, .inl (a1)), (2, .inl (v7))] rfl ⟨rfl, rfl, rfl, trivial⟩ (jn38 σ61 (sg_F_t (sg_F_r [46, 47, 48, 53, 54, 55, 56, 57, 58, 59, 60, 8045, 9045, 10045, 11045, 21045, 22045, 23045, 24045] σ32) (sg_F_m (L := [46, 47, 48, 53, 54, 55, 56, 57, 58, 59, 60, 8045, 9045, 10045, 11045, 21045, 22045, 23045, 24045]) hF62 rfl)) w)
            have w := w.2 e58
            by_cases e66 : (sx_at σ 29 1013 ((sg_g σ8 45 8))) = 3
            · have w := w.1 e66
              refine wk_ts tt_126 (off := 87) (tgt := 156) rfl (sx_R ..) (by rw [e66]; decide) rfl ?_
              refine wk_b tt_126 2 (pc' := 158) (ls' := [(4, .inl ((sx_at σ 29 1013 ((sg_g σ8 45 8))))), (3, .inl ((sx_at σ 30 1013 ((sg_g σ8 45 8))))), (0, .inr (.inr (.ref 45))), (1, .inl (a1)), (2, .inl (v7))]) (st' := [.inl ((sx_at σ 30 1013 ((sg_g σ8 45 8)))), .inr (.inr (.ref 45))]) (σ' := σ32) rfl ?_
              refine wk_call tt_126 rfl rfl rfl rfl rfl tt_122 rfl (by decide) (w_mnFinishTwo z σ32 ((sx_at σ 30 1013 ((sg_g σ8 45 8)))) _ (sx_R ..) w) (fun u73 σ69 hq71 => ?_)
              obtain ⟨rfl, hF70, w⟩ := hq71
              have w := w hF70
              refine wk_b tt_126 1 (pc' := 267) (ls' := [(4, .inl ((sx_at σ 29 1013 ((sg_g σ8 45 8))))), (3, .inl ((sx_at σ 30 1013 ((sg_g σ8 45 8))))), (0, .inr (.inr (.ref 45))), (1, .inl (a1)), (2, .inl (v7))]) (st' := []) (σ' := σ69) rfl ?_
              exact wk_ls [(0, .inr (.inr (.ref 45))), (1, .inl (a1)), (2, .inl (v7))] rfl ⟨rfl, rfl, rfl, trivial⟩ (jn38 σ69 (sg_F_t (sg_F_r [46, 47, 48, 53, 54, 55, 56, 57, 58, 59, 60, 8045, 9045, 10045, 11045, 21045, 22045, 23045, 24045] σ32) (sg_F_m (L := [46, 47, 48, 53, 54, 55, 56, 57, 58, 59, 60, 8045, 9045, 10045, 11045, 21045, 22045, 23045, 24045]) hF70 rfl)) w)
            have w := w.2 e66
            by_cases e74 : (sx_at σ 29 1013 ((sg_g σ8 45 8))) = 4
            · have w := w.1 e74
              refine wk_ts tt_126 (off := 95) (tgt := 164) rfl (sx_R ..) (by rw [e74]; decide) rfl ?_
              refine wk_b tt_126 6 (pc' := 176) (ls' := [(4, .inl ((sx_at σ 29 1013 ((sg_g σ8 45 8))))), (3, .inl ((sx_at σ 30 1013 ((sg_g σ8 45 8))))), (0, .inr (.inr (.ref 45))), (1, .inl (a1)), (2, .inl (v7))]) (st' := [.inl ((sx_at σ 30 1013 ((sg_g σ8 45 8)))), .inr (.inr (.ref 16)), .inr (.inr (.ref 46))]) (σ' := σ32) rfl ?_
              refine wk_callp tt_126 rfl rfl rfl rfl rfl tt_5 rfl (by decide) (at_i0 z σ32 16 200 ((sx_at σ 30 1013 ((sg_g σ8 45 8)))) rfl (by decide) (sx_R ..)) ?_
              show wx z 8 126 179 [(4, .inl ((sx_at σ 29 1013 ((sg_g σ8 45 8))))), (3, .inl ((sx_at σ 30 1013 ((sg_g σ8 45 8))))), (0, .inr (.inr (.ref 45))), (1, .inl (a1)), (2, .inl (v7))] [.inl ((sx_at σ32 16 200 ((sx_at σ 30 1013 ((sg_g σ8 45 8)))))), .inr (.inr (.ref 46))] σ32 (fun v σ' => ∃ q, v = some (.inl q) ∧ sg_R q ∧ sg_F [46, 47, 48, 49, 50, 51, 52, 53, 54, 55, 56, 57, 58, 59, 60, 8045, 9045, 10045, 11045, 12045, 21045, 22045, 23045, 24045] σ σ' ∧ Q q σ')
              rw [sx_F (a := 16) (n := 200) (i := ((sx_at σ 30 1013 ((sg_g σ8 45 8))))) hF34 rfl, sx_F (a := 16) (n := 200) (i := ((sx_at σ 30 1013 ((sg_g σ8 45 8))))) hF9 rfl, sx_F (a := 16) (n := 200) (i := ((sx_at σ 30 1013 ((sg_g σ8 45 8))))) hF3 rfl]
              refine wk_b tt_126 1 (pc' := 180) (ls' := [(4, .inl ((sx_at σ 29 1013 ((sg_g σ8 45 8))))), (3, .inl ((sx_at σ 30 1013 ((sg_g σ8 45 8))))), (0, .inr (.inr (.ref 45))), (1, .inl (a1)), (2, .inl (v7))]) (st' := [.inr (.inr (.ref 45)), .inl ((sx_at σ 16 200 ((sx_at σ 30 1013 ((sg_g σ8 45 8)))))), .inr (.inr (.ref 46))]) (σ' := σ32) rfl ?_
              refine wk_call tt_126 rfl rfl rfl rfl rfl tt_124 rfl (by decide) (w_mnPop z σ32  _  w) (fun u81 σ77 hq79 => ?_)
              obtain ⟨q76, rfl, r80, hF78, w⟩ := hq79
              have w := w r80 hF78
              refine wk_callp tt_126 rfl rfl rfl rfl rfl tt_21 rfl (by decide) (pt_i0 z σ77 46 272 ((sx_at σ 16 200 ((sx_at σ 30 1013 ((sg_g σ8 45 8)))))) (q76) rfl (by decide) (sx_R ..)) ?_
              show wx z 8 126 186 [(4, .inl ((sx_at σ 29 1013 ((sg_g σ8 45 8))))), (3, .inl ((sx_at σ 30 1013 ((sg_g σ8 45 8))))), (0, .inr (.inr (.ref 45))), (1, .inl (a1)), (2, .inl (v7))] [] (sx_put σ77 46 272 ((sx_at σ 16 200 ((sx_at σ 30 1013 ((sg_g σ8 45 8)))))) (q76)) (fun v σ' => ∃ q, v = some (.inl q) ∧ sg_R q ∧ sg_F [46, 47, 48, 49, 50, 51, 52, 53, 54, 55, 56, 57, 58, 59, 60, 8045, 9045, 10045, 11045, 12045, 21045, 22045, 23045, 24045] σ σ' ∧ Q q σ')
              generalize hs83 : (sx_put σ77 46 272 ((sx_at σ 16 200 ((sx_at σ 30 1013 ((sg_g σ8 45 8)))))) (q76)) = σ82
              have w := w σ82 hs83.symm
              have hF84 : sg_F [46] σ77 σ82 := by rw [← hs83]; exact sg_F_p (sg_F_r _ _) rfl _ _ _
              refine wk_b tt_126 1 (pc' := 267) (ls' := [(4, .inl ((sx_at σ 29 1013 ((sg_g σ8 45 8))))), (3, .inl ((sx_at σ 30 1013 ((sg_g σ8 45 8))))), (0, .inr (.inr (.ref 45))), (1, .inl (a1)), (2, .inl (v7))]) (st' := []) (σ' := σ82) rfl ?_
              exact wk_ls [(0, .inr (.inr (.ref 45))), (1, .inl (a1)), (2, .inl (v7))] rfl ⟨rfl, rfl, rfl, trivial⟩ (jn38 σ82 (sg_F_t (sg_F_t (sg_F_r [46, 47, 48, 53, 54, 55, 56, 57, 58, 59, 60, 8045, 9045, 10045, 11045, 21045, 22045, 23045, 24045] σ32) (sg_F_m (L := [46, 47, 48, 53, 54, 55, 56, 57, 58, 59, 60, 8045, 9045, 10045, 11045, 21045, 22045, 23045, 24045]) hF78 rfl)) (sg_F_m (L := [46, 47, 48, 53, 54, 55, 56, 57, 58, 59, 60, 8045, 9045, 10045, 11045, 21045, 22045, 23045, 24045]) hF84 rfl)) w)
            have w := w.2 e74
            by_cases e85 : (sx_at σ 29 1013 ((sg_g σ8 45 8))) = 5
            · have w := w.1 e85
              refine wk_ts tt_126 (off := 120) (tgt := 189) rfl (sx_R ..) (by rw [e85]; decide) rfl ?_
              refine wk_b tt_126 5 (pc' := 198) (ls' := [(4, .inl ((sx_at σ 29 1013 ((sg_g σ8 45 8))))), (3, .inl ((sx_at σ 30 1013 ((sg_g σ8 45 8))))), (0, .inr (.inr (.ref 45))), (1, .inl (a1)), (2, .inl (v7))]) (st' := [.inl ((sx_at σ 30 1013 ((sg_g σ8 45 8)))), .inr (.inr (.ref 16)), .inr (.inr (.ref 45))]) (σ' := σ32) rfl ?_
              refine wk_callp tt_126 rfl rfl rfl rfl rfl tt_5 rfl (by decide) (at_i0 z σ32 16 200 ((sx_at σ 30 1013 ((sg_g σ8 45 8)))) rfl (by decide) (sx_R ..)) ?_
              show wx z 8 126 201 [(4, .inl ((sx_at σ 29 1013 ((sg_g σ8 45 8))))), (3, .inl ((sx_at σ 30 1013 ((sg_g σ8 45 8))))), (0, .inr (.inr (.ref 45))), (1, .inl (a1)), (2, .inl (v7))] [.inl ((sx_at σ32 16 200 ((sx_at σ 30 1013 ((sg_g σ8 45 8)))))), .inr (.inr (.ref 45))] σ32 (fun v σ' => ∃ q, v = some (.inl q) ∧ sg_R q ∧ sg_F [46, 47, 48, 49, 50, 51, 52, 53, 54, 55, 56, 57, 58, 59, 60, 8045, 9045, 10045, 11045, 12045, 21045, 22045, 23045, 24045] σ σ' ∧ Q q σ')
              rw [sx_F (a := 16) (n := 200) (i := ((sx_at σ 30 1013 ((sg_g σ8 45 8))))) hF34 rfl, sx_F (a := 16) (n := 200) (i := ((sx_at σ 30 1013 ((sg_g σ8 45 8))))) hF9 rfl, sx_F (a := 16) (n := 200) (i := ((sx_at σ 30 1013 ((sg_g σ8 45 8))))) hF3 rfl]
              refine wk_call tt_126 rfl rfl rfl rfl rfl tt_119 rfl (by decide) (w_mnEnter z σ32 ((sx_at σ 16 200 ((sx_at σ 30 1013 ((sg_g σ8 45 8)))))) _ (sx_R ..) w) (fun u92 σ88 hq90 => ?_)
              obtain ⟨rfl, hF89, w⟩ := hq90
              have w := w hF89
              refine wk_b tt_126 1 (pc' := 267) (ls' := [(4, .inl ((sx_at σ 29 1013 ((sg_g σ8 45 8))))), (3, .inl ((sx_at σ 30 1013 ((sg_g σ8 45 8))))), (0, .inr (.inr (.ref 45))), (1, .inl (a1)), (2, .inl (v7))]) (st' := []) (σ' := σ88) rfl ?_
              exact wk_ls [(0, .inr (.inr (.ref 45))), (1, .inl (a1)), (2, .inl (v7))] rfl ⟨rfl, rfl, rfl, trivial⟩ (jn38 σ88 (sg_F_t (sg_F_r [46, 47, 48, 53, 54, 55, 56, 57, 58, 59, 60, 8045, 9045, 10045, 11045, 21045, 22045, 23045, 24045] σ32) (sg_F_m (L := [46, 47, 48, 53, 54, 55, 56, 57, 58, 59, 60, 8045, 9045, 10045, 11045, 21045, 22045, 23045, 24045]) hF89 rfl)) w)
            have w := w.2 e85
            by_cases e93 : (sx_at σ 29 1013 ((sg_g σ8 45 8))) = 6
            · have w := w.1 e93
              refine wk_ts tt_126 (off := 138) (tgt := 207) rfl (sx_R ..) (by rw [e93]; decide) rfl ?_
              refine wk_b tt_126 4 (pc' := 213) (ls' := [(4, .inl ((sx_at σ 29 1013 ((sg_g σ8 45 8))))), (3, .inl ((sx_at σ 30 1013 ((sg_g σ8 45 8))))), (0, .inr (.inr (.ref 45))), (1, .inl (a1)), (2, .inl (v7))]) (st' := [.inl ((sx_at σ 30 1013 ((sg_g σ8 45 8)))), .inr (.inr (.ref 47)), .inr (.inr (.ref 45))]) (σ' := σ32) rfl ?_
              refine wk_callp tt_126 rfl rfl rfl rfl rfl tt_5 rfl (by decide) (at_i0 z σ32 47 13 ((sx_at σ 30 1013 ((sg_g σ8 45 8)))) rfl (by decide) (sx_R ..)) ?_
              show wx z 8 126 216 [(4, .inl ((sx_at σ 29 1013 ((sg_g σ8 45 8))))), (3, .inl ((sx_at σ 30 1013 ((sg_g σ8 45 8))))), (0, .inr (.inr (.ref 45))), (1, .inl (a1)), (2, .inl (v7))] [.inl ((sx_at σ32 47 13 ((sx_at σ 30 1013 ((sg_g σ8 45 8)))))), .inr (.inr (.ref 45))] σ32 (fun v σ' => ∃ q, v = some (.inl q) ∧ sg_R q ∧ sg_F [46, 47, 48, 49, 50, 51, 52, 53, 54, 55, 56, 57, 58, 59, 60, 8045, 9045, 10045, 11045, 12045, 21045, 22045, 23045, 24045] σ σ' ∧ Q q σ')
              rw [sx_F (a := 47) (n := 13) (i := ((sx_at σ 30 1013 ((sg_g σ8 45 8))))) hF34 rfl]
              refine wk_b tt_126 1 (pc' := 219) (ls' := [(4, .inl ((sx_at σ 29 1013 ((sg_g σ8 45 8))))), (3, .inl ((sx_at σ 30 1013 ((sg_g σ8 45 8))))), (0, .inr (.inr (.ref 45))), (1, .inl (a1)), (2, .inl (v7))]) (st' := []) (σ' := (sg_w σ32 45 8 ((sx_at σ8 47 13 ((sx_at σ 30 1013 ((sg_g σ8 45 8)))))))) rfl ?_
              generalize hs96 : (sg_w σ32 45 8 ((sx_at σ8 47 13 ((sx_at σ 30 1013 ((sg_g σ8 45 8))))))) = σ95
              have w := w σ95 hs96.symm
              have hF97 : sg_F [9045] σ32 σ95 := by rw [← hs96]; exact sg_F_w (sg_F_r _ _) rfl _
              refine wk_b tt_126 1 (pc' := 267) (ls' := [(4, .inl ((sx_at σ 29 1013 ((sg_g σ8 45 8))))), (3, .inl ((sx_at σ 30 1013 ((sg_g σ8 45 8))))), (0, .inr (.inr (.ref 45))), (1, .inl (a1)), (2, .inl (v7))]) (st' := []) (σ' := σ95) rfl ?_
              exact wk_ls [(0, .inr (.inr (.ref 45))), (1, .inl (a1)), (2, .inl (v7))] rfl ⟨rfl, rfl, rfl, trivial⟩ (jn38 σ95 (sg_F_t (sg_F_r [46, 47, 48, 53, 54, 55, 56, 57, 58, 59, 60, 8045, 9045, 10045, 11045, 21045, 22045, 23045, 24045] σ32) (sg_F_m (L := [46, 47, 48, 53, 54, 55, 56, 57, 58, 59, 60, 8045, 9045, 10045, 11045, 21045, 22045, 23045, 24045]) hF97 rfl)) w)
            have w := w.2 e93
            by_cases e98 : (sx_at σ 29 1013 ((sg_g σ8 45 8))) = 7
            · have w := w.1 e98
              refine wk_ts tt_126 (off := 153) (tgt := 222) rfl (sx_R ..) (by rw [e98]; decide) rfl ?_
              refine wk_b tt_126 2 (pc' := 224) (ls' := [(4, .inl ((sx_at σ 29 1013 ((sg_g σ8 45 8))))), (3, .inl ((sx_at σ 30 1013 ((sg_g σ8 45 8))))), (0, .inr (.inr (.ref 45))), (1, .inl (a1)), (2, .inl (v7))]) (st' := [.inl ((sx_at σ 30 1013 ((sg_g σ8 45 8)))), .inr (.inr (.ref 45))]) (σ' := σ32) rfl ?_
              refine wk_call tt_126 rfl rfl rfl rfl rfl tt_142 rfl (by decide) (w_nFork z σ32 ((sx_at σ 30 1013 ((sg_g σ8 45 8)))) _ (sx_R ..) w) (fun u105 σ101 hq103 => ?_)
              obtain ⟨rfl, hF102, w⟩ := hq103
              have w := w hF102
              refine wk_b tt_126 1 (pc' := 267) (ls' := [(4, .inl ((sx_at σ 29 1013 ((sg_g σ8 45 8))))), (3, .inl ((sx_at σ 30 1013 ((sg_g σ8 45 8))))), (0, .inr (.inr (.ref 45))), (1, .inl (a1)), (2, .inl (v7))]) (st' := []) (σ' := σ101) rfl ?_
              exact wk_ls [(0, .inr (.inr (.ref 45))), (1, .inl (a1)), (2, .inl (v7))] rfl ⟨rfl, rfl, rfl, trivial⟩ (jn38 σ101 (sg_F_t (sg_F_r [46, 47, 48, 53, 54, 55, 56, 57, 58, 59, 60, 8045, 9045, 10045, 11045, 21045, 22045, 23045, 24045] σ32) (sg_F_m (L := [46, 47, 48, 53, 54, 55, 56, 57, 58, 59, 60, 8045, 9045, 10045, 11045, 21045, 22045, 23045, 24045]) hF102 rfl)) w)
            have w := w.2 e98
            by_cases e106 : (sx_at σ 29 1013 ((sg_g σ8 45 8))) = 8
            · have w := w.1 e106
              refine wk_ts tt_126 (off := 161) (tgt := 230) rfl (sx_R ..) (by rw [e106]; decide) rfl ?_
              refine wk_b tt_126 2 (pc' := 232) (ls' := [(4, .inl ((sx_at σ 29 1013 ((sg_g σ8 45 8))))), (3, .inl ((sx_at σ 30 1013 ((sg_g σ8 45 8))))), (0, .inr (.inr (.ref 45))), (1, .inl (a1)), (2, .inl (v7))]) (st' := [.inl ((sx_at σ 30 1013 ((sg_g σ8 45 8)))), .inr (.inr (.ref 45))]) (σ' := σ32) rfl ?_
              refine wk_call tt_126 rfl rfl rfl rfl rfl tt_164 rfl (by decide) (w_nTurn z σ32 ((sx_at σ 30 1013 ((sg_g σ8 45 8)))) _ (sx_R ..) w) (fun u113 σ109 hq111 => ?_)
              obtain ⟨rfl, hF110, w⟩ := hq111
              have w := w hF110
              refine wk_b tt_126 1 (pc' := 267) (ls' := [(4, .inl ((sx_at σ 29 1013 ((sg_g σ8 45 8))))), (3, .inl ((sx_at σ 30 1013 ((sg_g σ8 45 8))))), (0, .inr (.inr (.ref 45))), (1, .inl (a1)), (2, .inl (v7))]) (st' := []) (σ' := σ109) rfl ?_
              exact wk_ls [(0, .inr (.inr (.ref 45))), (1, .inl (a1)), (2, .inl (v7))] rfl ⟨rfl, rfl, rfl, trivial⟩ (jn38 σ109 (sg_F_t (sg_F_r [46, 47, 48, 53, 54, 55, 56, 57, 58, 59, 60, 8045, 9045, 10045, 11045, 21045, 22045, 23045, 24045] σ32) (sg_F_m (L := [46, 47, 48, 53, 54, 55, 56, 57, 58, 59, 60, 8045, 9045, 10045, 11045, 21045, 22045, 23045, 24045]) hF110 rfl)) w)
            have w := w.2 e106
            by_cases e114 : (sx_at σ 29 1013 ((sg_g σ8 45 8))) = 9
            · have w := w.1 e114
              refine wk_ts tt_126 (off := 169) (tgt := 238) rfl (sx_R ..) (by rw [e114]; decide) rfl ?_
              refine wk_b tt_126 2 (pc' := 240) (ls' := [(4, .inl ((sx_at σ 29 1013 ((sg_g σ8 45 8))))), (3, .inl ((sx_at σ 30 1013 ((sg_g σ8 45 8))))), (0, .inr (.inr (.ref 45))), (1, .inl (a1)), (2, .inl (v7))]) (st' := [.inl ((sx_at σ 30 1013 ((sg_g σ8 45 8)))), .inr (.inr (.ref 45))]) (σ' := σ32) rfl ?_
              refine wk_call tt_126 rfl rfl rfl rfl rfl tt_146 rfl (by decide) (w_nJoin z σ32 ((sx_at σ 30 1013 ((sg_g σ8 45 8)))) _ (sx_R ..) w) (fun u121 σ117 hq119 => ?_)
              obtain ⟨rfl, hF118, w⟩ := hq119
              have w := w hF118
              refine wk_b tt_126 1 (pc' := 267) (ls' := [(4, .inl ((sx_at σ 29 1013 ((sg_g σ8 45 8))))), (3, .inl ((sx_at σ 30 1013 ((sg_g σ8 45 8))))), (0, .inr (.inr (.ref 45))), (1, .inl (a1)), (2, .inl (v7))]) (st' := []) (σ' := σ117) rfl ?_
              exact wk_ls [(0, .inr (.inr (.ref 45))), (1, .inl (a1)), (2, .inl (v7))] rfl ⟨rfl, rfl, rfl, trivial⟩ (jn38 σ117 (sg_F_t (sg_F_r [46, 47, 48, 53, 54, 55, 56, 57, 58, 59, 60, 8045, 9045, 10045, 11045, 21045, 22045, 23045, 24045] σ32) (sg_F_m (L := [46, 47, 48, 53, 54, 55, 56, 57, 58, 59, 60, 8045, 9045, 10045, 11045, 21045, 22045, 23045, 24045]) hF118 rfl)) w)
            have w := w.2 e114
            by_cases e122 : (sx_at σ 29 1013 ((sg_g σ8 45 8))) = 10
            · have w := w.1 e122
              refine wk_ts tt_126 (off := 177) (tgt := 246) rfl (sx_R ..) (by rw [e122]; decide) rfl ?_
              refine wk_b tt_126 2 (pc' := 248) (ls' := [(4, .inl ((sx_at σ 29 1013 ((sg_g σ8 45 8))))), (3, .inl ((sx_at σ 30 1013 ((sg_g σ8 45 8))))), (0, .inr (.inr (.ref 45))), (1, .inl (a1)), (2, .inl (v7))]) (st' := [.inl ((sx_at σ 30 1013 ((sg_g σ8 45 8)))), .inr (.inr (.ref 45))]) (σ' := σ32) rfl ?_
              refine wk_call tt_126 rfl rfl rfl rfl rfl tt_152 rfl (by decide) (w_nOpen z σ32 ((sx_at σ 30 1013 ((sg_g σ8 45 8)))) _ (sx_R ..) w) (fun u129 σ125 hq127 => ?_)
              obtain ⟨rfl, hF126, w⟩ := hq127
              have w := w hF126
              refine wk_b tt_126 1 (pc' := 267) (ls' := [(4, .inl ((sx_at σ 29 1013 ((sg_g σ8 45 8))))), (3, .inl ((sx_at σ 30 1013 ((sg_g σ8 45 8))))), (0, .inr (.inr (.ref 45))), (1, .inl (a1)), (2, .inl (v7))]) (st' := []) (σ' := σ125) rfl ?_
              exact wk_ls [(0, .inr (.inr (.ref 45))), (1, .inl (a1)), (2, .inl (v7))] rfl ⟨rfl, rfl, rfl, trivial⟩ (jn38 σ125 (sg_F_t (sg_F_r [46, 47, 48, 53, 54, 55, 56, 57, 58, 59, 60, 8045, 9045, 10045, 11045, 21045, 22045, 23045, 24045] σ32) (sg_F_m (L := [46, 47, 48, 53, 54, 55, 56, 57, 58, 59, 60, 8045, 9045, 10045, 11045, 21045, 22045, 23045, 24045]) hF126 rfl)) w)
            have w := w.2 e122
            by_cases e130 : (sx_at σ 29 1013 ((sg_g σ8 45 8))) = 11
            · have w := w.1 e130
              refine wk_ts tt_126 (off := 185) (tgt := 254) rfl (sx_R ..) (by rw [e130]; decide) rfl ?_
              refine wk_b tt_126 2 (pc' := 256) (ls' := [(4, .inl ((sx_at σ 29 1013 ((sg_g σ8 45 8))))), (3, .inl ((sx_at σ 30 1013 ((sg_g σ8 45 8))))), (0, .inr (.inr (.ref 45))), (1, .inl (a1)), (2, .inl (v7))]) (st' := [.inl ((sx_at σ 30 1013 ((sg_g σ8 45 8)))), .inr (.inr (.ref 45))]) (σ' := σ32) rfl ?_
              refine wk_call tt_126 rfl rfl rfl rfl rfl tt_161 rfl (by decide) (w_nSift z σ32 ((sx_at σ 30 1013 ((sg_g σ8 45 8)))) _ (sx_R ..) w) (fun u137 σ133 hq135 => ?_)
              obtain ⟨rfl, hF134, w⟩ := hq135
              have w := w hF134
              refine wk_b tt_126 1 (pc' := 267) (ls' := [(4, .inl ((sx_at σ 29 1013 ((sg_g σ8 45 8))))), (3, .inl ((sx_at σ 30 1013 ((sg_g σ8 45 8))))), (0, .inr (.inr (.ref 45))), (1, .inl (a1)), (2, .inl (v7))]) (st' := []) (σ' := σ133) rfl ?_
              exact wk_ls [(0, .inr (.inr (.ref 45))), (1, .inl (a1)), (2, .inl (v7))] rfl ⟨rfl, rfl, rfl, trivial⟩ (jn38 σ133 (sg_F_t (sg_F_r [46, 47, 48, 53, 54, 55, 56, 57, 58, 59, 60, 8045, 9045, 10045, 11045, 21045, 22045, 23045, 24045] σ32) (sg_F_m (L := [46, 47, 48, 53, 54, 55, 56, 57, 58, 59, 60, 8045, 9045, 10045, 11045, 21045, 22045, 23045, 24045]) hF134 rfl)) w)
            have w := w.2 e130
            refine wk_ts tt_126 (off := 193) (tgt := 262) rfl (sx_R ..) (by rcases sw_lo ((sx_at σ 29 1013 ((sg_g σ8 45 8)))) 0 with h | h; (unfold bm_swt; rw [if_pos (Or.inl h)]); (unfold bm_swt; rw [if_pos (Or.inr (Int.lt_of_add_one_le (sw_st (k := 11) (sw_st (k := 10) (sw_st (k := 9) (sw_st (k := 8) (sw_st (k := 7) (sw_st (k := 6) (sw_st (k := 5) (sw_st (k := 4) (sw_st (k := 3) (sw_st (k := 2) (sw_st (k := 1) (sw_st (k := 0) h e42) e50) e58) e66) e74) e85) e93) e98) e106) e114) e122) e130)))])) rfl ?_
            refine wk_b tt_126 2 (pc' := 264) (ls' := [(4, .inl ((sx_at σ 29 1013 ((sg_g σ8 45 8))))), (3, .inl ((sx_at σ 30 1013 ((sg_g σ8 45 8))))), (0, .inr (.inr (.ref 45))), (1, .inl (a1)), (2, .inl (v7))]) (st' := [.inl ((sx_at σ 30 1013 ((sg_g σ8 45 8)))), .inr (.inr (.ref 45))]) (σ' := σ32) rfl ?_
            refine wk_call tt_126 rfl rfl rfl rfl rfl tt_151 rfl (by decide) (w_nNext z σ32 ((sx_at σ 30 1013 ((sg_g σ8 45 8)))) _ (sx_R ..) w) (fun u143 σ139 hq141 => ?_)
            obtain ⟨rfl, hF140, w⟩ := hq141
            have w := w hF140
            exact wk_ls [(0, .inr (.inr (.ref 45))), (1, .inl (a1)), (2, .inl (v7))] rfl ⟨rfl, rfl, rfl, trivial⟩ (jn38 σ139 (sg_F_t (sg_F_r [46, 47, 48, 53, 54, 55, 56, 57, 58, 59, 60, 8045, 9045, 10045, 11045, 21045, 22045, 23045, 24045] σ32) (sg_F_m (L := [46, 47, 48, 53, 54, 55, 56, 57, 58, 59, 60, 8045, 9045, 10045, 11045, 21045, 22045, 23045, 24045]) hF140 rfl)) w)
  exact wk_ls [(0, .inr (.inr (.ref 45))), (1, .inl (a1)), (2, .inl (0))] rfl ⟨rfl, rfl, rfl, trivial⟩ (lp16 μ11 (0) σ2 (by decide) (sg_F_r _ _) w17)
