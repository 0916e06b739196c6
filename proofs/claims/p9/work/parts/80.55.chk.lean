/-! What the methods of Checker ask for (6). -/
-- NestedVectors$Checker.walk
def V_kWalk (σ : sg_S) (a1 : Int) (a2 : Int) (Q : sg_S → Prop) : Prop := ∀ σ1, σ1 = (sx_put σ 31 13 (a1) ((sg_g σ 28 6))) → ∀ σ4, σ4 = (sx_put σ1 42 200 (a2) ((-1))) → V_kEnter σ4 (a2) (fun σ8 => sg_F [16, 29, 30, 32, 33, 41, 43, 44, 7028] σ4 σ8 → (∃ (I17 : Nat → Int → Int → sg_S → Prop) (X19 : sg_S → Prop), (∃ n, I17 n (a2) (0) σ8) ∧ (∀ (n28 : Nat) (v13 : Int) (v14 : Int) (σ15 : sg_S), sg_R v13 → sg_R v14 → sg_F [6, 16, 29, 30, 32, 33, 34, 39, 40, 41, 42, 43, 44, 7028, 10038, 11038, 13038, 14038] σ8 σ15 → I17 n28 v13 v14 σ15 → ((400 < v14 → X19 σ15) ∧ (v14 ≤ 400 → ((v13 < 0 → X19 σ15) ∧ (0 ≤ v13 → ((¬ (sg_g σ15 38 13) = 0 → X19 σ15) ∧ ((sg_g σ15 38 13) = 0 → (∃ P41 : Int → sg_S → Prop, (((sx_at σ15 44 200 (v13)) < (sx_at σ 10 200 (v13)) → V_kAhead σ15 (v13) ((sx_at σ15 44 200 (v13))) (fun σ50 => sg_F [16, 29, 30, 32, 33, 34, 39, 40, 7028, 10038, 11038, 13038, 14038] σ15 σ50 → sg_R ((sx_at σ15 44 200 (v13)) + 1) ∧ ∀ σ56, σ56 = (sx_put σ50 44 200 (v13) (((sx_at σ15 44 200 (v13)) + 1))) → ∀ σ59, σ59 = (sx_put σ56 43 200 (v13) ((sx_at σ 9 200 ((sx_at σ15 43 200 (v13)))))) → ∀ σ62, σ62 = (sx_put σ59 42 200 ((sx_at σ15 43 200 (v13))) (v13)) → V_kEnter σ62 ((sx_at σ15 43 200 (v13))) (fun σ66 => sg_F [16, 29, 30, 32, 33, 41, 43, 44, 7028] σ62 σ66 → P41 ((sx_at σ15 43 200 (v13))) σ66))) ∧ ((sx_at σ 10 200 (v13)) ≤ (sx_at σ15 44 200 (v13)) → V_kLeave σ15 (v13) (fun σ72 => sg_F [6, 16, 29, 30, 32, 33, 7028, 10038, 13038, 14038] σ15 σ72 → P41 ((sx_at σ15 42 200 (v13))) σ72))) ∧ (∀ (v44 : Int) (σ42 : sg_S), sg_R v44 → sg_F [6, 16, 29, 30, 32, 33, 34, 39, 40, 41, 42, 43, 44, 7028, 10038, 11038, 13038, 14038] σ15 σ42 → P41 v44 σ42 → sg_R (v14 + 1) ∧ (∃ m, m < n28 ∧ I17 m (v44) ((v14 + 1)) σ42)))))))))) ∧ (∀ (σ15 : sg_S), sg_F [6, 16, 29, 30, 32, 33, 34, 39, 40, 41, 42, 43, 44, 7028, 10038, 11038, 13038, 14038] σ8 σ15 → X19 σ15 → V_kpAdd σ15 (6) (a1) (fun σ31 => sg_F [29, 30, 32, 33, 7028] σ15 σ31 → Q σ31))))
set_option maxHeartbeats 4000000 in
set_option maxRecDepth 8000 in
theorem w_kWalk (z : Value) (σ : sg_S) (a1 : Int) (a2 : Int) (Q : sg_S → Prop) (ra1 : sg_R a1) (ra2 : sg_R a2) (w : V_kWalk σ a1 a2 Q) : wx z 4 44 0 [(0, .inr (.inr (.ref 38))), (1, .inl (a1)), (2, .inl (a2))] [] σ (fun v σ' => v = none ∧ sg_F [6, 16, 29, 30, 31, 32, 33, 34, 39, 40, 41, 42, 43, 44, 7028, 10038, 11038, 13038, 14038] σ σ' ∧ Q σ') := by
  unfold V_kWalk at w
  refine wk_b tt_44 9 (pc' := 17) (ls' := [(3, .inl (a2)), (0, .inr (.inr (.ref 38))), (1, .inl (a1)), (2, .inl (a2))]) (st' := [.inl ((sg_g σ 28 6)), .inl (a1), .inr (.inr (.ref 31))]) (σ' := σ) rfl ?_
  refine wk_callp tt_44 rfl rfl rfl rfl rfl tt_21 rfl (by decide) (pt_i0 z σ 31 13 (a1) ((sg_g σ 28 6)) rfl (by decide) ra1) ?_
  show wx z 4 44 20 [(3, .inl (a2)), (0, .inr (.inr (.ref 38))), (1, .inl (a1)), (2, .inl (a2))] [] (sx_put σ 31 13 (a1) ((sg_g σ 28 6))) (fun v σ' => v = none ∧ sg_F [6, 16, 29, 30, 31, 32, 33, 34, 39, 40, 41, 42, 43, 44, 7028, 10038, 11038, 13038, 14038] σ σ' ∧ Q σ')
  generalize hs2 : (sx_put σ 31 13 (a1) ((sg_g σ 28 6))) = σ1
  have w := w σ1 hs2.symm
  have hF3 : sg_F [31] σ σ1 := by rw [← hs2]; exact sg_F_p (sg_F_r _ _) rfl _ _ _
  refine wk_b tt_44 4 (pc' := 26) (ls' := [(3, .inl (a2)), (0, .inr (.inr (.ref 38))), (1, .inl (a1)), (2, .inl (a2))]) (st' := [.inl ((-1)), .inl (a2), .inr (.inr (.ref 42))]) (σ' := σ1) rfl ?_
  refine wk_callp tt_44 rfl rfl rfl rfl rfl tt_21 rfl (by decide) (pt_i0 z σ1 42 200 (a2) ((-1)) rfl (by decide) ra2) ?_
  show wx z 4 44 29 [(3, .inl (a2)), (0, .inr (.inr (.ref 38))), (1, .inl (a1)), (2, .inl (a2))] [] (sx_put σ1 42 200 (a2) ((-1))) (fun v σ' => v = none ∧ sg_F [6, 16, 29, 30, 31, 32, 33, 34, 39, 40, 41, 42, 43, 44, 7028, 10038, 11038, 13038, 14038] σ σ' ∧ Q σ')
  generalize hs5 : (sx_put σ1 42 200 (a2) ((-1))) = σ4
  have w := w σ4 hs5.symm
  have hF6 : sg_F [42] σ1 σ4 := by rw [← hs5]; exact sg_F_p (sg_F_r _ _) rfl _ _ _
  refine wk_b tt_44 2 (pc' := 31) (ls' := [(3, .inl (a2)), (0, .inr (.inr (.ref 38))), (1, .inl (a1)), (2, .inl (a2))]) (st' := [.inl (a2), .inr (.inr (.ref 38))]) (σ' := σ4) rfl ?_
  refine wk_call tt_44 rfl rfl rfl rfl rfl tt_38 rfl (by decide) (w_kEnter z σ4 (a2) _ ra2 w) (fun u12 σ8 hq10 => ?_)
  obtain ⟨rfl, hF9, w⟩ := hq10
  have w := w hF9
  refine wk_b tt_44 2 (pc' := 37) (ls' := [(4, .inl (0)), (3, .inl (a2)), (0, .inr (.inr (.ref 38))), (1, .inl (a1)), (2, .inl (a2))]) (st' := []) (σ' := σ8) rfl ?_
  obtain ⟨I17, X19, ⟨μ18, w25⟩, w26, w27⟩ := w
  have ex29 : ∀ (σ15 : sg_S), sg_F [6, 16, 29, 30, 32, 33, 34, 39, 40, 41, 42, 43, 44, 7028, 10038, 11038, 13038, 14038] σ8 σ15 → X19 σ15 → wx z 4 44 181 [(0, .inr (.inr (.ref 38))), (1, .inl (a1))] [] σ15 (fun v σ' => v = none ∧ sg_F [6, 16, 29, 30, 31, 32, 33, 34, 39, 40, 41, 42, 43, 44, 7028, 10038, 11038, 13038, 14038] σ σ' ∧ Q σ') := by
    intro σ15 hF16 w
    have w := w27 σ15 hF16 w
    refine wk_b tt_44 4 (pc' := 188) (ls' := [(0, .inr (.inr (.ref 38))), (1, .inl (a1))]) (st' := [.inl (a1), .inl (6), .inr (.inr (.ref 28))]) (σ' := σ15) rfl ?_
    refine wk_call tt_44 rfl rfl rfl rfl rfl tt_193 rfl (by decide) (w_kpAdd z σ15 (6) (a1) _ (by decide) ra1 w) (fun u35 σ31 hq33 => ?_)
    obtain ⟨rfl, hF32, w⟩ := hq33
    have w := w hF32
    exact wk_rV tt_44 rfl rfl ⟨rfl, (sg_F_t (sg_F_t (sg_F_t (sg_F_t (sg_F_t (sg_F_r [6, 16, 29, 30, 31, 32, 33, 34, 39, 40, 41, 42, 43, 44, 7028, 10038, 11038, 13038, 14038] σ) (sg_F_m (L := [6, 16, 29, 30, 31, 32, 33, 34, 39, 40, 41, 42, 43, 44, 7028, 10038, 11038, 13038, 14038]) hF3 rfl)) (sg_F_m (L := [6, 16, 29, 30, 31, 32, 33, 34, 39, 40, 41, 42, 43, 44, 7028, 10038, 11038, 13038, 14038]) hF6 rfl)) (sg_F_m (L := [6, 16, 29, 30, 31, 32, 33, 34, 39, 40, 41, 42, 43, 44, 7028, 10038, 11038, 13038, 14038]) hF9 rfl)) (sg_F_m (L := [6, 16, 29, 30, 31, 32, 33, 34, 39, 40, 41, 42, 43, 44, 7028, 10038, 11038, 13038, 14038]) hF16 rfl)) (sg_F_m (L := [6, 16, 29, 30, 31, 32, 33, 34, 39, 40, 41, 42, 43, 44, 7028, 10038, 11038, 13038, 14038]) hF32 rfl)), w⟩
  have lp24 : ∀ (n28 : Nat) (v13 : Int) (v14 : Int) (σ15 : sg_S), sg_R v13 → sg_R v14 → sg_F [6, 16, 29, 30, 32, 33, 34, 39, 40, 41, 42, 43, 44, 7028, 10038, 11038, 13038, 14038] σ8 σ15 → I17 n28 v13 v14 σ15 → wx z 4 44 37 [(0, .inr (.inr (.ref 38))), (1, .inl (a1)), (3, .inl (v13)), (4, .inl (v14))] [] σ15 (fun v σ' => v = none ∧ sg_F [6, 16, 29, 30, 31, 32, 33, 34, 39, 40, 41, 42, 43, 44, 7028, 10038, 11038, 13038, 14038] σ σ' ∧ Q σ') := by
    intro n28
    induction n28 using Nat.strongRecOn with
    | _ n28 ih22 =>
      intro v13 v14 σ15 r20 r21 hF16 w
      have w := w26 n28 v13 v14 σ15 r20 r21 hF16 w
      refine wk_b tt_44 2 (pc' := 42) (ls' := [(0, .inr (.inr (.ref 38))), (1, .inl (a1)), (3, .inl (v13)), (4, .inl (v14))]) (st' := [.inl (400), .inl (v14)]) (σ' := σ15) rfl ?_
      refine wk_if2 tt_44 (tgt := 181) rfl rfl r21 (by decide) (fun (h36 : 400 < v14) => ?_) (fun (h36 : v14 ≤ 400) => ?_)
      ·
        have w := w.1 h36
        exact wk_ls [(0, .inr (.inr (.ref 38))), (1, .inl (a1))] rfl ⟨rfl, rfl, trivial⟩ (ex29  σ15  (sg_F_t (sg_F_r [6, 16, 29, 30, 32, 33, 34, 39, 40, 41, 42, 43, 44, 7028, 10038, 11038, 13038, 14038] σ8) (sg_F_m (L := [6, 16, 29, 30, 32, 33, 34, 39, 40, 41, 42, 43, 44, 7028, 10038, 11038, 13038, 14038]) hF16 rfl)) w)
      ·
        have w := w.2 h36
        refine wk_b tt_44 1 (pc' := 46) (ls' := [(0, .inr (.inr (.ref 38))), (1, .inl (a1)), (3, .inl (v13)), (4, .inl (v14))]) (st' := [.inl (v13)]) (σ' := σ15) rfl ?_
        refine wk_if tt_44 (tgt := 181) rfl rfl r20 (fun (h37 : v13 < 0) => ?_) (fun (h37 : 0 ≤ v13) => ?_)
        ·
          have w := w.1 h37
          exact wk_ls [(0, .inr (.inr (.ref 38))), (1, .inl (a1))] rfl ⟨rfl, rfl, trivial⟩ (ex29  σ15  (sg_F_t (sg_F_r [6, 16, 29, 30, 32, 33, 34, 39, 40, 41, 42, 43, 44, 7028, 10038, 11038, 13038, 14038] σ8) (sg_F_m (L := [6, 16, 29, 30, 32, 33, 34, 39, 40, 41, 42, 43, 44, 7028, 10038, 11038, 13038, 14038]) hF16 rfl)) w)
        ·
          have w := w.2 h37
          refine wk_b tt_44 2 (pc' := 53) (ls' := [(0, .inr (.inr (.ref 38))), (1, .inl (a1)), (3, .inl (v13)), (4, .inl (v14))]) (st' := [.inl ((sg_g σ15 38 13))]) (σ' := σ15) rfl ?_
          refine wk_if tt_44 (tgt := 181) rfl rfl (sg_Rg _ _ _) (fun (h38 : ¬ (sg_g σ15 38 13) = 0) => ?_) (fun (h38 : (sg_g σ15 38 13) = 0) => ?_)
          ·
            have w := w.1 h38
            exact wk_ls [(0, .inr (.inr (.ref 38))), (1, .inl (a1))] rfl ⟨rfl, rfl, trivial⟩ (ex29  σ15  (sg_F_t (sg_F_r [6, 16, 29, 30, 32, 33, 34, 39, 40, 41, 42, 43, 44, 7028, 10038, 11038, 13038, 14038] σ8) (sg_F_m (L := [6, 16, 29, 30, 32, 33, 34, 39, 40, 41, 42, 43, 44, 7028, 10038, 11038, 13038, 14038]) hF16 rfl)) w)
          ·
            have w := w.2 h38
            refine wk_b tt_44 3 (pc' := 61) (ls' := [(0, .inr (.inr (.ref 38))), (1, .inl (a1)), (3, .inl (v13)), (4, .inl (v14))]) (st' := [.inl (v13), .inr (.inr (.ref 43))]) (σ' := σ15) rfl ?_
            refine wk_callp tt_44 rfl rfl rfl rfl rfl tt_5 rfl (by decide) (at_i0 z σ15 43 200 (v13) rfl (by decide) r20) ?_
            show wx z 4 44 64 [(0, .inr (.inr (.ref 38))), (1, .inl (a1)), (3, .inl (v13)), (4, .inl (v14))] [.inl ((sx_at σ15 43 200 (v13)))] σ15 (fun v σ' => v = none ∧ sg_F [6, 16, 29, 30, 31, 32, 33, 34, 39, 40, 41, 42, 43, 44, 7028, 10038, 11038, 13038, 14038] σ σ' ∧ Q σ')
            refine wk_b tt_44 4 (pc' := 71) (ls' := [(5, .inl ((sx_at σ15 43 200 (v13)))), (0, .inr (.inr (.ref 38))), (1, .inl (a1)), (3, .inl (v13)), (4, .inl (v14))]) (st' := [.inl (v13), .inr (.inr (.ref 44))]) (σ' := σ15) rfl ?_
            refine wk_callp tt_44 rfl rfl rfl rfl rfl tt_5 rfl (by decide) (at_i0 z σ15 44 200 (v13) rfl (by decide) r20) ?_
            show wx z 4 44 74 [(5, .inl ((sx_at σ15 43 200 (v13)))), (0, .inr (.inr (.ref 38))), (1, .inl (a1)), (3, .inl (v13)), (4, .inl (v14))] [.inl ((sx_at σ15 44 200 (v13)))] σ15 (fun v σ' => v = none ∧ sg_F [6, 16, 29, 30, 31, 32, 33, 34, 39, 40, 41, 42, 43, 44, 7028, 10038, 11038, 13038, 14038] σ σ' ∧ Q σ')
            refine wk_b tt_44 4 (pc' := 82) (ls' := [(5, .inl ((sx_at σ15 43 200 (v13)))), (0, .inr (.inr (.ref 38))), (1, .inl (a1)), (3, .inl (v13)), (4, .inl (v14))]) (st' := [.inl (v13), .inr (.inr (.ref 10)), .inl ((sx_at σ15 44 200 (v13)))]) (σ' := σ15) rfl ?_
            refine wk_callp tt_44 rfl rfl rfl rfl rfl tt_5 rfl (by decide) (at_i0 z σ15 10 200 (v13) rfl (by decide) r20) ?_
            show wx z 4 44 85 [(5, .inl ((sx_at σ15 43 200 (v13)))), (0, .inr (.inr (.ref 38))), (1, .inl (a1)), (3, .inl (v13)), (4, .inl (v14))] [.inl ((sx_at σ15 10 200 (v13))), .inl ((sx_at σ15 44 200 (v13)))] σ15 (fun v σ' => v = none ∧ sg_F [6, 16, 29, 30, 31, 32, 33, 34, 39, 40, 41, 42, 43, 44, 7028, 10038, 11038, 13038, 14038] σ σ' ∧ Q σ')
            rw [sx_F (a := 10) (n := 200) (i := (v13)) hF16 rfl, sx_F (a := 10) (n := 200) (i := (v13)) hF9 rfl, sx_F (a := 10) (n := 200) (i := (v13)) hF6 rfl, sx_F (a := 10) (n := 200) (i := (v13)) hF3 rfl]
            obtain ⟨P41, w, w46⟩ := w
            have jn40 : ∀ (v44 : Int) (σ42 : sg_S), sg_R v44 → sg_F [6, 16, 29, 30, 32, 33, 34, 39, 40, 41, 42, 43, 44, 7028, 10038, 11038, 13038, 14038] σ15 σ42 → P41 v44 σ42 → wx z 4 44 175 [(0, .inr (.inr (.ref 38))), (1, .inl (a1)), (3, .inl (v44)), (4, .inl (v14))] [] σ42 (fun v σ' => v = none ∧ sg_F [6, 16, 29, 30, 31, 32, 33, 34, 39, 40, 41, 42, 43, 44, 7028, 10038, 11038, 13038, 14038] σ σ' ∧ Q σ') := by
              intro v44 σ42 r45 hF43 w
              have w := w46 v44 σ42 r45 hF43 w
              obtain ⟨c47, w⟩ := w
              refine wk_b tt_44 2 (pc' := 37) (ls' := [(4, .inl ((v14 + 1))), (0, .inr (.inr (.ref 38))), (1, .inl (a1)), (3, .inl (v44))]) (st' := []) (σ' := σ42) rfl ?_
              obtain ⟨m48, hm48, w⟩ := w
              exact wk_ls [(0, .inr (.inr (.ref 38))), (1, .inl (a1)), (3, .inl (v44)), (4, .inl ((v14 + 1)))] rfl ⟨rfl, rfl, rfl, rfl, trivial⟩ (ih22 m48 hm48 (v44) ((v14 + 1)) σ42 r45 c47 (sg_F_t (sg_F_t (sg_F_r [6, 16, 29, 30, 32, 33, 34, 39, 40, 41, 42, 43, 44, 7028, 10038, 11038, 13038, 14038] σ8) (sg_F_m (L := [6, 16, 29, 30, 32, 33, 34, 39, 40, 41, 42, 43, 44, 7028, 10038, 11038, 13038, 14038]) hF16 rfl)) (sg_F_m (L := [6, 16, 29, 30, 32, 33, 34, 39, 40, 41, 42, 43, 44, 7028, 10038, 11038, 13038, 14038]) hF43 rfl)) w)
            refine wk_if2 tt_44 (tgt := 105) rfl rfl (sx_R ..) (sx_R ..) (fun (h39 : (sx_at σ15 44 200 (v13)) < (sx_at σ 10 200 (v13))) => ?_) (fun (h39 : (sx_at σ 10 200 (v13)) ≤ (sx_at σ15 44 200 (v13))) => ?_)
            ·
              have w := w.1 h39
              refine wk_b tt_44 5 (pc' := 112) (ls' := [(5, .inl ((sx_at σ15 43 200 (v13)))), (0, .inr (.inr (.ref 38))), (1, .inl (a1)), (3, .inl (v13)), (4, .inl (v14))]) (st' := [.inl (v13), .inr (.inr (.ref 44)), .inl (v13), .inr (.inr (.ref 38))]) (σ' := σ15) rfl ?_
              refine wk_callp tt_44 rfl rfl rfl rfl rfl tt_5 rfl (by decide) (at_i0 z σ15 44 200 (v13) rfl (by decide) r20) ?_
              show wx z 4 44 115 [(5, .inl ((sx_at σ15 43 200 (v13)))), (0, .inr (.inr (.ref 38))), (1, .inl (a1)), (3, .inl (v13)), (4, .inl (v14))] [.inl ((sx_at σ15 44 200 (v13))), .inl (v13), .inr (.inr (.ref 38))] σ15 (fun v σ' => v = none ∧ sg_F [6, 16, 29, 30, 31, 32, 33, 34, 39, 40, 41, 42, 43, 44, 7028, 10038, 11038, 13038, 14038] σ σ' ∧ Q σ')
              refine wk_call tt_44 rfl rfl rfl rfl rfl tt_26 rfl (by decide) (w_kAhead z σ15 (v13) ((sx_at σ15 44 200 (v13))) _ r20 (sx_R ..) w) (fun u54 σ50 hq52 => ?_)
              obtain ⟨rfl, hF51, w⟩ := hq52
              have w := w hF51
              refine wk_b tt_44 6 (pc' := 128) (ls' := [(5, .inl ((sx_at σ15 43 200 (v13)))), (0, .inr (.inr (.ref 38))), (1, .inl (a1)), (3, .inl (v13)), (4, .inl (v14))]) (st' := [.inl (v13), .inr (.inr (.ref 44)), .inl (v13), .inr (.inr (.ref 44))]) (σ' := σ50) rfl ?_
              refine wk_callp tt_44 rfl rfl rfl rfl rfl tt_5 rfl (by decide) (at_i0 z σ50 44 200 (v13) rfl (by decide) r20) ?_
              show wx z 4 44 131 [(5, .inl ((sx_at σ15 43 200 (v13)))), (0, .inr (.inr (.ref 38))), (1, .inl (a1)), (3, .inl (v13)), (4, .inl (v14))] [.inl ((sx_at σ50 44 200 (v13))), .inl (v13), .inr (.inr (.ref 44))] σ50 (fun v σ' => v = none ∧ sg_F [6, 16, 29, 30, 31, 32, 33, 34, 39, 40, 41, 42, 43, 44, 7028, 10038, 11038, 13038, 14038] σ σ' ∧ Q σ')
              rw [sx_F (a := 44) (n := 200) (i := (v13)) hF51 rfl]
              obtain ⟨c55, w⟩ := w
              refine wk_b tt_44 2 (pc' := 133) (ls' := [(5, .inl ((sx_at σ15 43 200 (v13)))), (0, .inr (.inr (.ref 38))), (1, .inl (a1)), (3, .inl (v13)), (4, .inl (v14))]) (st' := [.inl (((sx_at σ15 44 200 (v13)) + 1)), .inl (v13), .inr (.inr (.ref 44))]) (σ' := σ50) rfl ?_
              refine wk_callp tt_44 rfl rfl rfl rfl rfl tt_21 rfl (by decide) (pt_i0 z σ50 44 200 (v13) (((sx_at σ15 44 200 (v13)) + 1)) rfl (by decide) r20) ?_
              show wx z 4 44 136 [(5, .inl ((sx_at σ15 43 200 (v13)))), (0, .inr (.inr (.ref 38))), (1, .inl (a1)), (3, .inl (v13)), (4, .inl (v14))] [] (sx_put σ50 44 200 (v13) (((sx_at σ15 44 200 (v13)) + 1))) (fun v σ' => v = none ∧ sg_F [6, 16, 29, 30, 31, 32, 33, 34, 39, 40, 41, 42, 43, 44, 7028, 10038, 11038, 13038, 14038] σ σ' ∧ Q σ')
              generalize hs57 : (sx_put σ50 44 200 (v13) (((sx_at σ15 44 200 (v13)) + 1))) = σ56
              have w := w σ56 hs57.symm
              have hF58 : sg_F [44] σ50 σ56 := by rw [← hs57]; exact sg_F_p (sg_F_r _ _) rfl _ _ _
              refine wk_b tt_44 7 (pc' := 150) (ls' := [(5, .inl ((sx_at σ15 43 200 (v13)))), (0, .inr (.inr (.ref 38))), (1, .inl (a1)), (3, .inl (v13)), (4, .inl (v14))]) (st' := [.inl ((sx_at σ15 43 200 (v13))), .inr (.inr (.ref 9)), .inl (v13), .inr (.inr (.ref 43))]) (σ' := σ56) rfl ?_
              refine wk_callp tt_44 rfl rfl rfl rfl rfl tt_5 rfl (by decide) (at_i0 z σ56 9 200 ((sx_at σ15 43 200 (v13))) rfl (by decide) (sx_R ..)) ?_
              show wx z 4 44 153 [(5, .inl ((sx_at σ15 43 200 (v13)))), (0, .inr (.inr (.ref 38))), (1, .inl (a1)), (3, .inl (v13)), (4, .inl (v14))] [.inl ((sx_at σ56 9 200 ((sx_at σ15 43 200 (v13))))), .inl (v13), .inr (.inr (.ref 43))] σ56 (fun v σ' => v = none ∧ sg_F [6, 16, 29, 30, 31, 32, 33, 34, 39, 40, 41, 42, 43, 44, 7028, 10038, 11038, 13038, 14038] σ σ' ∧ Q σ')
              rw [sx_F (a := 9) (n := 200) (i := ((sx_at σ15 43 200 (v13)))) hF58 rfl, sx_F (a := 9) (n := 200) (i := ((sx_at σ15 43 200 (v13)))) hF51 rfl, sx_F (a := 9) (n := 200) (i := ((sx_at σ15 43 200 (v13)))) hF16 rfl, sx_F (a := 9) (n := 200) (i := ((sx_at σ15 43 200 (v13)))) hF9 rfl, sx_F (a := 9) (n := 200) (i := ((sx_at σ15 43 200 (v13)))) hF6 rfl, sx_F (a := 9) (n := 200) (i := ((sx_at σ15 43 200 (v13)))) hF3 rfl]
              refine wk_callp tt_44 rfl rfl rfl rfl rfl tt_21 rfl (by decide) (pt_i0 z σ56 43 200 (v13) ((sx_at σ 9 200 ((sx_at σ15 43 200 (v13))))) rfl (by decide) r20) ?_
              show wx z 4 44 156 [(5, .inl ((sx_at σ15 43 200 (v13)))), (0, .inr (.inr (.ref 38))), (1, .inl (a1)), (3, .inl (v13)), (4, .inl (v14))] [] (sx_put σ56 43 200 (v13) ((sx_at σ 9 200 ((sx_at σ15 43 200 (v13)))))) (fun v σ' => v = none ∧ sg_F [6, 16, 29, 30, 31, 32, 33, 34, 39, 40, 41, 42, 43, 44, 7028, 10038, 11038, 13038, 14038] σ σ' ∧ Q σ')
              generalize hs60 : (sx_put σ56 43 200 (v13) ((sx_at σ 9 200 ((sx_at σ15 43 200 (v13)))))) = σ59
              have w := w σ59 hs60.symm
              have hF61 : sg_F [43] σ56 σ59 := by rw [← hs60]; exact sg_F_p (sg_F_r _ _) rfl _ _ _
              refine wk_b tt_44 4 (pc' := 163) (ls' := [(5, .inl ((sx_at σ15 43 200 (v13)))), (0, .inr (.inr (.ref 38))), (1, .inl (a1)), (3, .inl (v13)), (4, .inl (v14))]) (st' := [.inl (v13), .inl ((sx_at σ15 43 200 (v13))), .inr (.inr (.ref 42))]) (σ' := σ59) rfl ?_
              refine wk_callp tt_44 rfl rfl rfl rfl rfl tt_21 rfl (by decide) (pt_i0 z σ59 42 200 ((sx_at σ15 43 200 (v13))) (v13) rfl (by decide) (sx_R ..)) ?_
              show wx z 4 44 166 [(5, .inl ((sx_at σ15 43 200 (v13)))), (0, .inr (.inr (.ref 38))), (1, .inl (a1)), (3, .inl (v13)), (4, .inl (v14))] [] (sx_put σ59 42 200 ((sx_at σ15 43 200 (v13))) (v13)) (fun v σ' => v = none ∧ sg_F [6, 16, 29, 30, 31, 32, 33, 34, 39, 40, 41, 42, 43, 44, 7028, 10038, 11038, 13038, 14038] σ σ' ∧ Q σ')
              generalize hs63 : (sx_put σ59 42 200 ((sx_at σ15 43 200 (v13))) (v13)) = σ62
              have w := w σ62 hs63.symm
              have hF64 : sg_F [42] σ59 σ62 := by rw [← hs63]; exact sg_F_p (sg_F_r _ _) rfl _ _ _
              refine wk_b tt_44 2 (pc' := 169) (ls' := [(5, .inl ((sx_at σ15 43 200 (v13)))), (0, .inr (.inr (.ref 38))), (1, .inl (a1)), (3, .inl (v13)), (4, .inl (v14))]) (st' := [.inl ((sx_at σ15 43 200 (v13))), .inr (.inr (.ref 38))]) (σ' := σ62) rfl ?_
              refine wk_call tt_44 rfl rfl rfl rfl rfl tt_38 rfl (by decide) (w_kEnter z σ62 ((sx_at σ15 43 200 (v13))) _ (sx_R ..) w) (fun u70 σ66 hq68 => ?_)
              obtain ⟨rfl, hF67, w⟩ := hq68
              have w := w hF67
              refine wk_b tt_44 2 (pc' := 175) (ls' := [(3, .inl ((sx_at σ15 43 200 (v13)))), (5, .inl ((sx_at σ15 43 200 (v13)))), (0, .inr (.inr (.ref 38))), (1, .inl (a1)), (4, .inl (v14))]) (st' := []) (σ' := σ66) rfl ?_
              exact wk_ls [(0, .inr (.inr (.ref 38))), (1, .inl (a1)), (3, .inl ((sx_at σ15 43 200 (v13)))), (4, .inl (v14))] rfl ⟨rfl, rfl, rfl, rfl, trivial⟩ (jn40 ((sx_at σ15 43 200 (v13))) σ66 (sx_R ..) (sg_F_t (sg_F_t (sg_F_t (sg_F_t (sg_F_t (sg_F_r [6, 16, 29, 30, 32, 33, 34, 39, 40, 41, 42, 43, 44, 7028, 10038, 11038, 13038, 14038] σ15) (sg_F_m (L := [6, 16, 29, 30, 32, 33, 34, 39, 40, 41, 42, 43, 44, 7028, 10038, 11038, 13038, 14038]) hF51 rfl)) (sg_F_m (L := [6, 16, 29, 30, 32, 33, 34, 39, 40, 41, 42, 43, 44, 7028, 10038, 11038, 13038, 14038]) hF58 rfl)) (sg_F_m (L := [6, 16, 29, 30, 32, 33, 34, 39, 40, 41, 42, 43, 44, 7028, 10038, 11038, 13038, 14038]) hF61 rfl)) (sg_F_m (L := [6, 16, 29, 30, 32, 33, 34, 39, 40, 41, 42, 43, 44, 7028, 10038, 11038, 13038, 14038]) hF64 rfl)) (sg_F_m (L := [6, 16, 29, 30, 32, 33, 34, 39, 40, 41, 42, 43, 44, 7028, 10038, 11038, 13038, 14038]) hF67 rfl)) w)
            ·
              have w := w.2 h39
              refine wk_b tt_44 2 (pc' := 90) (ls' := [(5, .inl ((sx_at σ15 43 200 (v13)))), (0, .inr (.inr (.ref 38))), (1, .inl (a1)), (3, .inl (v13)), (4, .inl (v14))]) (st' := [.inl (v13), .inr (.inr (.ref 38))]) (σ' := σ15) rfl ?_
              refine wk_call tt_44 rfl rfl rfl rfl rfl tt_40 rfl (by decide) (w_kLeave z σ15 (v13) _ r20 w) (fun u76 σ72 hq74 => ?_)
              obtain ⟨rfl, hF73, w⟩ := hq74
              have w := w hF73
              refine wk_b tt_44 3 (pc' := 98) (ls' := [(5, .inl ((sx_at σ15 43 200 (v13)))), (0, .inr (.inr (.ref 38))), (1, .inl (a1)), (3, .inl (v13)), (4, .inl (v14))]) (st' := [.inl (v13), .inr (.inr (.ref 42))]) (σ' := σ72) rfl ?_
              refine wk_callp tt_44 rfl rfl rfl rfl rfl tt_5 rfl (by decide) (at_i0 z σ72 42 200 (v13) rfl (by decide) r20) ?_
              show wx z 4 44 101 [(5, .inl ((sx_at σ15 43 200 (v13)))), (0, .inr (.inr (.ref 38))), (1, .inl (a1)), (3, .inl (v13)), (4, .inl (v14))] [.inl ((sx_at σ72 42 200 (v13)))] σ72 (fun v σ' => v = none ∧ sg_F [6, 16, 29, 30, 31, 32, 33, 34, 39, 40, 41, 42, 43, 44, 7028, 10038, 11038, 13038, 14038] σ σ' ∧ Q σ')
              rw [sx_F (a := 42) (n := 200) (i := (v13)) hF73 rfl]
              refine wk_b tt_44 2 (pc' := 175) (ls' := [(3, .inl ((sx_at σ15 42 200 (v13)))), (5, .inl ((sx_at σ15 43 200 (v13)))), (0, .inr (.inr (.ref 38))), (1, .inl (a1)), (4, .inl (v14))]) (st' := []) (σ' := σ72) rfl ?_
              exact wk_ls [(0, .inr (.inr (.ref 38))), (1, .inl (a1)), (3, .inl ((sx_at σ15 42 200 (v13)))), (4, .inl (v14))] rfl ⟨rfl, rfl, rfl, rfl, trivial⟩ (jn40 ((sx_at σ15 42 200 (v13))) σ72 (sx_R ..) (sg_F_t (sg_F_r [6, 16, 29, 30, 32, 33, 34, 39, 40, 41, 42, 43, 44, 7028, 10038, 11038, 13038, 14038] σ15) (sg_F_m (L := [6, 16, 29, 30, 32, 33, 34, 39, 40, 41, 42, 43, 44, 7028, 10038, 11038, 13038, 14038]) hF73 rfl)) w)
  exact wk_ls [(0, .inr (.inr (.ref 38))), (1, .inl (a1)), (3, .inl (a2)), (4, .inl (0))] rfl ⟨rfl, rfl, rfl, rfl, trivial⟩ (lp24 μ18 (a2) (0) σ8 ra2 (by decide) (sg_F_r _ _) w25)
-- NestedVectors$Checker.definition
def V_kDefinition (σ : sg_S) (a1 : Int) (Q : sg_S → Prop) : Prop := ∀ σ1, σ1 = (sg_w σ 38 9 (0)) → ∀ σ4, σ4 = (sg_w σ1 38 11 (a1)) → V_kdFind σ4 ((sx_atl σ 20 12 (a1))) (a1) (fun q7 _ => sg_R q7 → (∃ P15 : sg_S → Prop, ((q7 < 0 → P15 σ4) ∧ (0 ≤ q7 → V_kBlame σ4 (2) ((sx_at σ 21 12 (a1))) (fun σ87 => sg_F [13038, 14038] σ4 σ87 → P15 σ87))) ∧ (∀ (σ16 : sg_S), sg_F [13038, 14038] σ4 σ16 → P15 σ16 → ∀ σ19, σ19 = (sx_put σ16 24 12 (a1) ((sg_g σ 38 10))) → (∃ (I25 : Nat → Int → sg_S → Prop) (X27 : sg_S → Prop), (∃ n, I25 n (0) σ19) ∧ (∀ (n35 : Nat) (v22 : Int) (σ23 : sg_S), sg_R v22 → sg_F [34, 39, 40, 10038, 11038, 13038, 14038] σ19 σ23 → I25 n35 v22 σ23 → (((sx_at σ 23 12 (a1)) ≤ v22 → X27 σ23) ∧ (v22 < (sx_at σ 23 12 (a1)) → ((6 ≤ v22 → X27 σ23) ∧ (v22 < 6 → sg_R (a1 * 6) ∧ sg_R ((a1 * 6) + v22) ∧ V_kFind σ23 ((sx_atl σ 25 72 (((a1 * 6) + v22)))) (fun q48 _ => sg_R q48 → (∃ P56 : sg_S → Prop, ((q48 < 0 → P56 σ23) ∧ (0 ≤ q48 → V_kBlame σ23 (2) ((sx_at σ 26 72 (((a1 * 6) + v22)))) (fun σ81 => sg_F [13038, 14038] σ23 σ81 → P56 σ81))) ∧ (∀ (σ57 : sg_S), sg_F [13038, 14038] σ23 σ57 → P56 σ57 → (∃ P62 : sg_S → Prop, (((sx_at σ 27 72 (((a1 * 6) + v22))) ≤ 3 → P62 σ57) ∧ (3 < (sx_at σ 27 72 (((a1 * 6) + v22))) → V_kBlame σ57 (3) ((sx_at σ 26 72 (((a1 * 6) + v22)))) (fun σ75 => sg_F [13038, 14038] σ57 σ75 → P62 σ75))) ∧ (∀ (σ63 : sg_S), sg_F [13038, 14038] σ57 σ63 → P62 σ63 → V_kBind σ63 ((sx_atl σ 25 72 (((a1 * 6) + v22)))) ((sx_at σ 27 72 (((a1 * 6) + v22)))) (fun q66 σ67 => sg_R q66 → sg_F [34, 39, 40, 10038, 11038] σ63 σ67 → sg_R (v22 + 1) ∧ (∃ m, m < n35 ∧ I25 m ((v22 + 1)) σ67)))))))))))) ∧ (∀ (σ23 : sg_S), sg_F [34, 39, 40, 10038, 11038, 13038, 14038] σ19 σ23 → X27 σ23 → ((¬ (sg_g σ23 38 13) = 0 → Q σ23) ∧ ((sg_g σ23 38 13) = 0 → V_kWalk σ23 (a1) ((sx_at σ 22 12 (a1))) (fun σ39 => sg_F [6, 16, 29, 30, 31, 32, 33, 34, 39, 40, 41, 42, 43, 44, 7028, 10038, 11038, 13038, 14038] σ23 σ39 → Q σ39))))))))
set_option maxHeartbeats 4000000 in
set_option maxRecDepth 8000 in
theorem w_kDefinition (z : Value) (σ : sg_S) (a1 : Int) (Q : sg_S → Prop) (ra1 : sg_R a1) (w : V_kDefinition σ a1 Q) : wx z 5 31 0 [(0, .inr (.inr (.ref 38))), (1, .inl (a1))] [] σ (fun v σ' => v = none ∧ sg_F [6, 16, 24, 29, 30, 31, 32, 33, 34, 39, 40, 41, 42, 43, 44, 7028, 10038, 11038, 12038, 13038, 14038] σ σ' ∧ Q σ') := by
  unfold V_kDefinition at w
  refine wk_b tt_31 3 (pc' := 5) (ls' := [(0, .inr (.inr (.ref 38))), (1, .inl (a1))]) (st' := []) (σ' := (sg_w σ 38 9 (0))) rfl ?_
  generalize hs2 : (sg_w σ 38 9 (0)) = σ1
  have w := w σ1 hs2.symm
  have hF3 : sg_F [10038] σ σ1 := by rw [← hs2]; exact sg_F_w (sg_F_r _ _) rfl _
  refine wk_b tt_31 3 (pc' := 10) (ls' := [(0, .inr (.inr (.ref 38))), (1, .inl (a1))]) (st' := []) (σ' := (sg_w σ1 38 11 (a1))) rfl ?_
  generalize hs5 : (sg_w σ1 38 11 (a1)) = σ4
  have w := w σ4 hs5.symm
  have hF6 : sg_F [12038] σ1 σ4 := by rw [← hs5]; exact sg_F_w (sg_F_r _ _) rfl _
  refine wk_b tt_31 6 (pc' := 22) (ls' := [(0, .inr (.inr (.ref 38))), (1, .inl (a1))]) (st' := [.inl (a1), .inr (.inr (.ref 20)), .inr (.inr (.ref 19))]) (σ' := σ4) rfl ?_
  refine wk_callp tt_31 rfl rfl rfl rfl rfl tt_6 rfl (by decide) (at_l0 z σ4 20 12 (a1) rfl (by decide) ra1) ?_
  show wx z 5 31 25 [(0, .inr (.inr (.ref 38))), (1, .inl (a1))] [.inr (.inl ((sx_atl σ4 20 12 (a1)))), .inr (.inr (.ref 19))] σ4 (fun v σ' => v = none ∧ sg_F [6, 16, 24, 29, 30, 31, 32, 33, 34, 39, 40, 41, 42, 43, 44, 7028, 10038, 11038, 12038, 13038, 14038] σ σ' ∧ Q σ')
  rw [sx_Fl (a := 20) (n := 12) (i := (a1)) hF6 rfl, sx_Fl (a := 20) (n := 12) (i := (a1)) hF3 rfl]
  refine wk_b tt_31 1 (pc' := 26) (ls' := [(0, .inr (.inr (.ref 38))), (1, .inl (a1))]) (st' := [.inl (a1), .inr (.inl ((sx_atl σ 20 12 (a1)))), .inr (.inr (.ref 19))]) (σ' := σ4) rfl ?_
  refine wk_call tt_31 rfl rfl rfl rfl rfl tt_48 rfl (by decide) (w_kdFind z σ4 ((sx_atl σ 20 12 (a1))) (a1) _ (sx_Rl ..) ra1 w) (fun u12 σ8 hq10 => ?_)
  obtain ⟨q7, rfl, r11, rfl, w⟩ := hq10
  have w := w r11
  obtain ⟨P15, w, w18⟩ := w
  have jn14 : ∀ (σ16 : sg_S), sg_F [13038, 14038] σ4 σ16 → P15 σ16 → wx z 5 31 48 [(0, .inr (.inr (.ref 38))), (1, .inl (a1))] [] σ16 (fun v σ' => v = none ∧ sg_F [6, 16, 24, 29, 30, 31, 32, 33, 34, 39, 40, 41, 42, 43, 44, 7028, 10038, 11038, 12038, 13038, 14038] σ σ' ∧ Q σ') := by
    intro σ16 hF17 w
    have w := w18 σ16 hF17 w
    refine wk_b tt_31 6 (pc' := 60) (ls' := [(0, .inr (.inr (.ref 38))), (1, .inl (a1))]) (st' := [.inl ((sg_g σ16 38 10)), .inl (a1), .inr (.inr (.ref 24))]) (σ' := σ16) rfl ?_
    rw [show (sg_g σ16 38 10) = (sg_g σ 38 10) from by rw [sg_F_g hF17 rfl, sg_F_g hF6 rfl, sg_F_g hF3 rfl]]
    refine wk_callp tt_31 rfl rfl rfl rfl rfl tt_21 rfl (by decide) (pt_i0 z σ16 24 12 (a1) ((sg_g σ 38 10)) rfl (by decide) ra1) ?_
    show wx z 5 31 63 [(0, .inr (.inr (.ref 38))), (1, .inl (a1))] [] (sx_put σ16 24 12 (a1) ((sg_g σ 38 10))) (fun v σ' => v = none ∧ sg_F [6, 16, 24, 29, 30, 31, 32, 33, 34, 39, 40, 41, 42, 43, 44, 7028, 10038, 11038, 12038, 13038, 14038] σ σ' ∧ Q σ')
    generalize hs20 : (sx_put σ16 24 12 (a1) ((sg_g σ 38 10))) = σ19
    have w := w σ19 hs20.symm
    have hF21 : sg_F [24] σ16 σ19 := by rw [← hs20]; exact sg_F_p (sg_F_r _ _) rfl _ _ _
    refine wk_b tt_31 2 (pc' := 65) (ls' := [(2, .inl (0)), (0, .inr (.inr (.ref 38))), (1, .inl (a1))]) (st' := []) (σ' := σ19) rfl ?_
    obtain ⟨I25, X27, ⟨μ26, w32⟩, w33, w34⟩ := w
    have ex36 : ∀ (σ23 : sg_S), sg_F [34, 39, 40, 10038, 11038, 13038, 14038] σ19 σ23 → X27 σ23 → wx z 5 31 191 [(0, .inr (.inr (.ref 38))), (1, .inl (a1))] [] σ23 (fun v σ' => v = none ∧ sg_F [6, 16, 24, 29, 30, 31, 32, 33, 34, 39, 40, 41, 42, 43, 44, 7028, 10038, 11038, 12038, 13038, 14038] σ σ' ∧ Q σ') := by
      intro σ23 hF24 w
      have w := w34 σ23 hF24 w
      refine wk_b tt_31 2 (pc' := 195) (ls' := [(0, .inr (.inr (.ref 38))), (1, .inl (a1))]) (st' := [.inl ((sg_g σ23 38 13))]) (σ' := σ23) rfl ?_
      refine wk_if tt_31 (tgt := 214) rfl rfl (sg_Rg _ _ _) (fun (h37 : ¬ (sg_g σ23 38 13) = 0) => ?_) (fun (h37 : (sg_g σ23 38 13) = 0) => ?_)
      ·
        have w := w.1 h37
        exact wk_rV tt_31 rfl rfl ⟨rfl, (sg_F_t (sg_F_t (sg_F_t (sg_F_t (sg_F_t (sg_F_r [6, 16, 24, 29, 30, 31, 32, 33, 34, 39, 40, 41, 42, 43, 44, 7028, 10038, 11038, 12038, 13038, 14038] σ) (sg_F_m (L := [6, 16, 24, 29, 30, 31, 32, 33, 34, 39, 40, 41, 42, 43, 44, 7028, 10038, 11038, 12038, 13038, 14038]) hF3 rfl)) (sg_F_m (L := [6, 16, 24, 29, 30, 31, 32, 33, 34, 39, 40, 41, 42, 43, 44, 7028, 10038, 11038, 12038, 13038, 14038]) hF6 rfl)) (sg_F_m (L := [6, 16, 24, 29, 30, 31, 32, 33, 34, 39, 40, 41, 42, 43, 44, 7028, 10038, 11038, 12038, 13038, 14038]) hF17 rfl)) (sg_F_m (L := [6, 16, 24, 29, 30, 31, 32, 33, 34, 39, 40, 41, 42, 43, 44, 7028, 10038, 11038, 12038, 13038, 14038]) hF21 rfl)) (sg_F_m (L := [6, 16, 24, 29, 30, 31, 32, 33, 34, 39, 40, 41, 42, 43, 44, 7028, 10038, 11038, 12038, 13038, 14038]) hF24 rfl)), w⟩
      ·
        have w := w.2 h37
        refine wk_b tt_31 6 (pc' := 208) (ls' := [(0, .inr (.inr (.ref 38))), (1, .inl (a1))]) (st' := [.inl (a1), .inr (.inr (.ref 22)), .inl (a1), .inr (.inr (.ref 38))]) (σ' := σ23) rfl ?_
        refine wk_callp tt_31 rfl rfl rfl rfl rfl tt_5 rfl (by decide) (at_i0 z σ23 22 12 (a1) rfl (by decide) ra1) ?_
        show wx z 5 31 211 [(0, .inr (.inr (.ref 38))), (1, .inl (a1))] [.inl ((sx_at σ23 22 12 (a1))), .inl (a1), .inr (.inr (.ref 38))] σ23 (fun v σ' => v = none ∧ sg_F [6, 16, 24, 29, 30, 31, 32, 33, 34, 39, 40, 41, 42, 43, 44, 7028, 10038, 11038, 12038, 13038, 14038] σ σ' ∧ Q σ')
        rw [sx_F (a := 22) (n := 12) (i := (a1)) hF24 rfl, sx_F (a := 22) (n := 12) (i := (a1)) hF21 rfl, sx_F (a := 22) (n := 12) (i := (a1)) hF17 rfl, sx_F (a := 22) (n := 12) (i := (a1)) hF6 rfl, sx_F (a := 22) (n := 12) (i := (a1)) hF3 rfl]
        refine wk_call tt_31 rfl rfl rfl rfl rfl tt_44 rfl (by decide) (w_kWalk z σ23 (a1) ((sx_at σ 22 12 (a1))) _ ra1 (sx_R ..) w) (fun u43 σ39 hq41 => ?_)
        obtain ⟨rfl, hF40, w⟩ := hq41
        have w := w hF40
        exact wk_rV tt_31 rfl rfl ⟨rfl, (sg_F_t (sg_F_t (sg_F_t (sg_F_t (sg_F_t (sg_F_t (sg_F_r [6, 16, 24, 29, 30, 31, 32, 33, 34, 39, 40, 41, 42, 43, 44, 7028, 10038, 11038, 12038, 13038, 14038] σ) (sg_F_m (L := [6, 16, 24, 29, 30, 31, 32, 33, 34, 39, 40, 41, 42, 43, 44, 7028, 10038, 11038, 12038, 13038, 14038]) hF3 rfl)) (sg_F_m (L := [6, 16, 24, 29, 30, 31, 32, 33, 34, 39, 40, 41, 42, 43, 44, 7028, 10038, 11038, 12038, 13038, 14038]) hF6 rfl)) (sg_F_m (L := [6, 16, 24, 29, 30, 31, 32, 33, 34, 39, 40, 41, 42, 43, 44, 7028, 10038, 11038, 12038, 13038, 14038]) hF17 rfl)) (sg_F_m (L := [6, 16, 24, 29, 30, 31, 32, 33, 34, 39, 40, 41, 42, 43, 44, 7028, 10038, 11038, 12038, 13038, 14038]) hF21 rfl)) (sg_F_m (L := [6, 16, 24, 29, 30, 31, 32, 33, 34, 39, 40, 41, 42, 43, 44, 7028, 10038, 11038, 12038, 13038, 14038]) hF24 rfl)) (sg_F_m (L := [6, 16, 24, 29, 30, 31, 32, 33, 34, 39, 40, 41, 42, 43, 44, 7028, 10038, 11038, 12038, 13038, 14038]) hF40 rfl)), w⟩
    have lp31 : ∀ (n35 : Nat) (v22 : Int) (σ23 : sg_S), sg_R v22 → sg_F [34, 39, 40, 10038, 11038, 13038, 14038] σ19 σ23 → I25 n35 v22 σ23 → wx z 5 31 65 [(0, .inr (.inr (.ref 38))), (1, .inl (a1)), (2, .inl (v22))] [] σ23 (fun v σ' => v = none ∧ sg_F [6, 16, 24, 29, 30, 31, 32, 33, 34, 39, 40, 41, 42, 43, 44, 7028, 10038, 11038, 12038, 13038, 14038] σ σ' ∧ Q σ') := by
      intro n35
      induction n35 using Nat.strongRecOn with
      | _ n35 ih29 =>
        intro v22 σ23 r28 hF24 w
        have w := w33 n35 v22 σ23 r28 hF24 w
        refine wk_b tt_31 5 (pc' := 74) (ls' := [(0, .inr (.inr (.ref 38))), (1, .inl (a1)), (2, .inl (v22))]) (st' := [.inl (a1), .inr (.inr (.ref 23)), .inl (v22)]) (σ' := σ23) rfl ?_
        refine wk_callp tt_31 rfl rfl rfl rfl rfl tt_5 rfl (by decide) (at_i0 z σ23 23 12 (a1) rfl (by decide) ra1) ?_
        show wx z 5 31 77 [(0, .inr (.inr (.ref 38))), (1, .inl (a1)), (2, .inl (v22))] [.inl ((sx_at σ23 23 12 (a1))), .inl (v22)] σ23 (fun v σ' => v = none ∧ sg_F [6, 16, 24, 29, 30, 31, 32, 33, 34, 39, 40, 41, 42, 43, 44, 7028, 10038, 11038, 12038, 13038, 14038] σ σ' ∧ Q σ')
        rw [sx_F (a := 23) (n := 12) (i := (a1)) hF24 rfl, sx_F (a := 23) (n := 12) (i := (a1)) hF21 rfl, sx_F (a := 23) (n := 12) (i := (a1)) hF17 rfl, sx_F (a := 23) (n := 12) (i := (a1)) hF6 rfl, sx_F (a := 23) (n := 12) (i := (a1)) hF3 rfl]
        refine wk_if2 tt_31 (tgt := 191) rfl rfl r28 (sx_R ..) (fun (h44 : (sx_at σ 23 12 (a1)) ≤ v22) => ?_) (fun (h44 : v22 < (sx_at σ 23 12 (a1))) => ?_)
        ·
          have w := w.1 h44
          exact wk_ls [(0, .inr (.inr (.ref 38))), (1, .inl (a1))] rfl ⟨rfl, rfl, trivial⟩ (ex36  σ23  (sg_F_t (sg_F_r [34, 39, 40, 10038, 11038, 13038, 14038] σ19) (sg_F_m (L := [34, 39, 40, 10038, 11038, 13038, 14038]) hF24 rfl)) w)
        ·
          have w := w.2 h44
          refine wk_b tt_31 2 (pc' := 83) (ls' := [(0, .inr (.inr (.ref 38))), (1, .inl (a1)), (2, .inl (v22))]) (st' := [.inl (6), .inl (v22)]) (σ' := σ23) rfl ?_
          refine wk_if2 tt_31 (tgt := 191) rfl rfl r28 (by decide) (fun (h45 : 6 ≤ v22) => ?_) (fun (h45 : v22 < 6) => ?_)
          ·
            have w := w.1 h45
            exact wk_ls [(0, .inr (.inr (.ref 38))), (1, .inl (a1))] rfl ⟨rfl, rfl, trivial⟩ (ex36  σ23  (sg_F_t (sg_F_r [34, 39, 40, 10038, 11038, 13038, 14038] σ19) (sg_F_m (L := [34, 39, 40, 10038, 11038, 13038, 14038]) hF24 rfl)) w)
          ·
            have w := w.2 h45
            obtain ⟨c46, w⟩ := w
            obtain ⟨c47, w⟩ := w
            refine wk_b tt_31 11 (pc' := 102) (ls' := [(3, .inl (((a1 * 6) + v22))), (0, .inr (.inr (.ref 38))), (1, .inl (a1)), (2, .inl (v22))]) (st' := [.inl (((a1 * 6) + v22)), .inr (.inr (.ref 25)), .inr (.inr (.ref 38))]) (σ' := σ23) rfl ?_
            refine wk_callp tt_31 rfl rfl rfl rfl rfl tt_6 rfl (by decide) (at_l0 z σ23 25 72 (((a1 * 6) + v22)) rfl (by decide) c47) ?_
            show wx z 5 31 105 [(3, .inl (((a1 * 6) + v22))), (0, .inr (.inr (.ref 38))), (1, .inl (a1)), (2, .inl (v22))] [.inr (.inl ((sx_atl σ23 25 72 (((a1 * 6) + v22))))), .inr (.inr (.ref 38))] σ23 (fun v σ' => v = none ∧ sg_F [6, 16, 24, 29, 30, 31, 32, 33, 34, 39, 40, 41, 42, 43, 44, 7028, 10038, 11038, 12038, 13038, 14038] σ σ' ∧ Q σ')
            rw [sx_Fl (a := 25) (n := 72) (i := (((a1 * 6) + v22))) hF24 rfl, sx_Fl (a := 25) (n := 72) (i := (((a1 * 6) + v22))) hF21 rfl, sx_Fl (a := 25) (n := 72) (i := (((a1 * 6) + v22))) hF17 rfl, sx_Fl (a := 25) (n := 72) (i := (((a1 * 6) + v22))) hF6 rfl, sx_Fl (a := 25) (n := 72) (i := (((a1 * 6) + v22))) hF3 rfl]
            refine wk_call tt_31 rfl rfl rfl rfl rfl tt_39 rfl (by decide) (w_kFind z σ23 ((sx_atl σ 25 72 (((a1 * 6) + v22)))) _ (sx_Rl ..) w) (fun u53 σ49 hq51 => ?_)
            obtain ⟨q48, rfl, r52, rfl, w⟩ := hq51
            have w := w r52
            obtain ⟨P56, w, w59⟩ := w
            have jn55 : ∀ (σ57 : sg_S), sg_F [13038, 14038] σ23 σ57 → P56 σ57 → wx z 5 31 127 [(0, .inr (.inr (.ref 38))), (1, .inl (a1)), (2, .inl (v22)), (3, .inl (((a1 * 6) + v22)))] [] σ57 (fun v σ' => v = none ∧ sg_F [6, 16, 24, 29, 30, 31, 32, 33, 34, 39, 40, 41, 42, 43, 44, 7028, 10038, 11038, 12038, 13038, 14038] σ σ' ∧ Q σ') := by
              intro σ57 hF58 w
              have w := w59 σ57 hF58 w
              refine wk_b tt_31 4 (pc' := 135) (ls' := [(0, .inr (.inr (.ref 38))), (1, .inl (a1)), (2, .inl (v22)), (3, .inl (((a1 * 6) + v22)))]) (st' := [.inl (((a1 * 6) + v22)), .inr (.inr (.ref 27))]) (σ' := σ57) rfl ?_
              refine wk_callp tt_31 rfl rfl rfl rfl rfl tt_5 rfl (by decide) (at_i0 z σ57 27 72 (((a1 * 6) + v22)) rfl (by decide) c47) ?_
              show wx z 5 31 138 [(0, .inr (.inr (.ref 38))), (1, .inl (a1)), (2, .inl (v22)), (3, .inl (((a1 * 6) + v22)))] [.inl ((sx_at σ57 27 72 (((a1 * 6) + v22))))] σ57 (fun v σ' => v = none ∧ sg_F [6, 16, 24, 29, 30, 31, 32, 33, 34, 39, 40, 41, 42, 43, 44, 7028, 10038, 11038, 12038, 13038, 14038] σ σ' ∧ Q σ')
              rw [sx_F (a := 27) (n := 72) (i := (((a1 * 6) + v22))) hF58 rfl, sx_F (a := 27) (n := 72) (i := (((a1 * 6) + v22))) hF24 rfl, sx_F (a := 27) (n := 72) (i := (((a1 * 6) + v22))) hF21 rfl, sx_F (a := 27) (n := 72) (i := (((a1 * 6) + v22))) hF17 rfl, sx_F (a := 27) (n := 72) (i := (((a1 * 6) + v22))) hF6 rfl, sx_F (a := 27) (n := 72) (i := (((a1 * 6) + v22))) hF3 rfl]
              refine wk_b tt_31 1 (pc' := 139) (ls' := [(0, .inr (.inr (.ref 38))), (1, .inl (a1)), (2, .inl (v22)), (3, .inl (((a1 * 6) + v22)))]) (st' := [.inl (3), .inl ((sx_at σ 27 72 (((a1 * 6) + v22))))]) (σ' := σ57) rfl ?_
              obtain ⟨P62, w, w65⟩ := w
              have jn61 : ∀ (σ63 : sg_S), sg_F [13038, 14038] σ57 σ63 → P62 σ63 → wx z 5 31 158 [(0, .inr (.inr (.ref 38))), (1, .inl (a1)), (2, .inl (v22)), (3, .inl (((a1 * 6) + v22)))] [] σ63 (fun v σ' => v = none ∧ sg_F [6, 16, 24, 29, 30, 31, 32, 33, 34, 39, 40, 41, 42, 43, 44, 7028, 10038, 11038, 12038, 13038, 14038] σ σ' ∧ Q σ') := by
                intro σ63 hF64 w
                have w := w65 σ63 hF64 w
                refine wk_b tt_31 5 (pc' := 167) (ls' := [(0, .inr (.inr (.ref 38))), (1, .inl (a1)), (2, .inl (v22)), (3, .inl (((a1 * 6) + v22)))]) (st' := [.inl (((a1 * 6) + v22)), .inr (.inr (.ref 25)), .inr (.inr (.ref 38))]) (σ' := σ63) rfl ?_
                refine wk_callp tt_31 rfl rfl rfl rfl rfl tt_6 rfl (by decide) (at_l0 z σ63 25 72 (((a1 * 6) + v22)) rfl (by decide) c47) ?_
                show wx z 5 31 170 [(0, .inr (.inr (.ref 38))), (1, .inl (a1)), (2, .inl (v22)), (3, .inl (((a1 * 6) + v22)))] [.inr (.inl ((sx_atl σ63 25 72 (((a1 * 6) + v22))))), .inr (.inr (.ref 38))] σ63 (fun v σ' => v = none ∧ sg_F [6, 16, 24, 29, 30, 31, 32, 33, 34, 39, 40, 41, 42, 43, 44, 7028, 10038, 11038, 12038, 13038, 14038] σ σ' ∧ Q σ')
                rw [sx_Fl (a := 25) (n := 72) (i := (((a1 * 6) + v22))) hF64 rfl, sx_Fl (a := 25) (n := 72) (i := (((a1 * 6) + v22))) hF58 rfl, sx_Fl (a := 25) (n := 72) (i := (((a1 * 6) + v22))) hF24 rfl, sx_Fl (a := 25) (n := 72) (i := (((a1 * 6) + v22))) hF21 rfl, sx_Fl (a := 25) (n := 72) (i := (((a1 * 6) + v22))) hF17 rfl, sx_Fl (a := 25) (n := 72) (i := (((a1 * 6) + v22))) hF6 rfl, sx_Fl (a := 25) (n := 72) (i := (((a1 * 6) + v22))) hF3 rfl]
                refine wk_b tt_31 4 (pc' := 178) (ls' := [(0, .inr (.inr (.ref 38))), (1, .inl (a1)), (2, .inl (v22)), (3, .inl (((a1 * 6) + v22)))]) (st' := [.inl (((a1 * 6) + v22)), .inr (.inr (.ref 27)), .inr (.inl ((sx_atl σ 25 72 (((a1 * 6) + v22))))), .inr (.inr (.ref 38))]) (σ' := σ63) rfl ?_
                refine wk_callp tt_31 rfl rfl rfl rfl rfl tt_5 rfl (by decide) (at_i0 z σ63 27 72 (((a1 * 6) + v22)) rfl (by decide) c47) ?_
                show wx z 5 31 181 [(0, .inr (.inr (.ref 38))), (1, .inl (a1)), (2, .inl (v22)), (3, .inl (((a1 * 6) + v22)))] [.inl ((sx_at σ63 27 72 (((a1 * 6) + v22)))), .inr (.inl ((sx_atl σ 25 72 (((a1 * 6) + v22))))), .inr (.inr (.ref 38))] σ63 (fun v σ' => v = none ∧ sg_F [6, 16, 24, 29, 30, 31, 32, 33, 34, 39, 40, 41, 42, 43, 44, 7028, 10038, 11038, 12038, 13038, 14038] σ σ' ∧ Q σ')
                rw [sx_F (a := 27) (n := 72) (i := (((a1 * 6) + v22))) hF64 rfl, sx_F (a := 27) (n := 72) (i := (((a1 * 6) + v22))) hF58 rfl, sx_F (a := 27) (n := 72) (i := (((a1 * 6) + v22))) hF24 rfl, sx_F (a := 27) (n := 72) (i := (((a1 * 6) + v22))) hF21 rfl, sx_F (a := 27) (n := 72) (i := (((a1 * 6) + v22))) hF17 rfl, sx_F (a := 27) (n := 72) (i := (((a1 * 6) + v22))) hF6 rfl, sx_F (a := 27) (n := 72) (i := (((a1 * 6) + v22))) hF3 rfl]
                refine wk_call tt_31 rfl rfl rfl rfl rfl tt_27 rfl (by decide) (w_kBind z σ63 ((sx_atl σ 25 72 (((a1 * 6) + v22)))) ((sx_at σ 27 72 (((a1 * 6) + v22)))) _ (sx_Rl ..) (sx_R ..) w) (fun u71 σ67 hq69 => ?_)
                obtain ⟨q66, rfl, r70, hF68, w⟩ := hq69
                have w := w r70 hF68
                obtain ⟨c72, w⟩ := w
                refine wk_b tt_31 3 (pc' := 65) (ls' := [(2, .inl ((v22 + 1))), (0, .inr (.inr (.ref 38))), (1, .inl (a1)), (3, .inl (((a1 * 6) + v22)))]) (st' := []) (σ' := σ67) rfl ?_
                obtain ⟨m73, hm73, w⟩ := w
                exact wk_ls [(0, .inr (.inr (.ref 38))), (1, .inl (a1)), (2, .inl ((v22 + 1)))] rfl ⟨rfl, rfl, rfl, trivial⟩ (ih29 m73 hm73 ((v22 + 1)) σ67 c72 (sg_F_t (sg_F_t (sg_F_t (sg_F_t (sg_F_r [34, 39, 40, 10038, 11038, 13038, 14038] σ19) (sg_F_m (L := [34, 39, 40, 10038, 11038, 13038, 14038]) hF24 rfl)) (sg_F_m (L := [34, 39, 40, 10038, 11038, 13038, 14038]) hF58 rfl)) (sg_F_m (L := [34, 39, 40, 10038, 11038, 13038, 14038]) hF64 rfl)) (sg_F_m (L := [34, 39, 40, 10038, 11038, 13038, 14038]) hF68 rfl)) w)
              refine wk_if2 tt_31 (tgt := 158) rfl rfl (sx_R ..) (by decide) (fun (h60 : (sx_at σ 27 72 (((a1 * 6) + v22))) ≤ 3) => ?_) (fun (h60 : 3 < (sx_at σ 27 72 (((a1 * 6) + v22)))) => ?_)
              ·
                have w := w.1 h60
                exact wk_ls [(0, .inr (.inr (.ref 38))), (1, .inl (a1)), (2, .inl (v22)), (3, .inl (((a1 * 6) + v22)))] rfl ⟨rfl, rfl, rfl, rfl, trivial⟩ (jn61 σ57 (sg_F_r [13038, 14038] σ57) w)
              ·
                have w := w.2 h60
                refine wk_b tt_31 6 (pc' := 152) (ls' := [(0, .inr (.inr (.ref 38))), (1, .inl (a1)), (2, .inl (v22)), (3, .inl (((a1 * 6) + v22)))]) (st' := [.inl (((a1 * 6) + v22)), .inr (.inr (.ref 26)), .inl (3), .inr (.inr (.ref 38))]) (σ' := σ57) rfl ?_
                refine wk_callp tt_31 rfl rfl rfl rfl rfl tt_5 rfl (by decide) (at_i0 z σ57 26 72 (((a1 * 6) + v22)) rfl (by decide) c47) ?_
                show wx z 5 31 155 [(0, .inr (.inr (.ref 38))), (1, .inl (a1)), (2, .inl (v22)), (3, .inl (((a1 * 6) + v22)))] [.inl ((sx_at σ57 26 72 (((a1 * 6) + v22)))), .inl (3), .inr (.inr (.ref 38))] σ57 (fun v σ' => v = none ∧ sg_F [6, 16, 24, 29, 30, 31, 32, 33, 34, 39, 40, 41, 42, 43, 44, 7028, 10038, 11038, 12038, 13038, 14038] σ σ' ∧ Q σ')
                rw [sx_F (a := 26) (n := 72) (i := (((a1 * 6) + v22))) hF58 rfl, sx_F (a := 26) (n := 72) (i := (((a1 * 6) + v22))) hF24 rfl, sx_F (a := 26) (n := 72) (i := (((a1 * 6) + v22))) hF21 rfl, sx_F (a := 26) (n := 72) (i := (((a1 * 6) + v22))) hF17 rfl, sx_F (a := 26) (n := 72) (i := (((a1 * 6) + v22))) hF6 rfl, sx_F (a := 26) (n := 72) (i := (((a1 * 6) + v22))) hF3 rfl]
                refine wk_call tt_31 rfl rfl rfl rfl rfl tt_28 rfl (by decide) (w_kBlame z σ57 (3) ((sx_at σ 26 72 (((a1 * 6) + v22)))) _ (by decide) (sx_R ..) w) (fun u79 σ75 hq77 => ?_)
                obtain ⟨rfl, hF76, w⟩ := hq77
                have w := w hF76
                exact wk_ls [(0, .inr (.inr (.ref 38))), (1, .inl (a1)), (2, .inl (v22)), (3, .inl (((a1 * 6) + v22)))] rfl ⟨rfl, rfl, rfl, rfl, trivial⟩ (jn61 σ75 (sg_F_t (sg_F_r [13038, 14038] σ57) (sg_F_m (L := [13038, 14038]) hF76 rfl)) w)
            refine wk_if tt_31 (tgt := 127) rfl rfl r52 (fun (h54 : q48 < 0) => ?_) (fun (h54 : 0 ≤ q48) => ?_)
            ·
              have w := w.1 h54
              exact wk_ls [(0, .inr (.inr (.ref 38))), (1, .inl (a1)), (2, .inl (v22)), (3, .inl (((a1 * 6) + v22)))] rfl ⟨rfl, rfl, rfl, rfl, trivial⟩ (jn55 σ23 (sg_F_r [13038, 14038] σ23) w)
            ·
              have w := w.2 h54
              refine wk_b tt_31 6 (pc' := 121) (ls' := [(3, .inl (((a1 * 6) + v22))), (0, .inr (.inr (.ref 38))), (1, .inl (a1)), (2, .inl (v22))]) (st' := [.inl (((a1 * 6) + v22)), .inr (.inr (.ref 26)), .inl (2), .inr (.inr (.ref 38))]) (σ' := σ23) rfl ?_
              refine wk_callp tt_31 rfl rfl rfl rfl rfl tt_5 rfl (by decide) (at_i0 z σ23 26 72 (((a1 * 6) + v22)) rfl (by decide) c47) ?_
              show wx z 5 31 124 [(3, .inl (((a1 * 6) + v22))), (0, .inr (.inr (.ref 38))), (1, .inl (a1)), (2, .inl (v22))] [.inl ((sx_at σ23 26 72 (((a1 * 6) + v22)))), .inl (2), .inr (.inr (.ref 38))] σ23 (fun v σ' => v = none ∧ sg_F [6, 16, 24, 29, 30, 31, 32, 33, 34, 39, 40, 41, 42, 43, 44, 7028, 10038, 11038, 12038, 13038, 14038] σ σ' ∧ Q σ')
              rw [sx_F (a := 26) (n := 72) (i := (((a1 * 6) + v22))) hF24 rfl, sx_F (a := 26) (n := 72) (i := (((a1 * 6) + v22))) hF21 rfl, sx_F (a := 26) (n := 72) (i := (((a1 * 6) + v22))) hF17 rfl, sx_F (a := 26) (n := 72) (i := (((a1 * 6) + v22))) hF6 rfl, sx_F (a := 26) (n := 72) (i := (((a1 * 6) + v22))) hF3 rfl]
              refine wk_call tt_31 rfl rfl rfl rfl rfl tt_28 rfl (by decide) (w_kBlame z σ23 (2) ((sx_at σ 26 72 (((a1 * 6) + v22)))) _ (by decide) (sx_R ..) w) (fun u85 σ81 hq83 => ?_)
              obtain ⟨rfl, hF82, w⟩ := hq83
              have w := w hF82
              exact wk_ls [(0, .inr (.inr (.ref 38))), (1, .inl (a1)), (2, .inl (v22)), (3, .inl (((a1 * 6) + v22)))] rfl ⟨rfl, rfl, rfl, rfl, trivial⟩ (jn55 σ81 (sg_F_t (sg_F_r [13038, 14038] σ23) (sg_F_m (L := [13038, 14038]) hF82 rfl)) w)
    exact wk_ls [(0, .inr (.inr (.ref 38))), (1, .inl (a1)), (2, .inl (0))] rfl ⟨rfl, rfl, rfl, trivial⟩ (lp31 μ26 (0) σ19 (by decide) (sg_F_r _ _) w32)
  refine wk_if tt_31 (tgt := 48) rfl rfl r11 (fun (h13 : q7 < 0) => ?_) (fun (h13 : 0 ≤ q7) => ?_)
  ·
    have w := w.1 h13
    exact wk_ls [(0, .inr (.inr (.ref 38))), (1, .inl (a1))] rfl ⟨rfl, rfl, trivial⟩ (jn14 σ4 (sg_F_r [13038, 14038] σ4) w)
  ·
    have w := w.2 h13
    refine wk_b tt_31 6 (pc' := 42) (ls' := [(0, .inr (.inr (.ref 38))), (1, .inl (a1))]) (st' := [.inl (a1), .inr (.inr (.ref 21)), .inl (2), .inr (.inr (.ref 38))]) (σ' := σ4) rfl ?_
    refine wk_callp tt_31 rfl rfl rfl rfl rfl tt_5 rfl (by decide) (at_i0 z σ4 21 12 (a1) rfl (by decide) ra1) ?_
    show wx z 5 31 45 [(0, .inr (.inr (.ref 38))), (1, .inl (a1))] [.inl ((sx_at σ4 21 12 (a1))), .inl (2), .inr (.inr (.ref 38))] σ4 (fun v σ' => v = none ∧ sg_F [6, 16, 24, 29, 30, 31, 32, 33, 34, 39, 40, 41, 42, 43, 44, 7028, 10038, 11038, 12038, 13038, 14038] σ σ' ∧ Q σ')
    rw [sx_F (a := 21) (n := 12) (i := (a1)) hF6 rfl, sx_F (a := 21) (n := 12) (i := (a1)) hF3 rfl]
    refine wk_call tt_31 rfl rfl rfl rfl rfl tt_28 rfl (by decide) (w_kBlame z σ4 (2) ((sx_at σ 21 12 (a1))) _ (by decide) (sx_R ..) w) (fun u91 σ87 hq89 => ?_)
    obtain ⟨rfl, hF88, w⟩ := hq89
    have w := w hF88
    exact wk_ls [(0, .inr (.inr (.ref 38))), (1, .inl (a1))] rfl ⟨rfl, rfl, trivial⟩ (jn14 σ87 (sg_F_t (sg_F_r [13038, 14038] σ4) (sg_F_m (L := [13038, 14038]) hF88 rfl)) w)
