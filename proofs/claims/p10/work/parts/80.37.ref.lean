/-! Conditions of the reference's methods, by program (37). -/
-- NestedVectorsModel.lookDef
def V_lookDef (σ : sg_S) (a1 : Int) (Q : sg_S → Prop) : Prop := (∃ (I4 : Nat → Int → sg_S → Prop) (X6 : sg_S → Prop), (∃ n, I4 n (0) σ) ∧ (∀ (n14 : Nat) (v1 : Int) (σ2 : sg_S), sg_R v1 → sg_F [30088, 31088] σ σ2 → I4 n14 v1 σ2 → ((a1 ≤ v1 → X6 σ2) ∧ (v1 < a1 → (0 ≤ v1 ∧ v1 < 12) ∧ (0 ≤ a1 ∧ a1 < 12) ∧ ((¬ (sg_gl σ 103 (v1)) = (sg_gl σ 103 (a1)) → sg_R (v1 + 1) ∧ (∃ m, m < n14 ∧ I4 m ((v1 + 1)) σ2)) ∧ ((sg_gl σ 103 (v1)) = (sg_gl σ 103 (a1)) → V_wrong σ2 (2) ((sg_g σ 104 (a1))) (fun σ109 => sg_F [30088, 31088] σ2 σ109 → sg_R (v1 + 1) ∧ (∃ m, m < n14 ∧ I4 m ((v1 + 1)) σ109))))))) ∧ (∀ (σ2 : sg_S), sg_F [30088, 31088] σ σ2 → X6 σ2 → ∀ σ16, σ16 = (sg_w σ2 88 37 (0)) → (∃ (I22 : Nat → Int → sg_S → Prop) (X24 : sg_S → Prop), (∃ n, I22 n (0) σ16) ∧ (∀ (n32 : Nat) (v19 : Int) (σ20 : sg_S), sg_R v19 → sg_F [113, 114, 115, 116, 30088, 31088, 38088] σ16 σ20 → I22 n32 v19 σ20 → (0 ≤ a1 ∧ a1 < 12) ∧ (((sg_g σ 106 (a1)) ≤ v19 → X24 σ20) ∧ (v19 < (sg_g σ 106 (a1)) → ((¬ (sg_g σ20 88 29) = 0 → X24 σ20) ∧ ((sg_g σ20 88 29) = 0 → (∃ (I48 : Nat → Int → sg_S → Prop) (X50 : sg_S → Prop), (∃ n, I48 n (0) σ20) ∧ (∀ (n58 : Nat) (v45 : Int) (σ46 : sg_S), sg_R v45 → sg_F [30088, 31088] σ20 σ46 → I48 n58 v45 σ46 → ((v19 ≤ v45 → X50 σ46) ∧ (v45 < v19 → sg_R (6 * a1) ∧ sg_R ((6 * a1) + v45) ∧ (0 ≤ ((6 * a1) + v45) ∧ ((6 * a1) + v45) < 72) ∧ sg_R ((6 * a1) + v19) ∧ (0 ≤ ((6 * a1) + v19) ∧ ((6 * a1) + v19) < 72) ∧ ((¬ (sg_gl σ 107 (((6 * a1) + v45))) = (sg_gl σ 107 (((6 * a1) + v19))) → sg_R (v45 + 1) ∧ (∃ m, m < n58 ∧ I48 m ((v45 + 1)) σ46)) ∧ ((sg_gl σ 107 (((6 * a1) + v45))) = (sg_gl σ 107 (((6 * a1) + v19))) → V_wrong σ46 (2) ((sg_g σ 108 (((6 * a1) + v19)))) (fun σ95 => sg_F [30088, 31088] σ46 σ95 → sg_R (v45 + 1) ∧ (∃ m, m < n58 ∧ I48 m ((v45 + 1)) σ95))))))) ∧ (∀ (σ46 : sg_S), sg_F [30088, 31088] σ20 σ46 → X50 σ46 → sg_R (6 * a1) ∧ sg_R ((6 * a1) + v19) ∧ (0 ≤ ((6 * a1) + v19) ∧ ((6 * a1) + v19) < 72) ∧ (∃ P65 : sg_S → Prop, (((sg_g σ 109 (((6 * a1) + v19))) ≤ 3 → P65 σ46) ∧ (3 < (sg_g σ 109 (((6 * a1) + v19))) → V_wrong σ46 (3) ((sg_g σ 108 (((6 * a1) + v19)))) (fun σ80 => sg_F [30088, 31088] σ46 σ80 → P65 σ80))) ∧ (∀ (σ66 : sg_S), sg_F [30088, 31088] σ46 σ66 → P65 σ66 → p_ofParam (a1) (v19) ∧ V_know σ66 ((sg_gl σ 107 (((6 * a1) + v19)))) ((v_ofParam (a1) (v19))) ((sg_g σ 109 (((6 * a1) + v19)))) (fun σ72 => sg_F [113, 114, 115, 116, 38088] σ66 σ72 → sg_R (v19 + 1) ∧ (∃ m, m < n32 ∧ I22 m ((v19 + 1)) σ72))))))))))) ∧ (∀ (σ20 : sg_S), sg_F [113, 114, 115, 116, 30088, 31088, 38088] σ16 σ20 → X24 σ20 → ((¬ (sg_g σ20 88 29) = 0 → Q σ20) ∧ ((sg_g σ20 88 29) = 0 → (0 ≤ a1 ∧ a1 < 12) ∧ V_lookThrough σ20 ((sg_g σ 105 (a1))) (fun σ37 => sg_F [101, 102, 113, 114, 115, 116, 117, 118, 30088, 31088, 38088, 43088] σ20 σ37 → Q σ37)))))))
set_option maxHeartbeats 4000000 in
set_option maxRecDepth 8000 in
theorem w_lookDef (z : Value) (σ : sg_S) (a1 : Int) (Q : sg_S → Prop) (ra1 : sg_R a1) (w : V_lookDef σ a1 Q) : wx z 5 287 0 [(0, .inr (.inr (.ref 88))), (1, .inl (a1))] [] σ (fun v σ' => v = none ∧ sg_F [101, 102, 113, 114, 115, 116, 117, 118, 30088, 31088, 38088, 43088] σ σ' ∧ Q σ') := by
  unfold V_lookDef at w
  refine wk_b tt_287 2 (pc' := 2) (ls' := [(2, .inl (0)), (0, .inr (.inr (.ref 88))), (1, .inl (a1))]) (st' := []) (σ' := σ) rfl ?_
  obtain ⟨I4, X6, ⟨μ5, w11⟩, w12, w13⟩ := w
  have ex15 : ∀ (σ2 : sg_S), sg_F [30088, 31088] σ σ2 → X6 σ2 → wx z 5 287 40 [(0, .inr (.inr (.ref 88))), (1, .inl (a1))] [] σ2 (fun v σ' => v = none ∧ sg_F [101, 102, 113, 114, 115, 116, 117, 118, 30088, 31088, 38088, 43088] σ σ' ∧ Q σ') := by
    intro σ2 hF3 w
    have w := w13 σ2 hF3 w
    refine wk_b tt_287 3 (pc' := 45) (ls' := [(0, .inr (.inr (.ref 88))), (1, .inl (a1))]) (st' := []) (σ' := (sg_w σ2 88 37 (0))) rfl ?_
    generalize hs17 : (sg_w σ2 88 37 (0)) = σ16
    have w := w σ16 hs17.symm
    have hF18 : sg_F [38088] σ2 σ16 := by rw [← hs17]; exact sg_F_w (sg_F_r _ _) rfl _
    refine wk_b tt_287 2 (pc' := 47) (ls' := [(2, .inl (0)), (0, .inr (.inr (.ref 88))), (1, .inl (a1))]) (st' := []) (σ' := σ16) rfl ?_
    obtain ⟨I22, X24, ⟨μ23, w29⟩, w30, w31⟩ := w
    have ex33 : ∀ (σ20 : sg_S), sg_F [113, 114, 115, 116, 30088, 31088, 38088] σ16 σ20 → X24 σ20 → wx z 5 287 187 [(0, .inr (.inr (.ref 88))), (1, .inl (a1))] [] σ20 (fun v σ' => v = none ∧ sg_F [101, 102, 113, 114, 115, 116, 117, 118, 30088, 31088, 38088, 43088] σ σ' ∧ Q σ') := by
      intro σ20 hF21 w
      have w := w31 σ20 hF21 w
      refine wk_b tt_287 2 (pc' := 191) (ls' := [(0, .inr (.inr (.ref 88))), (1, .inl (a1))]) (st' := [.inl ((sg_g σ20 88 29))]) (σ' := σ20) rfl ?_
      refine wk_if tt_287 (tgt := 204) rfl rfl (sg_Rg _ _ _) (fun (h34 : ¬ (sg_g σ20 88 29) = 0) => ?_) (fun (h34 : (sg_g σ20 88 29) = 0) => ?_)
      ·
        have w := w.1 h34
        exact wk_rV tt_287 rfl rfl ⟨rfl, (sg_F_t (sg_F_t (sg_F_t (sg_F_r [101, 102, 113, 114, 115, 116, 117, 118, 30088, 31088, 38088, 43088] σ) (sg_F_m (L := [101, 102, 113, 114, 115, 116, 117, 118, 30088, 31088, 38088, 43088]) hF3 rfl)) (sg_F_m (L := [101, 102, 113, 114, 115, 116, 117, 118, 30088, 31088, 38088, 43088]) hF18 rfl)) (sg_F_m (L := [101, 102, 113, 114, 115, 116, 117, 118, 30088, 31088, 38088, 43088]) hF21 rfl)), w⟩
      ·
        have w := w.2 h34
        refine wk_b tt_287 4 (pc' := 200) (ls' := [(0, .inr (.inr (.ref 88))), (1, .inl (a1))]) (st' := [.inl (a1), .inr (.inr (.ref 105)), .inr (.inr (.ref 88))]) (σ' := σ20) rfl ?_
        obtain ⟨c35, w⟩ := w
        refine wk_ia tt_287 rfl rfl c35.1 c35.2 ra1 ?_
        rw [show (sg_g σ20 105 (a1)) = (sg_g σ 105 (a1)) from by rw [sg_F_ga hF21 rfl, sg_F_ga hF18 rfl, sg_F_ga hF3 rfl]]
        refine wk_call tt_287 rfl rfl rfl rfl rfl tt_289 rfl (by decide) (w_lookThrough z σ20 ((sg_g σ 105 (a1))) _ (sg_Rg _ _ _) w) (fun u41 σ37 hq39 => ?_)
        obtain ⟨rfl, hF38, w⟩ := hq39
        have w := w hF38
        exact wk_rV tt_287 rfl rfl ⟨rfl, (sg_F_t (sg_F_t (sg_F_t (sg_F_t (sg_F_r [101, 102, 113, 114, 115, 116, 117, 118, 30088, 31088, 38088, 43088] σ) (sg_F_m (L := [101, 102, 113, 114, 115, 116, 117, 118, 30088, 31088, 38088, 43088]) hF3 rfl)) (sg_F_m (L := [101, 102, 113, 114, 115, 116, 117, 118, 30088, 31088, 38088, 43088]) hF18 rfl)) (sg_F_m (L := [101, 102, 113, 114, 115, 116, 117, 118, 30088, 31088, 38088, 43088]) hF21 rfl)) (sg_F_m (L := [101, 102, 113, 114, 115, 116, 117, 118, 30088, 31088, 38088, 43088]) hF38 rfl)), w⟩
    have lp28 : ∀ (n32 : Nat) (v19 : Int) (σ20 : sg_S), sg_R v19 → sg_F [113, 114, 115, 116, 30088, 31088, 38088] σ16 σ20 → I22 n32 v19 σ20 → wx z 5 287 47 [(0, .inr (.inr (.ref 88))), (1, .inl (a1)), (2, .inl (v19))] [] σ20 (fun v σ' => v = none ∧ sg_F [101, 102, 113, 114, 115, 116, 117, 118, 30088, 31088, 38088, 43088] σ σ' ∧ Q σ') := by
      intro n32
      induction n32 using Nat.strongRecOn with
      | _ n32 ih26 =>
        intro v19 σ20 r25 hF21 w
        have w := w30 n32 v19 σ20 r25 hF21 w
        refine wk_b tt_287 4 (pc' := 53) (ls' := [(0, .inr (.inr (.ref 88))), (1, .inl (a1)), (2, .inl (v19))]) (st' := [.inl (a1), .inr (.inr (.ref 106)), .inl (v19)]) (σ' := σ20) rfl ?_
        obtain ⟨c42, w⟩ := w
        refine wk_ia tt_287 rfl rfl c42.1 c42.2 ra1 ?_
        rw [show (sg_g σ20 106 (a1)) = (sg_g σ 106 (a1)) from by rw [sg_F_ga hF21 rfl, sg_F_ga hF18 rfl, sg_F_ga hF3 rfl]]
        refine wk_if2 tt_287 (tgt := 187) rfl rfl r25 (sg_Rg _ _ _) (fun (h43 : (sg_g σ 106 (a1)) ≤ v19) => ?_) (fun (h43 : v19 < (sg_g σ 106 (a1))) => ?_)
        ·
          have w := w.1 h43
          exact wk_ls [(0, .inr (.inr (.ref 88))), (1, .inl (a1))] rfl ⟨rfl, rfl, trivial⟩ (ex33  σ20  (sg_F_t (sg_F_r [113, 114, 115, 116, 30088, 31088, 38088] σ16) (sg_F_m (L := [113, 114, 115, 116, 30088, 31088, 38088]) hF21 rfl)) w)
        ·
          have w := w.2 h43
          refine wk_b tt_287 2 (pc' := 61) (ls' := [(0, .inr (.inr (.ref 88))), (1, .inl (a1)), (2, .inl (v19))]) (st' := [.inl ((sg_g σ20 88 29))]) (σ' := σ20) rfl ?_
          refine wk_if tt_287 (tgt := 187) rfl rfl (sg_Rg _ _ _) (fun (h44 : ¬ (sg_g σ20 88 29) = 0) => ?_) (fun (h44 : (sg_g σ20 88 29) = 0) => ?_)
          ·
            have w := w.1 h44
            exact wk_ls [(0, .inr (.inr (.ref 88))), (1, .inl (a1))] rfl ⟨rfl, rfl, trivial⟩ (ex33  σ20  (sg_F_t (sg_F_r [113, 114, 115, 116, 30088, 31088, 38088] σ16) (sg_F_m (L := [113, 114, 115, 116, 30088, 31088, 38088]) hF21 rfl)) w)
          ·
            have w := w.2 h44
            refine wk_b tt_287 2 (pc' := 66) (ls' := [(3, .inl (0)), (0, .inr (.inr (.ref 88))), (1, .inl (a1)), (2, .inl (v19))]) (st' := []) (σ' := σ20) rfl ?_
            obtain ⟨I48, X50, ⟨μ49, w55⟩, w56, w57⟩ := w
            have ex59 : ∀ (σ46 : sg_S), sg_F [30088, 31088] σ20 σ46 → X50 σ46 → wx z 5 287 119 [(0, .inr (.inr (.ref 88))), (1, .inl (a1)), (2, .inl (v19))] [] σ46 (fun v σ' => v = none ∧ sg_F [101, 102, 113, 114, 115, 116, 117, 118, 30088, 31088, 38088, 43088] σ σ' ∧ Q σ') := by
              intro σ46 hF47 w
              have w := w57 σ46 hF47 w
              obtain ⟨c60, w⟩ := w
              obtain ⟨c61, w⟩ := w
              refine wk_b tt_287 7 (pc' := 129) (ls' := [(0, .inr (.inr (.ref 88))), (1, .inl (a1)), (2, .inl (v19))]) (st' := [.inl (((6 * a1) + v19)), .inr (.inr (.ref 109))]) (σ' := σ46) rfl ?_
              obtain ⟨c62, w⟩ := w
              refine wk_ia tt_287 rfl rfl c62.1 c62.2 c61 ?_
              rw [show (sg_g σ46 109 (((6 * a1) + v19))) = (sg_g σ 109 (((6 * a1) + v19))) from by rw [sg_F_ga hF47 rfl, sg_F_ga hF21 rfl, sg_F_ga hF18 rfl, sg_F_ga hF3 rfl]]
              refine wk_b tt_287 1 (pc' := 131) (ls' := [(0, .inr (.inr (.ref 88))), (1, .inl (a1)), (2, .inl (v19))]) (st' := [.inl (3), .inl ((sg_g σ 109 (((6 * a1) + v19))))]) (σ' := σ46) rfl ?_
              obtain ⟨P65, w, w68⟩ := w
              have jn64 : ∀ (σ66 : sg_S), sg_F [30088, 31088] σ46 σ66 → P65 σ66 → wx z 5 287 150 [(0, .inr (.inr (.ref 88))), (1, .inl (a1)), (2, .inl (v19))] [] σ66 (fun v σ' => v = none ∧ sg_F [101, 102, 113, 114, 115, 116, 117, 118, 30088, 31088, 38088, 43088] σ σ' ∧ Q σ') := by
                intro σ66 hF67 w
                have w := w68 σ66 hF67 w
                refine wk_b tt_287 8 (pc' := 161) (ls' := [(0, .inr (.inr (.ref 88))), (1, .inl (a1)), (2, .inl (v19))]) (st' := [.inl (((6 * a1) + v19)), .inr (.inr (.ref 107)), .inr (.inr (.ref 88))]) (σ' := σ66) rfl ?_
                refine wk_la tt_287 rfl rfl c62.1 c62.2 c61 ?_
                rw [show (sg_gl σ66 107 (((6 * a1) + v19))) = (sg_gl σ 107 (((6 * a1) + v19))) from by rw [sg_F_gal hF67 rfl, sg_F_gal hF47 rfl, sg_F_gal hF21 rfl, sg_F_gal hF18 rfl, sg_F_gal hF3 rfl]]
                refine wk_b tt_287 2 (pc' := 164) (ls' := [(0, .inr (.inr (.ref 88))), (1, .inl (a1)), (2, .inl (v19))]) (st' := [.inl (v19), .inl (a1), .inr (.inl ((sg_gl σ 107 (((6 * a1) + v19))))), .inr (.inr (.ref 88))]) (σ' := σ66) rfl ?_
                obtain ⟨c69, w⟩ := w
                refine wk_callp tt_287 rfl rfl rfl rfl rfl tt_298 rfl (by decide) (w_ofParam z σ66 (a1) (v19) ra1 r25 c69) ?_
                have r70 := vr_ofParam  (a1) (v19) ra1 r25 c69
                refine wk_b tt_287 7 (pc' := 177) (ls' := [(0, .inr (.inr (.ref 88))), (1, .inl (a1)), (2, .inl (v19))]) (st' := [.inl (((6 * a1) + v19)), .inr (.inr (.ref 109)), .inl ((v_ofParam (a1) (v19))), .inr (.inl ((sg_gl σ 107 (((6 * a1) + v19))))), .inr (.inr (.ref 88))]) (σ' := σ66) rfl ?_
                refine wk_ia tt_287 rfl rfl c62.1 c62.2 c61 ?_
                rw [show (sg_g σ66 109 (((6 * a1) + v19))) = (sg_g σ 109 (((6 * a1) + v19))) from by rw [sg_F_ga hF67 rfl, sg_F_ga hF47 rfl, sg_F_ga hF21 rfl, sg_F_ga hF18 rfl, sg_F_ga hF3 rfl]]
                refine wk_call tt_287 rfl rfl rfl rfl rfl tt_274 rfl (by decide) (w_know z σ66 ((sg_gl σ 107 (((6 * a1) + v19)))) ((v_ofParam (a1) (v19))) ((sg_g σ 109 (((6 * a1) + v19)))) _ (sg_Rgl _ _ _) r70 (sg_Rg _ _ _) w) (fun u76 σ72 hq74 => ?_)
                obtain ⟨rfl, hF73, w⟩ := hq74
                have w := w hF73
                obtain ⟨c77, w⟩ := w
                refine wk_b tt_287 2 (pc' := 47) (ls' := [(2, .inl ((v19 + 1))), (0, .inr (.inr (.ref 88))), (1, .inl (a1))]) (st' := []) (σ' := σ72) rfl ?_
                obtain ⟨m78, hm78, w⟩ := w
                exact wk_ls [(0, .inr (.inr (.ref 88))), (1, .inl (a1)), (2, .inl ((v19 + 1)))] rfl ⟨rfl, rfl, rfl, trivial⟩ (ih26 m78 hm78 ((v19 + 1)) σ72 c77 (sg_F_t (sg_F_t (sg_F_t (sg_F_t (sg_F_r [113, 114, 115, 116, 30088, 31088, 38088] σ16) (sg_F_m (L := [113, 114, 115, 116, 30088, 31088, 38088]) hF21 rfl)) (sg_F_m (L := [113, 114, 115, 116, 30088, 31088, 38088]) hF47 rfl)) (sg_F_m (L := [113, 114, 115, 116, 30088, 31088, 38088]) hF67 rfl)) (sg_F_m (L := [113, 114, 115, 116, 30088, 31088, 38088]) hF73 rfl)) w)
              refine wk_if2 tt_287 (tgt := 150) rfl rfl (sg_Rg _ _ _) (by decide) (fun (h63 : (sg_g σ 109 (((6 * a1) + v19))) ≤ 3) => ?_) (fun (h63 : 3 < (sg_g σ 109 (((6 * a1) + v19)))) => ?_)
              ·
                have w := w.1 h63
                exact wk_ls [(0, .inr (.inr (.ref 88))), (1, .inl (a1)), (2, .inl (v19))] rfl ⟨rfl, rfl, rfl, trivial⟩ (jn64 σ46 (sg_F_r [30088, 31088] σ46) w)
              ·
                have w := w.2 h63
                refine wk_b tt_287 9 (pc' := 146) (ls' := [(0, .inr (.inr (.ref 88))), (1, .inl (a1)), (2, .inl (v19))]) (st' := [.inl (((6 * a1) + v19)), .inr (.inr (.ref 108)), .inl (3), .inr (.inr (.ref 88))]) (σ' := σ46) rfl ?_
                refine wk_ia tt_287 rfl rfl c62.1 c62.2 c61 ?_
                rw [show (sg_g σ46 108 (((6 * a1) + v19))) = (sg_g σ 108 (((6 * a1) + v19))) from by rw [sg_F_ga hF47 rfl, sg_F_ga hF21 rfl, sg_F_ga hF18 rfl, sg_F_ga hF3 rfl]]
                refine wk_call tt_287 rfl rfl rfl rfl rfl tt_336 rfl (by decide) (w_wrong z σ46 (3) ((sg_g σ 108 (((6 * a1) + v19)))) _ (by decide) (sg_Rg _ _ _) w) (fun u84 σ80 hq82 => ?_)
                obtain ⟨rfl, hF81, w⟩ := hq82
                have w := w hF81
                exact wk_ls [(0, .inr (.inr (.ref 88))), (1, .inl (a1)), (2, .inl (v19))] rfl ⟨rfl, rfl, rfl, trivial⟩ (jn64 σ80 (sg_F_t (sg_F_r [30088, 31088] σ46) (sg_F_m (L := [30088, 31088]) hF81 rfl)) w)
            have lp54 : ∀ (n58 : Nat) (v45 : Int) (σ46 : sg_S), sg_R v45 → sg_F [30088, 31088] σ20 σ46 → I48 n58 v45 σ46 → wx z 5 287 66 [(0, .inr (.inr (.ref 88))), (1, .inl (a1)), (2, .inl (v19)), (3, .inl (v45))] [] σ46 (fun v σ' => v = none ∧ sg_F [101, 102, 113, 114, 115, 116, 117, 118, 30088, 31088, 38088, 43088] σ σ' ∧ Q σ') := by
              intro n58
              induction n58 using Nat.strongRecOn with
              | _ n58 ih52 =>
                intro v45 σ46 r51 hF47 w
                have w := w56 n58 v45 σ46 r51 hF47 w
                refine wk_b tt_287 2 (pc' := 68) (ls' := [(0, .inr (.inr (.ref 88))), (1, .inl (a1)), (2, .inl (v19)), (3, .inl (v45))]) (st' := [.inl (v19), .inl (v45)]) (σ' := σ46) rfl ?_
                refine wk_if2 tt_287 (tgt := 119) rfl rfl r51 r25 (fun (h85 : v19 ≤ v45) => ?_) (fun (h85 : v45 < v19) => ?_)
                ·
                  have w := w.1 h85
                  exact wk_ls [(0, .inr (.inr (.ref 88))), (1, .inl (a1)), (2, .inl (v19))] rfl ⟨rfl, rfl, rfl, trivial⟩ (ex59  σ46  (sg_F_t (sg_F_r [30088, 31088] σ20) (sg_F_m (L := [30088, 31088]) hF47 rfl)) w)
                ·
                  have w := w.2 h85
                  obtain ⟨c86, w⟩ := w
                  obtain ⟨c87, w⟩ := w
                  refine wk_b tt_287 7 (pc' := 81) (ls' := [(0, .inr (.inr (.ref 88))), (1, .inl (a1)), (2, .inl (v19)), (3, .inl (v45))]) (st' := [.inl (((6 * a1) + v45)), .inr (.inr (.ref 107))]) (σ' := σ46) rfl ?_
                  obtain ⟨c88, w⟩ := w
                  refine wk_la tt_287 rfl rfl c88.1 c88.2 c87 ?_
                  rw [show (sg_gl σ46 107 (((6 * a1) + v45))) = (sg_gl σ 107 (((6 * a1) + v45))) from by rw [sg_F_gal hF47 rfl, sg_F_gal hF21 rfl, sg_F_gal hF18 rfl, sg_F_gal hF3 rfl]]
                  obtain ⟨c89, w⟩ := w
                  refine wk_b tt_287 7 (pc' := 92) (ls' := [(0, .inr (.inr (.ref 88))), (1, .inl (a1)), (2, .inl (v19)), (3, .inl (v45))]) (st' := [.inl (((6 * a1) + v19)), .inr (.inr (.ref 107)), .inr (.inl ((sg_gl σ 107 (((6 * a1) + v45)))))]) (σ' := σ46) rfl ?_
                  obtain ⟨c90, w⟩ := w
                  refine wk_la tt_287 rfl rfl c90.1 c90.2 c89 ?_
                  rw [show (sg_gl σ46 107 (((6 * a1) + v19))) = (sg_gl σ 107 (((6 * a1) + v19))) from by rw [sg_F_gal hF47 rfl, sg_F_gal hF21 rfl, sg_F_gal hF18 rfl, sg_F_gal hF3 rfl]]
                  refine wk_lcif tt_287 (tgt := 113) rfl rfl rfl (sg_Rgl _ _ _) (sg_Rgl _ _ _) (fun (h91 : ¬ (sg_gl σ 107 (((6 * a1) + v45))) = (sg_gl σ 107 (((6 * a1) + v19)))) => ?_) (fun (h91 : (sg_gl σ 107 (((6 * a1) + v45))) = (sg_gl σ 107 (((6 * a1) + v19)))) => ?_)
                  ·
                    have w := w.1 h91
                    obtain ⟨c92, w⟩ := w
                    refine wk_b tt_287 2 (pc' := 66) (ls' := [(3, .inl ((v45 + 1))), (0, .inr (.inr (.ref 88))), (1, .inl (a1)), (2, .inl (v19))]) (st' := []) (σ' := σ46) rfl ?_
                    obtain ⟨m93, hm93, w⟩ := w
                    exact wk_ls [(0, .inr (.inr (.ref 88))), (1, .inl (a1)), (2, .inl (v19)), (3, .inl ((v45 + 1)))] rfl ⟨rfl, rfl, rfl, rfl, trivial⟩ (ih52 m93 hm93 ((v45 + 1)) σ46 c92 (sg_F_t (sg_F_r [30088, 31088] σ20) (sg_F_m (L := [30088, 31088]) hF47 rfl)) w)
                  ·
                    have w := w.2 h91
                    refine wk_b tt_287 9 (pc' := 109) (ls' := [(0, .inr (.inr (.ref 88))), (1, .inl (a1)), (2, .inl (v19)), (3, .inl (v45))]) (st' := [.inl (((6 * a1) + v19)), .inr (.inr (.ref 108)), .inl (2), .inr (.inr (.ref 88))]) (σ' := σ46) rfl ?_
                    refine wk_ia tt_287 rfl rfl c90.1 c90.2 c89 ?_
                    rw [show (sg_g σ46 108 (((6 * a1) + v19))) = (sg_g σ 108 (((6 * a1) + v19))) from by rw [sg_F_ga hF47 rfl, sg_F_ga hF21 rfl, sg_F_ga hF18 rfl, sg_F_ga hF3 rfl]]
                    refine wk_call tt_287 rfl rfl rfl rfl rfl tt_336 rfl (by decide) (w_wrong z σ46 (2) ((sg_g σ 108 (((6 * a1) + v19)))) _ (by decide) (sg_Rg _ _ _) w) (fun u99 σ95 hq97 => ?_)
                    obtain ⟨rfl, hF96, w⟩ := hq97
                    have w := w hF96
                    obtain ⟨c100, w⟩ := w
                    refine wk_b tt_287 2 (pc' := 66) (ls' := [(3, .inl ((v45 + 1))), (0, .inr (.inr (.ref 88))), (1, .inl (a1)), (2, .inl (v19))]) (st' := []) (σ' := σ95) rfl ?_
                    obtain ⟨m101, hm101, w⟩ := w
                    exact wk_ls [(0, .inr (.inr (.ref 88))), (1, .inl (a1)), (2, .inl (v19)), (3, .inl ((v45 + 1)))] rfl ⟨rfl, rfl, rfl, rfl, trivial⟩ (ih52 m101 hm101 ((v45 + 1)) σ95 c100 (sg_F_t (sg_F_t (sg_F_r [30088, 31088] σ20) (sg_F_m (L := [30088, 31088]) hF47 rfl)) (sg_F_m (L := [30088, 31088]) hF96 rfl)) w)
            exact wk_ls [(0, .inr (.inr (.ref 88))), (1, .inl (a1)), (2, .inl (v19)), (3, .inl (0))] rfl ⟨rfl, rfl, rfl, rfl, trivial⟩ (lp54 μ49 (0) σ20 (by decide) (sg_F_r _ _) w55)
    exact wk_ls [(0, .inr (.inr (.ref 88))), (1, .inl (a1)), (2, .inl (0))] rfl ⟨rfl, rfl, rfl, trivial⟩ (lp28 μ23 (0) σ16 (by decide) (sg_F_r _ _) w29)
  have lp10 : ∀ (n14 : Nat) (v1 : Int) (σ2 : sg_S), sg_R v1 → sg_F [30088, 31088] σ σ2 → I4 n14 v1 σ2 → wx z 5 287 2 [(0, .inr (.inr (.ref 88))), (1, .inl (a1)), (2, .inl (v1))] [] σ2 (fun v σ' => v = none ∧ sg_F [101, 102, 113, 114, 115, 116, 117, 118, 30088, 31088, 38088, 43088] σ σ' ∧ Q σ') := by
    intro n14
    induction n14 using Nat.strongRecOn with
    | _ n14 ih8 =>
      intro v1 σ2 r7 hF3 w
      have w := w12 n14 v1 σ2 r7 hF3 w
      refine wk_b tt_287 2 (pc' := 4) (ls' := [(0, .inr (.inr (.ref 88))), (1, .inl (a1)), (2, .inl (v1))]) (st' := [.inl (a1), .inl (v1)]) (σ' := σ2) rfl ?_
      refine wk_if2 tt_287 (tgt := 40) rfl rfl r7 ra1 (fun (h102 : a1 ≤ v1) => ?_) (fun (h102 : v1 < a1) => ?_)
      ·
        have w := w.1 h102
        exact wk_ls [(0, .inr (.inr (.ref 88))), (1, .inl (a1))] rfl ⟨rfl, rfl, trivial⟩ (ex15  σ2  (sg_F_t (sg_F_r [30088, 31088] σ) (sg_F_m (L := [30088, 31088]) hF3 rfl)) w)
      ·
        have w := w.2 h102
        refine wk_b tt_287 3 (pc' := 12) (ls' := [(0, .inr (.inr (.ref 88))), (1, .inl (a1)), (2, .inl (v1))]) (st' := [.inl (v1), .inr (.inr (.ref 103))]) (σ' := σ2) rfl ?_
        obtain ⟨c103, w⟩ := w
        refine wk_la tt_287 rfl rfl c103.1 c103.2 r7 ?_
        rw [show (sg_gl σ2 103 (v1)) = (sg_gl σ 103 (v1)) from by rw [sg_F_gal hF3 rfl]]
        refine wk_b tt_287 3 (pc' := 18) (ls' := [(0, .inr (.inr (.ref 88))), (1, .inl (a1)), (2, .inl (v1))]) (st' := [.inl (a1), .inr (.inr (.ref 103)), .inr (.inl ((sg_gl σ 103 (v1))))]) (σ' := σ2) rfl ?_
        obtain ⟨c104, w⟩ := w
        refine wk_la tt_287 rfl rfl c104.1 c104.2 ra1 ?_
        rw [show (sg_gl σ2 103 (a1)) = (sg_gl σ 103 (a1)) from by rw [sg_F_gal hF3 rfl]]
        refine wk_lcif tt_287 (tgt := 34) rfl rfl rfl (sg_Rgl _ _ _) (sg_Rgl _ _ _) (fun (h105 : ¬ (sg_gl σ 103 (v1)) = (sg_gl σ 103 (a1))) => ?_) (fun (h105 : (sg_gl σ 103 (v1)) = (sg_gl σ 103 (a1))) => ?_)
        ·
          have w := w.1 h105
          obtain ⟨c106, w⟩ := w
          refine wk_b tt_287 2 (pc' := 2) (ls' := [(2, .inl ((v1 + 1))), (0, .inr (.inr (.ref 88))), (1, .inl (a1))]) (st' := []) (σ' := σ2) rfl ?_
          obtain ⟨m107, hm107, w⟩ := w
          exact wk_ls [(0, .inr (.inr (.ref 88))), (1, .inl (a1)), (2, .inl ((v1 + 1)))] rfl ⟨rfl, rfl, rfl, trivial⟩ (ih8 m107 hm107 ((v1 + 1)) σ2 c106 (sg_F_t (sg_F_r [30088, 31088] σ) (sg_F_m (L := [30088, 31088]) hF3 rfl)) w)
        ·
          have w := w.2 h105
          refine wk_b tt_287 5 (pc' := 30) (ls' := [(0, .inr (.inr (.ref 88))), (1, .inl (a1)), (2, .inl (v1))]) (st' := [.inl (a1), .inr (.inr (.ref 104)), .inl (2), .inr (.inr (.ref 88))]) (σ' := σ2) rfl ?_
          refine wk_ia tt_287 rfl rfl c104.1 c104.2 ra1 ?_
          rw [show (sg_g σ2 104 (a1)) = (sg_g σ 104 (a1)) from by rw [sg_F_ga hF3 rfl]]
          refine wk_call tt_287 rfl rfl rfl rfl rfl tt_336 rfl (by decide) (w_wrong z σ2 (2) ((sg_g σ 104 (a1))) _ (by decide) (sg_Rg _ _ _) w) (fun u113 σ109 hq111 => ?_)
          obtain ⟨rfl, hF110, w⟩ := hq111
          have w := w hF110
          obtain ⟨c114, w⟩ := w
          refine wk_b tt_287 2 (pc' := 2) (ls' := [(2, .inl ((v1 + 1))), (0, .inr (.inr (.ref 88))), (1, .inl (a1))]) (st' := []) (σ' := σ109) rfl ?_
          obtain ⟨m115, hm115, w⟩ := w
          exact wk_ls [(0, .inr (.inr (.ref 88))), (1, .inl (a1)), (2, .inl ((v1 + 1)))] rfl ⟨rfl, rfl, rfl, trivial⟩ (ih8 m115 hm115 ((v1 + 1)) σ109 c114 (sg_F_t (sg_F_t (sg_F_r [30088, 31088] σ) (sg_F_m (L := [30088, 31088]) hF3 rfl)) (sg_F_m (L := [30088, 31088]) hF110 rfl)) w)
  exact wk_ls [(0, .inr (.inr (.ref 88))), (1, .inl (a1)), (2, .inl (0))] rfl ⟨rfl, rfl, rfl, trivial⟩ (lp10 μ5 (0) σ (by decide) (sg_F_r _ _) w11)
-- NestedVectorsModel.look
def V_look (σ : sg_S) (Q : sg_S → Prop) : Prop := ∀ σ1, σ1 = (sg_w σ 88 45 (0)) → (∃ (I7 : Nat → Int → sg_S → Prop) (X9 : sg_S → Prop), (∃ n, I7 n (0) σ1) ∧ (∀ (n17 : Nat) (v4 : Int) (σ5 : sg_S), sg_R v4 → sg_F [101, 102, 113, 114, 115, 116, 117, 118, 30088, 31088, 38088, 43088, 46088] σ1 σ5 → I7 n17 v4 σ5 → (((sg_g σ 88 19) ≤ v4 → X9 σ5) ∧ (v4 < (sg_g σ 88 19) → ((¬ (sg_g σ5 88 29) = 0 → X9 σ5) ∧ ((sg_g σ5 88 29) = 0 → V_lookDef σ5 (v4) (fun σ32 => sg_F [101, 102, 113, 114, 115, 116, 117, 118, 30088, 31088, 38088, 43088] σ5 σ32 → sg_R ((sg_g σ5 88 45) + 1) ∧ ∀ σ38, σ38 = (sg_w σ32 88 45 (((sg_g σ5 88 45) + 1))) → sg_R (v4 + 1) ∧ (∃ m, m < n17 ∧ I7 m ((v4 + 1)) σ38))))))) ∧ (∀ (σ5 : sg_S), sg_F [101, 102, 113, 114, 115, 116, 117, 118, 30088, 31088, 38088, 43088, 46088] σ1 σ5 → X9 σ5 → ∀ σ19, σ19 = (sg_w σ5 88 37 (0)) → ((¬ (sg_g σ5 88 29) = 0 → Q σ19) ∧ ((sg_g σ5 88 29) = 0 → V_lookThrough σ19 ((sg_g σ 88 27)) (fun σ24 => sg_F [101, 102, 113, 114, 115, 116, 117, 118, 30088, 31088, 38088, 43088] σ19 σ24 → Q σ24)))))
set_option maxHeartbeats 4000000 in
set_option maxRecDepth 8000 in
theorem w_look (z : Value) (σ : sg_S) (Q : sg_S → Prop)  (w : V_look σ  Q) : wx z 6 283 0 [(0, .inr (.inr (.ref 88)))] [] σ (fun v σ' => v = none ∧ sg_F [101, 102, 113, 114, 115, 116, 117, 118, 30088, 31088, 38088, 43088, 46088] σ σ' ∧ Q σ') := by
  unfold V_look at w
  refine wk_b tt_283 3 (pc' := 5) (ls' := [(0, .inr (.inr (.ref 88)))]) (st' := []) (σ' := (sg_w σ 88 45 (0))) rfl ?_
  generalize hs2 : (sg_w σ 88 45 (0)) = σ1
  have w := w σ1 hs2.symm
  have hF3 : sg_F [46088] σ σ1 := by rw [← hs2]; exact sg_F_w (sg_F_r _ _) rfl _
  refine wk_b tt_283 2 (pc' := 7) (ls' := [(1, .inl (0)), (0, .inr (.inr (.ref 88)))]) (st' := []) (σ' := σ1) rfl ?_
  obtain ⟨I7, X9, ⟨μ8, w14⟩, w15, w16⟩ := w
  have ex18 : ∀ (σ5 : sg_S), sg_F [101, 102, 113, 114, 115, 116, 117, 118, 30088, 31088, 38088, 43088, 46088] σ1 σ5 → X9 σ5 → wx z 6 283 43 [(0, .inr (.inr (.ref 88)))] [] σ5 (fun v σ' => v = none ∧ sg_F [101, 102, 113, 114, 115, 116, 117, 118, 30088, 31088, 38088, 43088, 46088] σ σ' ∧ Q σ') := by
    intro σ5 hF6 w
    have w := w16 σ5 hF6 w
    refine wk_b tt_283 3 (pc' := 48) (ls' := [(0, .inr (.inr (.ref 88)))]) (st' := []) (σ' := (sg_w σ5 88 37 (0))) rfl ?_
    generalize hs20 : (sg_w σ5 88 37 (0)) = σ19
    have w := w σ19 hs20.symm
    have hF21 : sg_F [38088] σ5 σ19 := by rw [← hs20]; exact sg_F_w (sg_F_r _ _) rfl _
    refine wk_b tt_283 2 (pc' := 52) (ls' := [(0, .inr (.inr (.ref 88)))]) (st' := [.inl ((sg_g σ19 88 29))]) (σ' := σ19) rfl ?_
    rw [show (sg_g σ19 88 29) = (sg_g σ5 88 29) from by rw [sg_F_g hF21 rfl]]
    refine wk_if tt_283 (tgt := 63) rfl rfl (sg_Rg _ _ _) (fun (h22 : ¬ (sg_g σ5 88 29) = 0) => ?_) (fun (h22 : (sg_g σ5 88 29) = 0) => ?_)
    ·
      have w := w.1 h22
      exact wk_rV tt_283 rfl rfl ⟨rfl, (sg_F_t (sg_F_t (sg_F_t (sg_F_r [101, 102, 113, 114, 115, 116, 117, 118, 30088, 31088, 38088, 43088, 46088] σ) (sg_F_m (L := [101, 102, 113, 114, 115, 116, 117, 118, 30088, 31088, 38088, 43088, 46088]) hF3 rfl)) (sg_F_m (L := [101, 102, 113, 114, 115, 116, 117, 118, 30088, 31088, 38088, 43088, 46088]) hF6 rfl)) (sg_F_m (L := [101, 102, 113, 114, 115, 116, 117, 118, 30088, 31088, 38088, 43088, 46088]) hF21 rfl)), w⟩
    ·
      have w := w.2 h22
      refine wk_b tt_283 3 (pc' := 60) (ls' := [(0, .inr (.inr (.ref 88)))]) (st' := [.inl ((sg_g σ19 88 27)), .inr (.inr (.ref 88))]) (σ' := σ19) rfl ?_
      rw [show (sg_g σ19 88 27) = (sg_g σ 88 27) from by rw [sg_F_g hF21 rfl, sg_F_g hF6 rfl, sg_F_g hF3 rfl]]
      refine wk_call tt_283 rfl rfl rfl rfl rfl tt_289 rfl (by decide) (w_lookThrough z σ19 ((sg_g σ 88 27)) _ (sg_Rg _ _ _) w) (fun u28 σ24 hq26 => ?_)
      obtain ⟨rfl, hF25, w⟩ := hq26
      have w := w hF25
      exact wk_rV tt_283 rfl rfl ⟨rfl, (sg_F_t (sg_F_t (sg_F_t (sg_F_t (sg_F_r [101, 102, 113, 114, 115, 116, 117, 118, 30088, 31088, 38088, 43088, 46088] σ) (sg_F_m (L := [101, 102, 113, 114, 115, 116, 117, 118, 30088, 31088, 38088, 43088, 46088]) hF3 rfl)) (sg_F_m (L := [101, 102, 113, 114, 115, 116, 117, 118, 30088, 31088, 38088, 43088, 46088]) hF6 rfl)) (sg_F_m (L := [101, 102, 113, 114, 115, 116, 117, 118, 30088, 31088, 38088, 43088, 46088]) hF21 rfl)) (sg_F_m (L := [101, 102, 113, 114, 115, 116, 117, 118, 30088, 31088, 38088, 43088, 46088]) hF25 rfl)), w⟩
  have lp13 : ∀ (n17 : Nat) (v4 : Int) (σ5 : sg_S), sg_R v4 → sg_F [101, 102, 113, 114, 115, 116, 117, 118, 30088, 31088, 38088, 43088, 46088] σ1 σ5 → I7 n17 v4 σ5 → wx z 6 283 7 [(0, .inr (.inr (.ref 88))), (1, .inl (v4))] [] σ5 (fun v σ' => v = none ∧ sg_F [101, 102, 113, 114, 115, 116, 117, 118, 30088, 31088, 38088, 43088, 46088] σ σ' ∧ Q σ') := by
    intro n17
    induction n17 using Nat.strongRecOn with
    | _ n17 ih11 =>
      intro v4 σ5 r10 hF6 w
      have w := w15 n17 v4 σ5 r10 hF6 w
      refine wk_b tt_283 3 (pc' := 12) (ls' := [(0, .inr (.inr (.ref 88))), (1, .inl (v4))]) (st' := [.inl ((sg_g σ5 88 19)), .inl (v4)]) (σ' := σ5) rfl ?_
      rw [show (sg_g σ5 88 19) = (sg_g σ 88 19) from by rw [sg_F_g hF6 rfl, sg_F_g hF3 rfl]]
      refine wk_if2 tt_283 (tgt := 43) rfl rfl r10 (sg_Rg _ _ _) (fun (h29 : (sg_g σ 88 19) ≤ v4) => ?_) (fun (h29 : v4 < (sg_g σ 88 19)) => ?_)
      ·
        have w := w.1 h29
        exact wk_ls [(0, .inr (.inr (.ref 88)))] rfl ⟨rfl, trivial⟩ (ex18  σ5  (sg_F_t (sg_F_r [101, 102, 113, 114, 115, 116, 117, 118, 30088, 31088, 38088, 43088, 46088] σ1) (sg_F_m (L := [101, 102, 113, 114, 115, 116, 117, 118, 30088, 31088, 38088, 43088, 46088]) hF6 rfl)) w)
      ·
        have w := w.2 h29
        refine wk_b tt_283 2 (pc' := 19) (ls' := [(0, .inr (.inr (.ref 88))), (1, .inl (v4))]) (st' := [.inl ((sg_g σ5 88 29))]) (σ' := σ5) rfl ?_
        refine wk_if tt_283 (tgt := 43) rfl rfl (sg_Rg _ _ _) (fun (h30 : ¬ (sg_g σ5 88 29) = 0) => ?_) (fun (h30 : (sg_g σ5 88 29) = 0) => ?_)
        ·
          have w := w.1 h30
          exact wk_ls [(0, .inr (.inr (.ref 88)))] rfl ⟨rfl, trivial⟩ (ex18  σ5  (sg_F_t (sg_F_r [101, 102, 113, 114, 115, 116, 117, 118, 30088, 31088, 38088, 43088, 46088] σ1) (sg_F_m (L := [101, 102, 113, 114, 115, 116, 117, 118, 30088, 31088, 38088, 43088, 46088]) hF6 rfl)) w)
        ·
          have w := w.2 h30
          refine wk_b tt_283 2 (pc' := 24) (ls' := [(0, .inr (.inr (.ref 88))), (1, .inl (v4))]) (st' := [.inl (v4), .inr (.inr (.ref 88))]) (σ' := σ5) rfl ?_
          refine wk_call tt_283 rfl rfl rfl rfl rfl tt_287 rfl (by decide) (w_lookDef z σ5 (v4) _ r10 w) (fun u36 σ32 hq34 => ?_)
          obtain ⟨rfl, hF33, w⟩ := hq34
          have w := w hF33
          obtain ⟨c37, w⟩ := w
          refine wk_b tt_283 6 (pc' := 37) (ls' := [(0, .inr (.inr (.ref 88))), (1, .inl (v4))]) (st' := []) (σ' := (sg_w σ32 88 45 (((sg_g σ32 88 45) + 1)))) rfl ?_
          rw [show (sg_g σ32 88 45) = (sg_g σ5 88 45) from by rw [sg_F_g hF33 rfl]]
          generalize hs39 : (sg_w σ32 88 45 (((sg_g σ5 88 45) + 1))) = σ38
          have w := w σ38 hs39.symm
          have hF40 : sg_F [46088] σ32 σ38 := by rw [← hs39]; exact sg_F_w (sg_F_r _ _) rfl _
          obtain ⟨c41, w⟩ := w
          refine wk_b tt_283 2 (pc' := 7) (ls' := [(1, .inl ((v4 + 1))), (0, .inr (.inr (.ref 88)))]) (st' := []) (σ' := σ38) rfl ?_
          obtain ⟨m42, hm42, w⟩ := w
          exact wk_ls [(0, .inr (.inr (.ref 88))), (1, .inl ((v4 + 1)))] rfl ⟨rfl, rfl, trivial⟩ (ih11 m42 hm42 ((v4 + 1)) σ38 c41 (sg_F_t (sg_F_t (sg_F_t (sg_F_r [101, 102, 113, 114, 115, 116, 117, 118, 30088, 31088, 38088, 43088, 46088] σ1) (sg_F_m (L := [101, 102, 113, 114, 115, 116, 117, 118, 30088, 31088, 38088, 43088, 46088]) hF6 rfl)) (sg_F_m (L := [101, 102, 113, 114, 115, 116, 117, 118, 30088, 31088, 38088, 43088, 46088]) hF33 rfl)) (sg_F_m (L := [101, 102, 113, 114, 115, 116, 117, 118, 30088, 31088, 38088, 43088, 46088]) hF40 rfl)) w)
  exact wk_ls [(0, .inr (.inr (.ref 88))), (1, .inl (0))] rfl ⟨rfl, rfl, trivial⟩ (lp13 μ8 (0) σ1 (by decide) (sg_F_r _ _) w14)
-- NestedVectorsModel.meter
def V_meter (σ : sg_S) (a1 : Int) (Q : Int → sg_S → Prop) : Prop := ∀ σ1, σ1 = (sg_w σ 88 0 (0)) → ((¬ (v_in (a1) (0) (4)) = 0 → ((2 ≤ a1 → ((¬ (sg_g σ 88 81) = 0 → ((¬ a1 = 2 → ((¬ a1 = 3 → Q ((sg_g σ 88 86)) σ1) ∧ (a1 = 3 → Q ((sg_g σ 88 85)) σ1))) ∧ (a1 = 2 → Q ((sg_g σ 88 84)) σ1))) ∧ ((sg_g σ 88 81) = 0 → Q ((-4)) σ1))) ∧ (a1 < 2 → (((sg_g σ 88 51) = 0 → Q ((-4)) σ1) ∧ (¬ (sg_g σ 88 51) = 0 → ((¬ a1 = 1 → ((¬ a1 = 0 → Q ((sg_g σ 88 55)) σ1) ∧ (a1 = 0 → Q ((sg_g σ 88 54)) σ1))) ∧ (a1 = 1 → (((sg_g σ 88 53) = 0 → ((¬ a1 = 0 → Q ((sg_g σ 88 55)) σ1) ∧ (a1 = 0 → Q ((sg_g σ 88 54)) σ1))) ∧ (¬ (sg_g σ 88 53) = 0 → Q ((-4)) σ1))))))))) ∧ ((v_in (a1) (0) (4)) = 0 → Q ((-2)) σ1))
set_option maxHeartbeats 4000000 in
set_option maxRecDepth 8000 in
theorem w_meter (z : Value) (σ : sg_S) (a1 : Int) (Q : Int → sg_S → Prop) (ra1 : sg_R a1) (w : V_meter σ a1 Q) : wx z 1 291 0 [(0, .inr (.inr (.ref 88))), (1, .inl (a1))] [] σ (fun v σ' => ∃ q, v = some (.inl q) ∧ sg_R q ∧ sg_F [1088] σ σ' ∧ Q q σ') := by
  unfold V_meter at w
  refine wk_b tt_291 3 (pc' := 5) (ls' := [(0, .inr (.inr (.ref 88))), (1, .inl (a1))]) (st' := []) (σ' := (sg_w σ 88 0 (0))) rfl ?_
  generalize hs2 : (sg_w σ 88 0 (0)) = σ1
  have w := w σ1 hs2.symm
  have hF3 : sg_F [1088] σ σ1 := by rw [← hs2]; exact sg_F_w (sg_F_r _ _) rfl _
  refine wk_b tt_291 4 (pc' := 11) (ls' := [(0, .inr (.inr (.ref 88))), (1, .inl (a1))]) (st' := [.inr (.inl (4)), .inr (.inl (0)), .inr (.inl ((sg_n (a1))))]) (σ' := σ1) rfl ?_
  rw [show (sg_n (a1)) = a1 from by rw [sg_id ra1]]
  refine wk_callp tt_291 rfl rfl rfl rfl rfl tt_258 rfl (by decide) (w_in z σ1 (a1) (0) (4) (sg_Rgl2 ra1) (by decide) (by decide) ) ?_
  refine wk_if tt_291 (tgt := 20) rfl rfl (sg_Rz (vz_in ..)) (fun (h4 : ¬ (v_in (a1) (0) (4)) = 0) => ?_) (fun (h4 : (v_in (a1) (0) (4)) = 0) => ?_)
  ·
    have w := w.1 h4
    refine wk_b tt_291 2 (pc' := 22) (ls' := [(0, .inr (.inr (.ref 88))), (1, .inl (a1))]) (st' := [.inl (2), .inl (a1)]) (σ' := σ1) rfl ?_
    refine wk_if2 tt_291 (tgt := 65) rfl rfl ra1 (by decide) (fun (h5 : 2 ≤ a1) => ?_) (fun (h5 : a1 < 2) => ?_)
    ·
      have w := w.1 h5
      refine wk_b tt_291 2 (pc' := 69) (ls' := [(0, .inr (.inr (.ref 88))), (1, .inl (a1))]) (st' := [.inl ((sg_g σ1 88 81))]) (σ' := σ1) rfl ?_
      rw [show (sg_g σ1 88 81) = (sg_g σ 88 81) from by rw [sg_F_g hF3 rfl]]
      refine wk_if tt_291 (tgt := 77) rfl rfl (sg_Rg _ _ _) (fun (h6 : ¬ (sg_g σ 88 81) = 0) => ?_) (fun (h6 : (sg_g σ 88 81) = 0) => ?_)
      ·
        have w := w.1 h6
        refine wk_b tt_291 2 (pc' := 79) (ls' := [(0, .inr (.inr (.ref 88))), (1, .inl (a1))]) (st' := [.inl (2), .inl (a1)]) (σ' := σ1) rfl ?_
        refine wk_if2 tt_291 (tgt := 89) rfl rfl ra1 (by decide) (fun (h7 : ¬ a1 = 2) => ?_) (fun (h7 : a1 = 2) => ?_)
        ·
          have w := w.1 h7
          refine wk_b tt_291 2 (pc' := 91) (ls' := [(0, .inr (.inr (.ref 88))), (1, .inl (a1))]) (st' := [.inl (3), .inl (a1)]) (σ' := σ1) rfl ?_
          refine wk_if2 tt_291 (tgt := 101) rfl rfl ra1 (by decide) (fun (h8 : ¬ a1 = 3) => ?_) (fun (h8 : a1 = 3) => ?_)
          ·
            have w := w.1 h8
            refine wk_b tt_291 2 (pc' := 105) (ls' := [(0, .inr (.inr (.ref 88))), (1, .inl (a1))]) (st' := [.inl ((sg_g σ1 88 86))]) (σ' := σ1) rfl ?_
            rw [show (sg_g σ1 88 86) = (sg_g σ 88 86) from by rw [sg_F_g hF3 rfl]]
            exact wk_rI tt_291 rfl rfl ⟨_, rfl, (sg_Rg _ _ _), (sg_F_t (sg_F_r [1088] σ) (sg_F_m (L := [1088]) hF3 rfl)), w⟩
          ·
            have w := w.2 h8
            refine wk_b tt_291 3 (pc' := 105) (ls' := [(0, .inr (.inr (.ref 88))), (1, .inl (a1))]) (st' := [.inl ((sg_g σ1 88 85))]) (σ' := σ1) rfl ?_
            rw [show (sg_g σ1 88 85) = (sg_g σ 88 85) from by rw [sg_F_g hF3 rfl]]
            exact wk_rI tt_291 rfl rfl ⟨_, rfl, (sg_Rg _ _ _), (sg_F_t (sg_F_r [1088] σ) (sg_F_m (L := [1088]) hF3 rfl)), w⟩
        ·
          have w := w.2 h7
          refine wk_b tt_291 3 (pc' := 105) (ls' := [(0, .inr (.inr (.ref 88))), (1, .inl (a1))]) (st' := [.inl ((sg_g σ1 88 84))]) (σ' := σ1) rfl ?_
          rw [show (sg_g σ1 88 84) = (sg_g σ 88 84) from by rw [sg_F_g hF3 rfl]]
          exact wk_rI tt_291 rfl rfl ⟨_, rfl, (sg_Rg _ _ _), (sg_F_t (sg_F_r [1088] σ) (sg_F_m (L := [1088]) hF3 rfl)), w⟩
      ·
        have w := w.2 h6
        refine wk_b tt_291 2 (pc' := 105) (ls' := [(0, .inr (.inr (.ref 88))), (1, .inl (a1))]) (st' := [.inl ((-4))]) (σ' := σ1) rfl ?_
        exact wk_rI tt_291 rfl rfl ⟨_, rfl, (by decide), (sg_F_t (sg_F_r [1088] σ) (sg_F_m (L := [1088]) hF3 rfl)), w⟩
    ·
      have w := w.2 h5
      refine wk_b tt_291 2 (pc' := 29) (ls' := [(0, .inr (.inr (.ref 88))), (1, .inl (a1))]) (st' := [.inl ((sg_g σ1 88 51))]) (σ' := σ1) rfl ?_
      rw [show (sg_g σ1 88 51) = (sg_g σ 88 51) from by rw [sg_F_g hF3 rfl]]
      refine wk_if tt_291 (tgt := 44) rfl rfl (sg_Rg _ _ _) (fun (h9 : (sg_g σ 88 51) = 0) => ?_) (fun (h9 : ¬ (sg_g σ 88 51) = 0) => ?_)
      ·
        have w := w.1 h9
        refine wk_b tt_291 2 (pc' := 64) (ls' := [(0, .inr (.inr (.ref 88))), (1, .inl (a1))]) (st' := [.inl ((-4))]) (σ' := σ1) rfl ?_
        exact wk_rI tt_291 rfl rfl ⟨_, rfl, (by decide), (sg_F_t (sg_F_r [1088] σ) (sg_F_m (L := [1088]) hF3 rfl)), w⟩
      ·
        have w := w.2 h9
        refine wk_b tt_291 2 (pc' := 34) (ls' := [(0, .inr (.inr (.ref 88))), (1, .inl (a1))]) (st' := [.inl (1), .inl (a1)]) (σ' := σ1) rfl ?_
        refine wk_if2 tt_291 (tgt := 49) rfl rfl ra1 (by decide) (fun (h10 : ¬ a1 = 1) => ?_) (fun (h10 : a1 = 1) => ?_)
        ·
          have w := w.1 h10
          refine wk_b tt_291 1 (pc' := 50) (ls' := [(0, .inr (.inr (.ref 88))), (1, .inl (a1))]) (st' := [.inl (a1)]) (σ' := σ1) rfl ?_
          refine wk_if tt_291 (tgt := 60) rfl rfl ra1 (fun (h11 : ¬ a1 = 0) => ?_) (fun (h11 : a1 = 0) => ?_)
          ·
            have w := w.1 h11
            refine wk_b tt_291 2 (pc' := 64) (ls' := [(0, .inr (.inr (.ref 88))), (1, .inl (a1))]) (st' := [.inl ((sg_g σ1 88 55))]) (σ' := σ1) rfl ?_
            rw [show (sg_g σ1 88 55) = (sg_g σ 88 55) from by rw [sg_F_g hF3 rfl]]
            exact wk_rI tt_291 rfl rfl ⟨_, rfl, (sg_Rg _ _ _), (sg_F_t (sg_F_r [1088] σ) (sg_F_m (L := [1088]) hF3 rfl)), w⟩
          ·
            have w := w.2 h11
            refine wk_b tt_291 3 (pc' := 64) (ls' := [(0, .inr (.inr (.ref 88))), (1, .inl (a1))]) (st' := [.inl ((sg_g σ1 88 54))]) (σ' := σ1) rfl ?_
            rw [show (sg_g σ1 88 54) = (sg_g σ 88 54) from by rw [sg_F_g hF3 rfl]]
            exact wk_rI tt_291 rfl rfl ⟨_, rfl, (sg_Rg _ _ _), (sg_F_t (sg_F_r [1088] σ) (sg_F_m (L := [1088]) hF3 rfl)), w⟩
        ·
          have w := w.2 h10
          refine wk_b tt_291 2 (pc' := 41) (ls' := [(0, .inr (.inr (.ref 88))), (1, .inl (a1))]) (st' := [.inl ((sg_g σ1 88 53))]) (σ' := σ1) rfl ?_
          rw [show (sg_g σ1 88 53) = (sg_g σ 88 53) from by rw [sg_F_g hF3 rfl]]
          refine wk_if tt_291 (tgt := 49) rfl rfl (sg_Rg _ _ _) (fun (h12 : (sg_g σ 88 53) = 0) => ?_) (fun (h12 : ¬ (sg_g σ 88 53) = 0) => ?_)
          ·
            have w := w.1 h12
            refine wk_b tt_291 1 (pc' := 50) (ls' := [(0, .inr (.inr (.ref 88))), (1, .inl (a1))]) (st' := [.inl (a1)]) (σ' := σ1) rfl ?_
            refine wk_if tt_291 (tgt := 60) rfl rfl ra1 (fun (h13 : ¬ a1 = 0) => ?_) (fun (h13 : a1 = 0) => ?_)
            ·
              have w := w.1 h13
              refine wk_b tt_291 2 (pc' := 64) (ls' := [(0, .inr (.inr (.ref 88))), (1, .inl (a1))]) (st' := [.inl ((sg_g σ1 88 55))]) (σ' := σ1) rfl ?_
              rw [show (sg_g σ1 88 55) = (sg_g σ 88 55) from by rw [sg_F_g hF3 rfl]]
              exact wk_rI tt_291 rfl rfl ⟨_, rfl, (sg_Rg _ _ _), (sg_F_t (sg_F_r [1088] σ) (sg_F_m (L := [1088]) hF3 rfl)), w⟩
            ·
              have w := w.2 h13
              refine wk_b tt_291 3 (pc' := 64) (ls' := [(0, .inr (.inr (.ref 88))), (1, .inl (a1))]) (st' := [.inl ((sg_g σ1 88 54))]) (σ' := σ1) rfl ?_
              rw [show (sg_g σ1 88 54) = (sg_g σ 88 54) from by rw [sg_F_g hF3 rfl]]
              exact wk_rI tt_291 rfl rfl ⟨_, rfl, (sg_Rg _ _ _), (sg_F_t (sg_F_r [1088] σ) (sg_F_m (L := [1088]) hF3 rfl)), w⟩
          ·
            have w := w.2 h12
            refine wk_b tt_291 2 (pc' := 64) (ls' := [(0, .inr (.inr (.ref 88))), (1, .inl (a1))]) (st' := [.inl ((-4))]) (σ' := σ1) rfl ?_
            exact wk_rI tt_291 rfl rfl ⟨_, rfl, (by decide), (sg_F_t (sg_F_r [1088] σ) (sg_F_m (L := [1088]) hF3 rfl)), w⟩
  ·
    have w := w.2 h4
    refine wk_b tt_291 1 (pc' := 19) (ls' := [(0, .inr (.inr (.ref 88))), (1, .inl (a1))]) (st' := [.inl ((-2))]) (σ' := σ1) rfl ?_
    exact wk_rI tt_291 rfl rfl ⟨_, rfl, (by decide), (sg_F_t (sg_F_r [1088] σ) (sg_F_m (L := [1088]) hF3 rfl)), w⟩
