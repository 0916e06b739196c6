/-! Conditions of the reference's methods, by program (17). -/
-- NestedVectorsModel.flatWorked
def V_flatWorked_22 (σ : sg_S) (b3 : Int) (b4 : Int) (Q : Int → sg_S → Prop) : Prop := V_flatRev σ (b4) (b3) (fun q1 σ2 => sg_R q1 → sg_F [139, 140, 141, 142, 143, 144, 74088, 85088, 86088, 88088, 92088, 94088] σ σ2 → Q (q1) σ2)
set_option maxHeartbeats 4000000 in
set_option maxRecDepth 8000 in
theorem w_flatWorked_22 (z : Value) (σ : sg_S) (b3 : Int) (b4 : Int) (Q : Int → sg_S → Prop) (rb3 : sg_R b3) (rb4 : sg_R b4) (w : V_flatWorked_22 σ b3 b4 Q) : wx z 4 246 298 [(0, .inr (.inr (.ref 88))), (3, .inl (b3)), (4, .inl (b4))] [] σ (fun v σ' => ∃ q, v = some (.inl q) ∧ sg_R q ∧ sg_F [139, 140, 141, 142, 143, 144, 74088, 85088, 86088, 88088, 92088, 94088] σ σ' ∧ Q q σ') := by
  unfold V_flatWorked_22 at w
  refine wk_b tt_246 3 (pc' := 302) (ls' := [(0, .inr (.inr (.ref 88))), (3, .inl (b3)), (4, .inl (b4))]) (st' := [.inl (b3), .inl (b4), .inr (.inr (.ref 88))]) (σ' := σ) rfl ?_
  refine wk_call tt_246 rfl rfl rfl rfl rfl tt_244 rfl (by decide) (w_flatRev z σ (b4) (b3) _ rb4 rb3 w) (fun u6 σ2 hq4 => ?_)
  obtain ⟨q1, rfl, r5, hF3, w⟩ := hq4
  have w := w r5 hF3
  exact wk_rI tt_246 rfl rfl ⟨_, rfl, r5, (sg_F_t (sg_F_r [139, 140, 141, 142, 143, 144, 74088, 85088, 86088, 88088, 92088, 94088] σ) (sg_F_m (L := [139, 140, 141, 142, 143, 144, 74088, 85088, 86088, 88088, 92088, 94088]) hF3 rfl)), w⟩
-- NestedVectorsModel.listItems
def V_listItems (σ : sg_S) (a1 : Int) (a2 : Int) (Q : sg_S → Prop) : Prop := (∃ (I5 : Nat → Int → Int → sg_S → Prop) (X7 : sg_S → Prop), (∃ n, I5 n (0) (0) σ) ∧ (∀ (n16 : Nat) (v1 : Int) (v2 : Int) (σ3 : sg_S), sg_R v1 → sg_R v2 → sg_F [143, 94088] σ σ3 → I5 n16 v1 v2 σ3 → ((a2 ≤ v2 → X7 σ3) ∧ (v2 < a2 → (∃ (I22 : Nat → Int → sg_S → Prop) (X24 : sg_S → Prop), (∃ n, I22 n (0) σ3) ∧ (∀ (n32 : Nat) (v19 : Int) (σ20 : sg_S), sg_R v19 → sg_F [143, 94088] σ3 σ20 → I22 n32 v19 σ20 → p_rowAt σ (a1) (v2) ∧ (((v_rowAt σ (a1) (v2)) ≤ v19 → X24 σ20) ∧ (v19 < (v_rowAt σ (a1) (v2)) → (0 ≤ v2 ∧ v2 < 13000) ∧ (∃ P45 : sg_S → Prop, (((sg_g σ 150 (v2)) < 0 → P45 σ20) ∧ (0 ≤ (sg_g σ 150 (v2)) → sg_R (v1 + v19) ∧ V_list σ20 ((v1 + v19)) (fun σ53 => sg_F [143, 94088] σ20 σ53 → P45 σ53))) ∧ (∀ (σ46 : sg_S), sg_F [143, 94088] σ20 σ46 → P45 σ46 → sg_R (v19 + 1) ∧ (∃ m, m < n32 ∧ I22 m ((v19 + 1)) σ46)))))) ∧ (∀ (σ20 : sg_S), sg_F [143, 94088] σ3 σ20 → X24 σ20 → p_rowAt σ (a1) (v2) ∧ sg_R (v1 + (v_rowAt σ (a1) (v2))) ∧ sg_R (v2 + 1) ∧ (∃ m, m < n16 ∧ I5 m ((v1 + (v_rowAt σ (a1) (v2)))) ((v2 + 1)) σ20)))))) ∧ (∀ (σ3 : sg_S), sg_F [143, 94088] σ σ3 → X7 σ3 → Q σ3))
set_option maxHeartbeats 4000000 in
set_option maxRecDepth 8000 in
theorem w_listItems (z : Value) (σ : sg_S) (a1 : Int) (a2 : Int) (Q : sg_S → Prop) (ra1 : sg_R a1) (ra2 : sg_R a2) (w : V_listItems σ a1 a2 Q) : wx z 1 281 0 [(0, .inr (.inr (.ref 88))), (1, .inl (a1)), (2, .inl (a2))] [] σ (fun v σ' => v = none ∧ sg_F [143, 94088] σ σ' ∧ Q σ') := by
  unfold V_listItems at w
  refine wk_b tt_281 4 (pc' := 5) (ls' := [(4, .inl (0)), (3, .inl (0)), (0, .inr (.inr (.ref 88))), (1, .inl (a1)), (2, .inl (a2))]) (st' := []) (σ' := σ) rfl ?_
  obtain ⟨I5, X7, ⟨μ6, w13⟩, w14, w15⟩ := w
  have ex17 : ∀ (σ3 : sg_S), sg_F [143, 94088] σ σ3 → X7 σ3 → wx z 1 281 66 [] [] σ3 (fun v σ' => v = none ∧ sg_F [143, 94088] σ σ' ∧ Q σ') := by
    intro σ3 hF4 w
    have w := w15 σ3 hF4 w
    exact wk_rV tt_281 rfl rfl ⟨rfl, (sg_F_t (sg_F_r [143, 94088] σ) (sg_F_m (L := [143, 94088]) hF4 rfl)), w⟩
  have lp12 : ∀ (n16 : Nat) (v1 : Int) (v2 : Int) (σ3 : sg_S), sg_R v1 → sg_R v2 → sg_F [143, 94088] σ σ3 → I5 n16 v1 v2 σ3 → wx z 1 281 5 [(0, .inr (.inr (.ref 88))), (1, .inl (a1)), (2, .inl (a2)), (3, .inl (v1)), (4, .inl (v2))] [] σ3 (fun v σ' => v = none ∧ sg_F [143, 94088] σ σ' ∧ Q σ') := by
    intro n16
    induction n16 using Nat.strongRecOn with
    | _ n16 ih10 =>
      intro v1 v2 σ3 r8 r9 hF4 w
      have w := w14 n16 v1 v2 σ3 r8 r9 hF4 w
      refine wk_b tt_281 2 (pc' := 8) (ls' := [(0, .inr (.inr (.ref 88))), (1, .inl (a1)), (2, .inl (a2)), (3, .inl (v1)), (4, .inl (v2))]) (st' := [.inl (a2), .inl (v2)]) (σ' := σ3) rfl ?_
      refine wk_if2 tt_281 (tgt := 66) rfl rfl r9 ra2 (fun (h18 : a2 ≤ v2) => ?_) (fun (h18 : v2 < a2) => ?_)
      ·
        have w := w.1 h18
        exact wk_ls [] rfl trivial (ex17  σ3  (sg_F_t (sg_F_r [143, 94088] σ) (sg_F_m (L := [143, 94088]) hF4 rfl)) w)
      ·
        have w := w.2 h18
        refine wk_b tt_281 2 (pc' := 14) (ls' := [(5, .inl (0)), (0, .inr (.inr (.ref 88))), (1, .inl (a1)), (2, .inl (a2)), (3, .inl (v1)), (4, .inl (v2))]) (st' := []) (σ' := σ3) rfl ?_
        obtain ⟨I22, X24, ⟨μ23, w29⟩, w30, w31⟩ := w
        have ex33 : ∀ (σ20 : sg_S), sg_F [143, 94088] σ3 σ20 → X24 σ20 → wx z 1 281 50 [(0, .inr (.inr (.ref 88))), (1, .inl (a1)), (2, .inl (a2)), (3, .inl (v1)), (4, .inl (v2))] [] σ20 (fun v σ' => v = none ∧ sg_F [143, 94088] σ σ' ∧ Q σ') := by
          intro σ20 hF21 w
          have w := w31 σ20 hF21 w
          refine wk_b tt_281 4 (pc' := 55) (ls' := [(0, .inr (.inr (.ref 88))), (1, .inl (a1)), (2, .inl (a2)), (3, .inl (v1)), (4, .inl (v2))]) (st' := [.inl (v2), .inl (a1), .inr (.inr (.ref 88)), .inl (v1)]) (σ' := σ20) rfl ?_
          obtain ⟨c34, w⟩ := w
          have c34 : p_rowAt σ20 (a1) (v2) := by
            rw [pF_rowAt hF21 rfl rfl, pF_rowAt hF4 rfl rfl]; exact c34
          refine wk_callp tt_281 rfl rfl rfl rfl rfl tt_322 rfl (by decide) (w_rowAt z σ20 (a1) (v2) ra1 r9 c34) ?_
          rw [vF_rowAt hF21 rfl rfl, vF_rowAt hF4 rfl rfl]
          have r35 := vr_rowAt σ  (a1) (v2) ra1 r9 (by have q := c34; rw [pF_rowAt hF21 rfl rfl, pF_rowAt hF4 rfl rfl] at q; exact q)
          obtain ⟨c36, w⟩ := w
          obtain ⟨c37, w⟩ := w
          refine wk_b tt_281 4 (pc' := 5) (ls' := [(4, .inl ((v2 + 1))), (3, .inl ((v1 + (v_rowAt σ (a1) (v2))))), (0, .inr (.inr (.ref 88))), (1, .inl (a1)), (2, .inl (a2))]) (st' := []) (σ' := σ20) rfl ?_
          obtain ⟨m38, hm38, w⟩ := w
          exact wk_ls [(0, .inr (.inr (.ref 88))), (1, .inl (a1)), (2, .inl (a2)), (3, .inl ((v1 + (v_rowAt σ (a1) (v2))))), (4, .inl ((v2 + 1)))] rfl ⟨rfl, rfl, rfl, rfl, rfl, trivial⟩ (ih10 m38 hm38 ((v1 + (v_rowAt σ (a1) (v2)))) ((v2 + 1)) σ20 c36 c37 (sg_F_t (sg_F_t (sg_F_r [143, 94088] σ) (sg_F_m (L := [143, 94088]) hF4 rfl)) (sg_F_m (L := [143, 94088]) hF21 rfl)) w)
        have lp28 : ∀ (n32 : Nat) (v19 : Int) (σ20 : sg_S), sg_R v19 → sg_F [143, 94088] σ3 σ20 → I22 n32 v19 σ20 → wx z 1 281 14 [(0, .inr (.inr (.ref 88))), (1, .inl (a1)), (2, .inl (a2)), (3, .inl (v1)), (4, .inl (v2)), (5, .inl (v19))] [] σ20 (fun v σ' => v = none ∧ sg_F [143, 94088] σ σ' ∧ Q σ') := by
          intro n32
          induction n32 using Nat.strongRecOn with
          | _ n32 ih26 =>
            intro v19 σ20 r25 hF21 w
            have w := w30 n32 v19 σ20 r25 hF21 w
            refine wk_b tt_281 4 (pc' := 20) (ls' := [(0, .inr (.inr (.ref 88))), (1, .inl (a1)), (2, .inl (a2)), (3, .inl (v1)), (4, .inl (v2)), (5, .inl (v19))]) (st' := [.inl (v2), .inl (a1), .inr (.inr (.ref 88)), .inl (v19)]) (σ' := σ20) rfl ?_
            obtain ⟨c39, w⟩ := w
            have c39 : p_rowAt σ20 (a1) (v2) := by
              rw [pF_rowAt hF21 rfl rfl, pF_rowAt hF4 rfl rfl]; exact c39
            refine wk_callp tt_281 rfl rfl rfl rfl rfl tt_322 rfl (by decide) (w_rowAt z σ20 (a1) (v2) ra1 r9 c39) ?_
            rw [vF_rowAt hF21 rfl rfl, vF_rowAt hF4 rfl rfl]
            have r40 := vr_rowAt σ  (a1) (v2) ra1 r9 (by have q := c39; rw [pF_rowAt hF21 rfl rfl, pF_rowAt hF4 rfl rfl] at q; exact q)
            refine wk_if2 tt_281 (tgt := 50) rfl rfl r25 r40 (fun (h41 : (v_rowAt σ (a1) (v2)) ≤ v19) => ?_) (fun (h41 : v19 < (v_rowAt σ (a1) (v2))) => ?_)
            ·
              have w := w.1 h41
              exact wk_ls [(0, .inr (.inr (.ref 88))), (1, .inl (a1)), (2, .inl (a2)), (3, .inl (v1)), (4, .inl (v2))] rfl ⟨rfl, rfl, rfl, rfl, rfl, trivial⟩ (ex33  σ20  (sg_F_t (sg_F_r [143, 94088] σ3) (sg_F_m (L := [143, 94088]) hF21 rfl)) w)
            ·
              have w := w.2 h41
              refine wk_b tt_281 3 (pc' := 32) (ls' := [(0, .inr (.inr (.ref 88))), (1, .inl (a1)), (2, .inl (a2)), (3, .inl (v1)), (4, .inl (v2)), (5, .inl (v19))]) (st' := [.inl (v2), .inr (.inr (.ref 150))]) (σ' := σ20) rfl ?_
              obtain ⟨c42, w⟩ := w
              refine wk_ia tt_281 rfl rfl c42.1 c42.2 r9 ?_
              rw [show (sg_g σ20 150 (v2)) = (sg_g σ 150 (v2)) from by rw [sg_F_ga hF21 rfl, sg_F_ga hF4 rfl]]
              obtain ⟨P45, w, w48⟩ := w
              have jn44 : ∀ (σ46 : sg_S), sg_F [143, 94088] σ20 σ46 → P45 σ46 → wx z 1 281 44 [(0, .inr (.inr (.ref 88))), (1, .inl (a1)), (2, .inl (a2)), (3, .inl (v1)), (4, .inl (v2)), (5, .inl (v19))] [] σ46 (fun v σ' => v = none ∧ sg_F [143, 94088] σ σ' ∧ Q σ') := by
                intro σ46 hF47 w
                have w := w48 σ46 hF47 w
                obtain ⟨c49, w⟩ := w
                refine wk_b tt_281 2 (pc' := 14) (ls' := [(5, .inl ((v19 + 1))), (0, .inr (.inr (.ref 88))), (1, .inl (a1)), (2, .inl (a2)), (3, .inl (v1)), (4, .inl (v2))]) (st' := []) (σ' := σ46) rfl ?_
                obtain ⟨m50, hm50, w⟩ := w
                exact wk_ls [(0, .inr (.inr (.ref 88))), (1, .inl (a1)), (2, .inl (a2)), (3, .inl (v1)), (4, .inl (v2)), (5, .inl ((v19 + 1)))] rfl ⟨rfl, rfl, rfl, rfl, rfl, rfl, trivial⟩ (ih26 m50 hm50 ((v19 + 1)) σ46 c49 (sg_F_t (sg_F_t (sg_F_r [143, 94088] σ3) (sg_F_m (L := [143, 94088]) hF21 rfl)) (sg_F_m (L := [143, 94088]) hF47 rfl)) w)
              refine wk_if tt_281 (tgt := 44) rfl rfl (sg_Rg _ _ _) (fun (h43 : (sg_g σ 150 (v2)) < 0) => ?_) (fun (h43 : 0 ≤ (sg_g σ 150 (v2))) => ?_)
              ·
                have w := w.1 h43
                exact wk_ls [(0, .inr (.inr (.ref 88))), (1, .inl (a1)), (2, .inl (a2)), (3, .inl (v1)), (4, .inl (v2)), (5, .inl (v19))] rfl ⟨rfl, rfl, rfl, rfl, rfl, rfl, trivial⟩ (jn44 σ20 (sg_F_r [143, 94088] σ20) w)
              ·
                have w := w.2 h43
                obtain ⟨c51, w⟩ := w
                refine wk_b tt_281 4 (pc' := 41) (ls' := [(0, .inr (.inr (.ref 88))), (1, .inl (a1)), (2, .inl (a2)), (3, .inl (v1)), (4, .inl (v2)), (5, .inl (v19))]) (st' := [.inl ((v1 + v19)), .inr (.inr (.ref 88))]) (σ' := σ20) rfl ?_
                refine wk_call tt_281 rfl rfl rfl rfl rfl tt_280 rfl (by decide) (w_list z σ20 ((v1 + v19)) _ c51 w) (fun u57 σ53 hq55 => ?_)
                obtain ⟨rfl, hF54, w⟩ := hq55
                have w := w hF54
                exact wk_ls [(0, .inr (.inr (.ref 88))), (1, .inl (a1)), (2, .inl (a2)), (3, .inl (v1)), (4, .inl (v2)), (5, .inl (v19))] rfl ⟨rfl, rfl, rfl, rfl, rfl, rfl, trivial⟩ (jn44 σ53 (sg_F_t (sg_F_r [143, 94088] σ20) (sg_F_m (L := [143, 94088]) hF54 rfl)) w)
        exact wk_ls [(0, .inr (.inr (.ref 88))), (1, .inl (a1)), (2, .inl (a2)), (3, .inl (v1)), (4, .inl (v2)), (5, .inl (0))] rfl ⟨rfl, rfl, rfl, rfl, rfl, rfl, trivial⟩ (lp28 μ23 (0) σ3 (by decide) (sg_F_r _ _) w29)
  exact wk_ls [(0, .inr (.inr (.ref 88))), (1, .inl (a1)), (2, .inl (a2)), (3, .inl (0)), (4, .inl (0))] rfl ⟨rfl, rfl, rfl, rfl, rfl, trivial⟩ (lp12 μ6 (0) (0) σ (by decide) (by decide) (sg_F_r _ _) w13)
-- NestedVectorsModel.flatCat
def V_flatCat (σ : sg_S) (a1 : Int) (a2 : Int) (a3 : Int) (Q : Int → sg_S → Prop) : Prop := (∃ (I4 : Nat → Int → sg_S → Prop) (X6 : sg_S → Prop), (∃ n, I4 n (0) σ) ∧ (∀ (n14 : Nat) (v1 : Int) (σ2 : sg_S), sg_R v1 → sg_F [150, 103088, 104088] σ σ2 → I4 n14 v1 σ2 → ((a3 ≤ v1 → X6 σ2) ∧ (v1 < a3 → p_rowAt σ (a1) (v1) ∧ p_rowAt σ (a2) (v1) ∧ sg_R ((v_rowAt σ (a1) (v1)) + (v_rowAt σ (a2) (v1))) ∧ (0 ≤ v1 ∧ v1 < 13000) ∧ ∀ σ207, σ207 = (sg_w σ2 150 (v1) (((v_rowAt σ (a1) (v1)) + (v_rowAt σ (a2) (v1))))) → (∃ P212 : sg_S → Prop, (((sg_g σ207 150 (v1)) ≤ 200 → P212 σ207) ∧ (200 < (sg_g σ207 150 (v1)) → V_lacks σ207 (v1) (5) (fun σ219 => sg_F [103088, 104088] σ207 σ219 → ∀ σ224, σ224 = (sg_w σ219 150 (v1) ((-1))) → P212 σ224))) ∧ (∀ (σ213 : sg_S), sg_F [150, 103088, 104088] σ207 σ213 → P212 σ213 → sg_R (v1 + 1) ∧ (∃ m, m < n14 ∧ I4 m ((v1 + 1)) σ213)))))) ∧ (∀ (σ2 : sg_S), sg_F [150, 103088, 104088] σ σ2 → X6 σ2 → V_inner σ2 (a1) (fun q16 σ17 => sg_R q16 → sg_F [139, 140, 141, 88088] σ2 σ17 → V_inner σ17 (a2) (fun q22 σ23 => sg_R q22 → sg_F [139, 140, 141, 88088] σ17 σ23 → ∀ σ28, σ28 = (sg_w σ23 88 93 (0)) → V_listItems σ28 (a1) (a3) (fun σ32 => sg_F [143, 94088] σ28 σ32 → V_extentOfLanes σ32 (q16) (fun q37 σ38 => sg_RL q37 → sg_F [144] σ32 σ38 → sg_RL (a3 + q37) ∧ ∀ σ44, σ44 = (sg_w σ38 88 93 (0)) → V_listItems σ44 (a2) (a3) (fun σ48 => sg_F [143, 94088] σ44 σ48 → V_extentOfLanes σ48 (q22) (fun q53 σ54 => sg_RL q53 → sg_F [144] σ48 σ54 → sg_RL ((a3 + q37) + q53) ∧ V_stepped σ54 (((a3 + q37) + q53)) (fun q60 σ61 => (q60 = 0 ∨ q60 = 1) → sg_F [74088, 85088, 86088] σ54 σ61 → ((¬ q60 = 0 → (0 ≤ (sg_g σ 88 70) ∧ (sg_g σ 88 70) < 12000) ∧ ∀ σ68, σ68 = (sg_w σ61 133 ((sg_g σ 88 70)) (q16)) → sg_R ((sg_g σ 88 70) + 1) ∧ (0 ≤ ((sg_g σ 88 70) + 1) ∧ ((sg_g σ 88 70) + 1) < 12000) ∧ ∀ σ73, σ73 = (sg_w σ68 133 (((sg_g σ 88 70) + 1)) (q22)) → V_joined σ73 ((sg_g σ 88 70)) (2) (fun q76 σ77 => sg_R q76 → sg_F [139, 140, 141, 142, 88088, 92088] σ73 σ77 → p_lanesOf σ77 (q16) ∧ ∀ σ84, σ84 = (sg_w σ77 88 93 (0)) → (∃ (I92 : Nat → Int → Int → Int → sg_S → Prop) (X94 : sg_S → Prop), (∃ n, I92 n (0) ((v_lanesOf σ77 (q16))) (0) σ84) ∧ (∀ (n104 : Nat) (v87 : Int) (v88 : Int) (v89 : Int) (σ90 : sg_S), sg_R v87 → sg_R v88 → sg_R v89 → sg_F [143, 150, 94088] σ84 σ90 → I92 n104 v87 v88 v89 σ90 → ((a3 ≤ v89 → X94 σ90) ∧ (v89 < a3 → (∃ (I128 : Nat → Int → sg_S → Prop) (X130 : sg_S → Prop), (∃ n, I128 n (0) σ90) ∧ (∀ (n138 : Nat) (v125 : Int) (σ126 : sg_S), sg_R v125 → sg_F [143, 94088] σ90 σ126 → I128 n138 v125 σ126 → p_rowAt σ77 (a1) (v89) ∧ (((v_rowAt σ77 (a1) (v89)) ≤ v125 → X130 σ126) ∧ (v125 < (v_rowAt σ77 (a1) (v89)) → (0 ≤ v89 ∧ v89 < 13000) ∧ (((sg_g σ90 150 (v89)) < 0 → X130 σ126) ∧ (0 ≤ (sg_g σ90 150 (v89)) → sg_R (v87 + v125) ∧ V_list σ126 ((v87 + v125)) (fun σ193 => sg_F [143, 94088] σ126 σ193 → sg_R (v125 + 1) ∧ (∃ m, m < n138 ∧ I128 m ((v125 + 1)) σ193))))))) ∧ (∀ (σ126 : sg_S), sg_F [143, 94088] σ90 σ126 → X130 σ126 → (∃ (I143 : Nat → Int → sg_S → Prop) (X145 : sg_S → Prop), (∃ n, I143 n (0) σ126) ∧ (∀ (n153 : Nat) (v140 : Int) (σ141 : sg_S), sg_R v140 → sg_F [143, 94088] σ126 σ141 → I143 n153 v140 σ141 → p_rowAt σ77 (a2) (v89) ∧ (((v_rowAt σ77 (a2) (v89)) ≤ v140 → X145 σ141) ∧ (v140 < (v_rowAt σ77 (a2) (v89)) → (0 ≤ v89 ∧ v89 < 13000) ∧ (((sg_g σ90 150 (v89)) < 0 → X145 σ141) ∧ (0 ≤ (sg_g σ90 150 (v89)) → sg_R (v88 + v140) ∧ V_list σ141 ((v88 + v140)) (fun σ179 => sg_F [143, 94088] σ141 σ179 → sg_R (v140 + 1) ∧ (∃ m, m < n153 ∧ I143 m ((v140 + 1)) σ179))))))) ∧ (∀ (σ141 : sg_S), sg_F [143, 94088] σ126 σ141 → X145 σ141 → p_rowAt σ77 (a1) (v89) ∧ sg_R (v87 + (v_rowAt σ77 (a1) (v89))) ∧ p_rowAt σ77 (a2) (v89) ∧ sg_R (v88 + (v_rowAt σ77 (a2) (v89))) ∧ (0 ≤ v89 ∧ v89 < 13000) ∧ ∀ v164 : Int, v164 = (if 0 ≤ (sg_g σ90 150 (v89)) then (sg_g σ90 150 (v89)) else (0 : Int)) → sg_R v164 → ∀ σ167, σ167 = (sg_w σ141 150 (v89) (v164)) → sg_R (v89 + 1) ∧ (∃ m, m < n104 ∧ I92 m ((v87 + (v_rowAt σ77 (a1) (v89)))) ((v88 + (v_rowAt σ77 (a2) (v89)))) ((v89 + 1)) σ167)))))))) ∧ (∀ (σ90 : sg_S), sg_F [143, 150, 94088] σ84 σ90 → X94 σ90 → V_gathered σ90 (q76) (fun q106 σ107 => sg_R q106 → sg_F [139, 140, 141, 142, 144, 88088, 92088] σ90 σ107 → V_putLens σ107 (a3) (fun q112 σ113 => sg_R q112 → sg_F [142, 92088] σ107 σ113 → V_outer σ113 (q112) (a3) (q106) (fun q118 σ119 => sg_R q118 → sg_F [139, 140, 141, 88088] σ113 σ119 → Q (q118) σ119))))))) ∧ (q60 = 0 → Q (0) σ61)))))))))))
set_option maxHeartbeats 4000000 in
set_option maxRecDepth 8000 in
theorem w_flatCat (z : Value) (σ : sg_S) (a1 : Int) (a2 : Int) (a3 : Int) (Q : Int → sg_S → Prop) (ra1 : sg_R a1) (ra2 : sg_R a2) (ra3 : sg_R a3) (w : V_flatCat σ a1 a2 a3 Q) : wx z 3 233 0 [(0, .inr (.inr (.ref 88))), (1, .inl (a1)), (2, .inl (a2)), (3, .inl (a3))] [] σ (fun v σ' => ∃ q, v = some (.inl q) ∧ sg_R q ∧ sg_F [133, 139, 140, 141, 142, 143, 144, 150, 74088, 85088, 86088, 88088, 92088, 94088, 103088, 104088] σ σ' ∧ Q q σ') := by
  unfold V_flatCat at w
  refine wk_b tt_233 2 (pc' := 3) (ls' := [(4, .inl (0)), (0, .inr (.inr (.ref 88))), (1, .inl (a1)), (2, .inl (a2)), (3, .inl (a3))]) (st' := []) (σ' := σ) rfl ?_
  obtain ⟨I4, X6, ⟨μ5, w11⟩, w12, w13⟩ := w
  have ex15 : ∀ (σ2 : sg_S), sg_F [150, 103088, 104088] σ σ2 → X6 σ2 → wx z 3 233 65 [(0, .inr (.inr (.ref 88))), (1, .inl (a1)), (2, .inl (a2)), (3, .inl (a3))] [] σ2 (fun v σ' => ∃ q, v = some (.inl q) ∧ sg_R q ∧ sg_F [133, 139, 140, 141, 142, 143, 144, 150, 74088, 85088, 86088, 88088, 92088, 94088, 103088, 104088] σ σ' ∧ Q q σ') := by
    intro σ2 hF3 w
    have w := w13 σ2 hF3 w
    refine wk_b tt_233 2 (pc' := 67) (ls' := [(0, .inr (.inr (.ref 88))), (1, .inl (a1)), (2, .inl (a2)), (3, .inl (a3))]) (st' := [.inl (a1), .inr (.inr (.ref 88))]) (σ' := σ2) rfl ?_
    refine wk_call tt_233 rfl rfl rfl rfl rfl tt_259 rfl (by decide) (w_inner z σ2 (a1) _ ra1 w) (fun u21 σ17 hq19 => ?_)
    obtain ⟨q16, rfl, r20, hF18, w⟩ := hq19
    have w := w r20 hF18
    refine wk_b tt_233 3 (pc' := 74) (ls' := [(4, .inl (q16)), (0, .inr (.inr (.ref 88))), (1, .inl (a1)), (2, .inl (a2)), (3, .inl (a3))]) (st' := [.inl (a2), .inr (.inr (.ref 88))]) (σ' := σ17) rfl ?_
    refine wk_call tt_233 rfl rfl rfl rfl rfl tt_259 rfl (by decide) (w_inner z σ17 (a2) _ ra2 w) (fun u27 σ23 hq25 => ?_)
    obtain ⟨q22, rfl, r26, hF24, w⟩ := hq25
    have w := w r26 hF24
    refine wk_b tt_233 4 (pc' := 84) (ls' := [(5, .inl (q22)), (4, .inl (q16)), (0, .inr (.inr (.ref 88))), (1, .inl (a1)), (2, .inl (a2)), (3, .inl (a3))]) (st' := []) (σ' := (sg_w σ23 88 93 (0))) rfl ?_
    generalize hs29 : (sg_w σ23 88 93 (0)) = σ28
    have w := w σ28 hs29.symm
    have hF30 : sg_F [94088] σ23 σ28 := by rw [← hs29]; exact sg_F_w (sg_F_r _ _) rfl _
    refine wk_b tt_233 3 (pc' := 87) (ls' := [(5, .inl (q22)), (4, .inl (q16)), (0, .inr (.inr (.ref 88))), (1, .inl (a1)), (2, .inl (a2)), (3, .inl (a3))]) (st' := [.inl (a3), .inl (a1), .inr (.inr (.ref 88))]) (σ' := σ28) rfl ?_
    refine wk_call tt_233 rfl rfl rfl rfl rfl tt_281 rfl (by decide) (w_listItems z σ28 (a1) (a3) _ ra1 ra3 w) (fun u36 σ32 hq34 => ?_)
    obtain ⟨rfl, hF33, w⟩ := hq34
    have w := w hF33
    refine wk_b tt_233 4 (pc' := 95) (ls' := [(5, .inl (q22)), (4, .inl (q16)), (0, .inr (.inr (.ref 88))), (1, .inl (a1)), (2, .inl (a2)), (3, .inl (a3))]) (st' := [.inl (q16), .inr (.inr (.ref 88)), .inr (.inl ((sg_n (a3))))]) (σ' := σ32) rfl ?_
    rw [show (sg_n (a3)) = a3 from by rw [sg_id ra3]]
    refine wk_call tt_233 rfl rfl rfl rfl rfl tt_227 rfl (by decide) (w_extentOfLanes z σ32 (q16) _ r20 w) (fun u42 σ38 hq40 => ?_)
    obtain ⟨q37, rfl, r41, hF39, w⟩ := hq40
    have w := w r41 hF39
    obtain ⟨c43, w⟩ := w
    refine wk_b tt_233 5 (pc' := 106) (ls' := [(6, .inr (.inl ((a3 + q37)))), (5, .inl (q22)), (4, .inl (q16)), (0, .inr (.inr (.ref 88))), (1, .inl (a1)), (2, .inl (a2)), (3, .inl (a3))]) (st' := []) (σ' := (sg_w σ38 88 93 (0))) rfl ?_
    generalize hs45 : (sg_w σ38 88 93 (0)) = σ44
    have w := w σ44 hs45.symm
    have hF46 : sg_F [94088] σ38 σ44 := by rw [← hs45]; exact sg_F_w (sg_F_r _ _) rfl _
    refine wk_b tt_233 3 (pc' := 109) (ls' := [(6, .inr (.inl ((a3 + q37)))), (5, .inl (q22)), (4, .inl (q16)), (0, .inr (.inr (.ref 88))), (1, .inl (a1)), (2, .inl (a2)), (3, .inl (a3))]) (st' := [.inl (a3), .inl (a2), .inr (.inr (.ref 88))]) (σ' := σ44) rfl ?_
    refine wk_call tt_233 rfl rfl rfl rfl rfl tt_281 rfl (by decide) (w_listItems z σ44 (a2) (a3) _ ra2 ra3 w) (fun u52 σ48 hq50 => ?_)
    obtain ⟨rfl, hF49, w⟩ := hq50
    have w := w hF49
    refine wk_b tt_233 3 (pc' := 117) (ls' := [(6, .inr (.inl ((a3 + q37)))), (5, .inl (q22)), (4, .inl (q16)), (0, .inr (.inr (.ref 88))), (1, .inl (a1)), (2, .inl (a2)), (3, .inl (a3))]) (st' := [.inl (q22), .inr (.inr (.ref 88)), .inr (.inl ((a3 + q37)))]) (σ' := σ48) rfl ?_
    refine wk_call tt_233 rfl rfl rfl rfl rfl tt_227 rfl (by decide) (w_extentOfLanes z σ48 (q22) _ r26 w) (fun u58 σ54 hq56 => ?_)
    obtain ⟨q53, rfl, r57, hF55, w⟩ := hq56
    have w := w r57 hF55
    obtain ⟨c59, w⟩ := w
    refine wk_b tt_233 4 (pc' := 126) (ls' := [(6, .inr (.inl (((a3 + q37) + q53)))), (5, .inl (q22)), (4, .inl (q16)), (0, .inr (.inr (.ref 88))), (1, .inl (a1)), (2, .inl (a2)), (3, .inl (a3))]) (st' := [.inr (.inl (((a3 + q37) + q53))), .inr (.inr (.ref 88))]) (σ' := σ54) rfl ?_
    refine wk_call tt_233 rfl rfl rfl rfl rfl tt_329 rfl (by decide) (w_stepped z σ54 (((a3 + q37) + q53)) _ c59 w) (fun u65 σ61 hq63 => ?_)
    obtain ⟨q60, rfl, r64, hF62, w⟩ := hq63
    have w := w r64 hF62
    refine wk_if tt_233 (tgt := 134) rfl rfl (sg_Rz r64) (fun (h66 : ¬ q60 = 0) => ?_) (fun (h66 : q60 = 0) => ?_)
    ·
      have w := w.1 h66
      refine wk_b tt_233 5 (pc' := 144) (ls' := [(6, .inr (.inl (((a3 + q37) + q53)))), (5, .inl (q22)), (4, .inl (q16)), (0, .inr (.inr (.ref 88))), (1, .inl (a1)), (2, .inl (a2)), (3, .inl (a3))]) (st' := [.inl (q16), .inl ((sg_g σ61 88 70)), .inr (.inr (.ref 133))]) (σ' := σ61) rfl ?_
      rw [show (sg_g σ61 88 70) = (sg_g σ 88 70) from by rw [sg_F_g hF62 rfl, sg_F_ga hF55 rfl, sg_F_g hF49 rfl, sg_F_g hF46 rfl, sg_F_ga hF39 rfl, sg_F_g hF33 rfl, sg_F_g hF30 rfl, sg_F_g hF24 rfl, sg_F_g hF18 rfl, sg_F_g hF3 rfl]]
      obtain ⟨c67, w⟩ := w
      refine wk_is tt_233 rfl rfl c67.1 c67.2 (sg_Rg _ _ _) ?_
      generalize hs69 : (sg_w σ61 133 ((sg_g σ 88 70)) (q16)) = σ68
      have w := w σ68 hs69.symm
      have hF70 : sg_F [133] σ61 σ68 := by rw [← hs69]; exact sg_F_w (sg_F_r _ _) rfl _
      obtain ⟨c71, w⟩ := w
      refine wk_b tt_233 7 (pc' := 157) (ls' := [(6, .inr (.inl (((a3 + q37) + q53)))), (5, .inl (q22)), (4, .inl (q16)), (0, .inr (.inr (.ref 88))), (1, .inl (a1)), (2, .inl (a2)), (3, .inl (a3))]) (st' := [.inl (q22), .inl (((sg_g σ68 88 70) + 1)), .inr (.inr (.ref 133))]) (σ' := σ68) rfl ?_
      rw [show (sg_g σ68 88 70) = (sg_g σ 88 70) from by rw [sg_F_ga hF70 rfl, sg_F_g hF62 rfl, sg_F_ga hF55 rfl, sg_F_g hF49 rfl, sg_F_g hF46 rfl, sg_F_ga hF39 rfl, sg_F_g hF33 rfl, sg_F_g hF30 rfl, sg_F_g hF24 rfl, sg_F_g hF18 rfl, sg_F_g hF3 rfl]]
      obtain ⟨c72, w⟩ := w
      refine wk_is tt_233 rfl rfl c72.1 c72.2 c71 ?_
      generalize hs74 : (sg_w σ68 133 (((sg_g σ 88 70) + 1)) (q22)) = σ73
      have w := w σ73 hs74.symm
      have hF75 : sg_F [133] σ68 σ73 := by rw [← hs74]; exact sg_F_w (sg_F_r _ _) rfl _
      refine wk_b tt_233 4 (pc' := 164) (ls' := [(6, .inr (.inl (((a3 + q37) + q53)))), (5, .inl (q22)), (4, .inl (q16)), (0, .inr (.inr (.ref 88))), (1, .inl (a1)), (2, .inl (a2)), (3, .inl (a3))]) (st' := [.inl (2), .inl ((sg_g σ73 88 70)), .inr (.inr (.ref 88))]) (σ' := σ73) rfl ?_
      rw [show (sg_g σ73 88 70) = (sg_g σ 88 70) from by rw [sg_F_ga hF75 rfl, sg_F_ga hF70 rfl, sg_F_g hF62 rfl, sg_F_ga hF55 rfl, sg_F_g hF49 rfl, sg_F_g hF46 rfl, sg_F_ga hF39 rfl, sg_F_g hF33 rfl, sg_F_g hF30 rfl, sg_F_g hF24 rfl, sg_F_g hF18 rfl, sg_F_g hF3 rfl]]
      refine wk_call tt_233 rfl rfl rfl rfl rfl tt_271 rfl (by decide) (w_joined z σ73 ((sg_g σ 88 70)) (2) _ (sg_Rg _ _ _) (by decide) w) (fun u81 σ77 hq79 => ?_)
      obtain ⟨q76, rfl, r80, hF78, w⟩ := hq79
      have w := w r80 hF78
      refine wk_b tt_233 5 (pc' := 175) (ls' := [(9, .inl (0)), (8, .inl (q76)), (6, .inr (.inl (((a3 + q37) + q53)))), (5, .inl (q22)), (4, .inl (q16)), (0, .inr (.inr (.ref 88))), (1, .inl (a1)), (2, .inl (a2)), (3, .inl (a3))]) (st' := [.inl (q16), .inr (.inr (.ref 88))]) (σ' := σ77) rfl ?_
      obtain ⟨c82, w⟩ := w
      refine wk_callp tt_233 rfl rfl rfl rfl rfl tt_277 rfl (by decide) (w_lanesOf z σ77 (q16) r20 c82) ?_
      have r83 := vr_lanesOf σ77  (q16) r20 c82
      refine wk_b tt_233 4 (pc' := 185) (ls' := [(10, .inl ((v_lanesOf σ77 (q16)))), (9, .inl (0)), (8, .inl (q76)), (6, .inr (.inl (((a3 + q37) + q53)))), (5, .inl (q22)), (4, .inl (q16)), (0, .inr (.inr (.ref 88))), (1, .inl (a1)), (2, .inl (a2)), (3, .inl (a3))]) (st' := []) (σ' := (sg_w σ77 88 93 (0))) rfl ?_
      generalize hs85 : (sg_w σ77 88 93 (0)) = σ84
      have w := w σ84 hs85.symm
      have hF86 : sg_F [94088] σ77 σ84 := by rw [← hs85]; exact sg_F_w (sg_F_r _ _) rfl _
      refine wk_b tt_233 2 (pc' := 188) (ls' := [(11, .inl (0)), (10, .inl ((v_lanesOf σ77 (q16)))), (9, .inl (0)), (8, .inl (q76)), (6, .inr (.inl (((a3 + q37) + q53)))), (5, .inl (q22)), (4, .inl (q16)), (0, .inr (.inr (.ref 88))), (1, .inl (a1)), (2, .inl (a2)), (3, .inl (a3))]) (st' := []) (σ' := σ84) rfl ?_
      obtain ⟨I92, X94, ⟨μ93, w101⟩, w102, w103⟩ := w
      have ex105 : ∀ (σ90 : sg_S), sg_F [143, 150, 94088] σ84 σ90 → X94 σ90 → wx z 3 233 332 [(0, .inr (.inr (.ref 88))), (3, .inl (a3)), (8, .inl (q76))] [] σ90 (fun v σ' => ∃ q, v = some (.inl q) ∧ sg_R q ∧ sg_F [133, 139, 140, 141, 142, 143, 144, 150, 74088, 85088, 86088, 88088, 92088, 94088, 103088, 104088] σ σ' ∧ Q q σ') := by
        intro σ90 hF91 w
        have w := w103 σ90 hF91 w
        refine wk_b tt_233 2 (pc' := 335) (ls' := [(0, .inr (.inr (.ref 88))), (3, .inl (a3)), (8, .inl (q76))]) (st' := [.inl (q76), .inr (.inr (.ref 88))]) (σ' := σ90) rfl ?_
        refine wk_call tt_233 rfl rfl rfl rfl rfl tt_249 rfl (by decide) (w_gathered z σ90 (q76) _ r80 w) (fun u111 σ107 hq109 => ?_)
        obtain ⟨q106, rfl, r110, hF108, w⟩ := hq109
        have w := w r110 hF108
        refine wk_b tt_233 3 (pc' := 342) (ls' := [(11, .inl (q106)), (0, .inr (.inr (.ref 88))), (3, .inl (a3)), (8, .inl (q76))]) (st' := [.inl (a3), .inr (.inr (.ref 88))]) (σ' := σ107) rfl ?_
        refine wk_call tt_233 rfl rfl rfl rfl rfl tt_309 rfl (by decide) (w_putLens z σ107 (a3) _ ra3 w) (fun u117 σ113 hq115 => ?_)
        obtain ⟨q112, rfl, r116, hF114, w⟩ := hq115
        have w := w r116 hF114
        refine wk_b tt_233 5 (pc' := 353) (ls' := [(12, .inl (q112)), (11, .inl (q106)), (0, .inr (.inr (.ref 88))), (3, .inl (a3)), (8, .inl (q76))]) (st' := [.inl (q106), .inl (a3), .inl (q112), .inr (.inr (.ref 88))]) (σ' := σ113) rfl ?_
        refine wk_call tt_233 rfl rfl rfl rfl rfl tt_300 rfl (by decide) (w_outer z σ113 (q112) (a3) (q106) _ r116 ra3 r110 w) (fun u123 σ119 hq121 => ?_)
        obtain ⟨q118, rfl, r122, hF120, w⟩ := hq121
        have w := w r122 hF120
        exact wk_rI tt_233 rfl rfl ⟨_, rfl, r122, (sg_F_t (sg_F_t (sg_F_t (sg_F_t (sg_F_t (sg_F_t (sg_F_t (sg_F_t (sg_F_t (sg_F_t (sg_F_t (sg_F_t (sg_F_t (sg_F_t (sg_F_t (sg_F_t (sg_F_t (sg_F_t (sg_F_r [133, 139, 140, 141, 142, 143, 144, 150, 74088, 85088, 86088, 88088, 92088, 94088, 103088, 104088] σ) (sg_F_m (L := [133, 139, 140, 141, 142, 143, 144, 150, 74088, 85088, 86088, 88088, 92088, 94088, 103088, 104088]) hF3 rfl)) (sg_F_m (L := [133, 139, 140, 141, 142, 143, 144, 150, 74088, 85088, 86088, 88088, 92088, 94088, 103088, 104088]) hF18 rfl)) (sg_F_m (L := [133, 139, 140, 141, 142, 143, 144, 150, 74088, 85088, 86088, 88088, 92088, 94088, 103088, 104088]) hF24 rfl)) (sg_F_m (L := [133, 139, 140, 141, 142, 143, 144, 150, 74088, 85088, 86088, 88088, 92088, 94088, 103088, 104088]) hF30 rfl)) (sg_F_m (L := [133, 139, 140, 141, 142, 143, 144, 150, 74088, 85088, 86088, 88088, 92088, 94088, 103088, 104088]) hF33 rfl)) (sg_F_m (L := [133, 139, 140, 141, 142, 143, 144, 150, 74088, 85088, 86088, 88088, 92088, 94088, 103088, 104088]) hF39 rfl)) (sg_F_m (L := [133, 139, 140, 141, 142, 143, 144, 150, 74088, 85088, 86088, 88088, 92088, 94088, 103088, 104088]) hF46 rfl)) (sg_F_m (L := [133, 139, 140, 141, 142, 143, 144, 150, 74088, 85088, 86088, 88088, 92088, 94088, 103088, 104088]) hF49 rfl)) (sg_F_m (L := [133, 139, 140, 141, 142, 143, 144, 150, 74088, 85088, 86088, 88088, 92088, 94088, 103088, 104088]) hF55 rfl)) (sg_F_m (L := [133, 139, 140, 141, 142, 143, 144, 150, 74088, 85088, 86088, 88088, 92088, 94088, 103088, 104088]) hF62 rfl)) (sg_F_m (L := [133, 139, 140, 141, 142, 143, 144, 150, 74088, 85088, 86088, 88088, 92088, 94088, 103088, 104088]) hF70 rfl)) (sg_F_m (L := [133, 139, 140, 141, 142, 143, 144, 150, 74088, 85088, 86088, 88088, 92088, 94088, 103088, 104088]) hF75 rfl)) (sg_F_m (L := [133, 139, 140, 141, 142, 143, 144, 150, 74088, 85088, 86088, 88088, 92088, 94088, 103088, 104088]) hF78 rfl)) (sg_F_m (L := [133, 139, 140, 141, 142, 143, 144, 150, 74088, 85088, 86088, 88088, 92088, 94088, 103088, 104088]) hF86 rfl)) (sg_F_m (L := [133, 139, 140, 141, 142, 143, 144, 150, 74088, 85088, 86088, 88088, 92088, 94088, 103088, 104088]) hF91 rfl)) (sg_F_m (L := [133, 139, 140, 141, 142, 143, 144, 150, 74088, 85088, 86088, 88088, 92088, 94088, 103088, 104088]) hF108 rfl)) (sg_F_m (L := [133, 139, 140, 141, 142, 143, 144, 150, 74088, 85088, 86088, 88088, 92088, 94088, 103088, 104088]) hF114 rfl)) (sg_F_m (L := [133, 139, 140, 141, 142, 143, 144, 150, 74088, 85088, 86088, 88088, 92088, 94088, 103088, 104088]) hF120 rfl)), w⟩
      have lp100 : ∀ (n104 : Nat) (v87 : Int) (v88 : Int) (v89 : Int) (σ90 : sg_S), sg_R v87 → sg_R v88 → sg_R v89 → sg_F [143, 150, 94088] σ84 σ90 → I92 n104 v87 v88 v89 σ90 → wx z 3 233 188 [(0, .inr (.inr (.ref 88))), (1, .inl (a1)), (2, .inl (a2)), (3, .inl (a3)), (8, .inl (q76)), (9, .inl (v87)), (10, .inl (v88)), (11, .inl (v89))] [] σ90 (fun v σ' => ∃ q, v = some (.inl q) ∧ sg_R q ∧ sg_F [133, 139, 140, 141, 142, 143, 144, 150, 74088, 85088, 86088, 88088, 92088, 94088, 103088, 104088] σ σ' ∧ Q q σ') := by
        intro n104
        induction n104 using Nat.strongRecOn with
        | _ n104 ih98 =>
          intro v87 v88 v89 σ90 r95 r96 r97 hF91 w
          have w := w102 n104 v87 v88 v89 σ90 r95 r96 r97 hF91 w
          refine wk_b tt_233 2 (pc' := 191) (ls' := [(0, .inr (.inr (.ref 88))), (1, .inl (a1)), (2, .inl (a2)), (3, .inl (a3)), (8, .inl (q76)), (9, .inl (v87)), (10, .inl (v88)), (11, .inl (v89))]) (st' := [.inl (a3), .inl (v89)]) (σ' := σ90) rfl ?_
          refine wk_if2 tt_233 (tgt := 332) rfl rfl r97 ra3 (fun (h124 : a3 ≤ v89) => ?_) (fun (h124 : v89 < a3) => ?_)
          ·
            have w := w.1 h124
            exact wk_ls [(0, .inr (.inr (.ref 88))), (3, .inl (a3)), (8, .inl (q76))] rfl ⟨rfl, rfl, rfl, trivial⟩ (ex105  σ90  (sg_F_t (sg_F_r [143, 150, 94088] σ84) (sg_F_m (L := [143, 150, 94088]) hF91 rfl)) w)
          ·
            have w := w.2 h124
            refine wk_b tt_233 2 (pc' := 197) (ls' := [(12, .inl (0)), (0, .inr (.inr (.ref 88))), (1, .inl (a1)), (2, .inl (a2)), (3, .inl (a3)), (8, .inl (q76)), (9, .inl (v87)), (10, .inl (v88)), (11, .inl (v89))]) (st' := []) (σ' := σ90) rfl ?_
            obtain ⟨I128, X130, ⟨μ129, w135⟩, w136, w137⟩ := w
            have ex139 : ∀ (σ126 : sg_S), sg_F [143, 94088] σ90 σ126 → X130 σ126 → wx z 3 233 234 [(0, .inr (.inr (.ref 88))), (1, .inl (a1)), (2, .inl (a2)), (3, .inl (a3)), (8, .inl (q76)), (9, .inl (v87)), (10, .inl (v88)), (11, .inl (v89))] [] σ126 (fun v σ' => ∃ q, v = some (.inl q) ∧ sg_R q ∧ sg_F [133, 139, 140, 141, 142, 143, 144, 150, 74088, 85088, 86088, 88088, 92088, 94088, 103088, 104088] σ σ' ∧ Q q σ') := by
              intro σ126 hF127 w
              have w := w137 σ126 hF127 w
              refine wk_b tt_233 2 (pc' := 237) (ls' := [(12, .inl (0)), (0, .inr (.inr (.ref 88))), (1, .inl (a1)), (2, .inl (a2)), (3, .inl (a3)), (8, .inl (q76)), (9, .inl (v87)), (10, .inl (v88)), (11, .inl (v89))]) (st' := []) (σ' := σ126) rfl ?_
              obtain ⟨I143, X145, ⟨μ144, w150⟩, w151, w152⟩ := w
              have ex154 : ∀ (σ141 : sg_S), sg_F [143, 94088] σ126 σ141 → X145 σ141 → wx z 3 233 274 [(0, .inr (.inr (.ref 88))), (1, .inl (a1)), (2, .inl (a2)), (3, .inl (a3)), (8, .inl (q76)), (9, .inl (v87)), (10, .inl (v88)), (11, .inl (v89))] [] σ141 (fun v σ' => ∃ q, v = some (.inl q) ∧ sg_R q ∧ sg_F [133, 139, 140, 141, 142, 143, 144, 150, 74088, 85088, 86088, 88088, 92088, 94088, 103088, 104088] σ σ' ∧ Q q σ') := by
                intro σ141 hF142 w
                have w := w152 σ141 hF142 w
                refine wk_b tt_233 4 (pc' := 280) (ls' := [(0, .inr (.inr (.ref 88))), (1, .inl (a1)), (2, .inl (a2)), (3, .inl (a3)), (8, .inl (q76)), (9, .inl (v87)), (10, .inl (v88)), (11, .inl (v89))]) (st' := [.inl (v89), .inl (a1), .inr (.inr (.ref 88)), .inl (v87)]) (σ' := σ141) rfl ?_
                obtain ⟨c155, w⟩ := w
                have c155 : p_rowAt σ141 (a1) (v89) := by
                  rw [pF_rowAt hF142 rfl rfl, pF_rowAt hF127 rfl rfl, pF_rowAt hF91 rfl rfl, pF_rowAt hF86 rfl rfl]; exact c155
                refine wk_callp tt_233 rfl rfl rfl rfl rfl tt_322 rfl (by decide) (w_rowAt z σ141 (a1) (v89) ra1 r97 c155) ?_
                rw [vF_rowAt hF142 rfl rfl, vF_rowAt hF127 rfl rfl, vF_rowAt hF91 rfl rfl, vF_rowAt hF86 rfl rfl]
                have r156 := vr_rowAt σ77  (a1) (v89) ra1 r97 (by have q := c155; rw [pF_rowAt hF142 rfl rfl, pF_rowAt hF127 rfl rfl, pF_rowAt hF91 rfl rfl, pF_rowAt hF86 rfl rfl] at q; exact q)
                obtain ⟨c157, w⟩ := w
                refine wk_b tt_233 6 (pc' := 292) (ls' := [(9, .inl ((v87 + (v_rowAt σ77 (a1) (v89))))), (0, .inr (.inr (.ref 88))), (1, .inl (a1)), (2, .inl (a2)), (3, .inl (a3)), (8, .inl (q76)), (10, .inl (v88)), (11, .inl (v89))]) (st' := [.inl (v89), .inl (a2), .inr (.inr (.ref 88)), .inl (v88)]) (σ' := σ141) rfl ?_
                obtain ⟨c158, w⟩ := w
                have c158 : p_rowAt σ141 (a2) (v89) := by
                  rw [pF_rowAt hF142 rfl rfl, pF_rowAt hF127 rfl rfl, pF_rowAt hF91 rfl rfl, pF_rowAt hF86 rfl rfl]; exact c158
                refine wk_callp tt_233 rfl rfl rfl rfl rfl tt_322 rfl (by decide) (w_rowAt z σ141 (a2) (v89) ra2 r97 c158) ?_
                rw [vF_rowAt hF142 rfl rfl, vF_rowAt hF127 rfl rfl, vF_rowAt hF91 rfl rfl, vF_rowAt hF86 rfl rfl]
                have r159 := vr_rowAt σ77  (a2) (v89) ra2 r97 (by have q := c158; rw [pF_rowAt hF142 rfl rfl, pF_rowAt hF127 rfl rfl, pF_rowAt hF91 rfl rfl, pF_rowAt hF86 rfl rfl] at q; exact q)
                obtain ⟨c160, w⟩ := w
                refine wk_b tt_233 8 (pc' := 310) (ls' := [(10, .inl ((v88 + (v_rowAt σ77 (a2) (v89))))), (9, .inl ((v87 + (v_rowAt σ77 (a1) (v89))))), (0, .inr (.inr (.ref 88))), (1, .inl (a1)), (2, .inl (a2)), (3, .inl (a3)), (8, .inl (q76)), (11, .inl (v89))]) (st' := [.inl (v89), .inr (.inr (.ref 150)), .inl (v89), .inr (.inr (.ref 150))]) (σ' := σ141) rfl ?_
                obtain ⟨c161, w⟩ := w
                refine wk_ia tt_233 rfl rfl c161.1 c161.2 r97 ?_
                rw [show (sg_g σ141 150 (v89)) = (sg_g σ90 150 (v89)) from by rw [sg_F_ga hF142 rfl, sg_F_ga hF127 rfl]]
                have jn163 : ∀ v164 : Int, v164 = (if 0 ≤ (sg_g σ90 150 (v89)) then (sg_g σ90 150 (v89)) else (0 : Int)) → sg_R v164 → wx z 3 233 325 [(0, .inr (.inr (.ref 88))), (1, .inl (a1)), (2, .inl (a2)), (3, .inl (a3)), (8, .inl (q76)), (9, .inl ((v87 + (v_rowAt σ77 (a1) (v89))))), (10, .inl ((v88 + (v_rowAt σ77 (a2) (v89))))), (11, .inl (v89))] [.inl (v164), .inl (v89), .inr (.inr (.ref 150))] σ141 (fun v σ' => ∃ q, v = some (.inl q) ∧ sg_R q ∧ sg_F [133, 139, 140, 141, 142, 143, 144, 150, 74088, 85088, 86088, 88088, 92088, 94088, 103088, 104088] σ σ' ∧ Q q σ') := by
                  intro v164 e166 r165
                  have w := w v164 e166 r165
                  refine wk_is tt_233 rfl rfl c161.1 c161.2 r97 ?_
                  generalize hs168 : (sg_w σ141 150 (v89) (v164)) = σ167
                  have w := w σ167 hs168.symm
                  have hF169 : sg_F [150] σ141 σ167 := by rw [← hs168]; exact sg_F_w (sg_F_r _ _) rfl _
                  obtain ⟨c170, w⟩ := w
                  refine wk_b tt_233 2 (pc' := 188) (ls' := [(11, .inl ((v89 + 1))), (0, .inr (.inr (.ref 88))), (1, .inl (a1)), (2, .inl (a2)), (3, .inl (a3)), (8, .inl (q76)), (9, .inl ((v87 + (v_rowAt σ77 (a1) (v89))))), (10, .inl ((v88 + (v_rowAt σ77 (a2) (v89)))))]) (st' := []) (σ' := σ167) rfl ?_
                  obtain ⟨m171, hm171, w⟩ := w
                  exact wk_ls [(0, .inr (.inr (.ref 88))), (1, .inl (a1)), (2, .inl (a2)), (3, .inl (a3)), (8, .inl (q76)), (9, .inl ((v87 + (v_rowAt σ77 (a1) (v89))))), (10, .inl ((v88 + (v_rowAt σ77 (a2) (v89))))), (11, .inl ((v89 + 1)))] rfl ⟨rfl, rfl, rfl, rfl, rfl, rfl, rfl, rfl, trivial⟩ (ih98 m171 hm171 ((v87 + (v_rowAt σ77 (a1) (v89)))) ((v88 + (v_rowAt σ77 (a2) (v89)))) ((v89 + 1)) σ167 c157 c160 c170 (sg_F_t (sg_F_t (sg_F_t (sg_F_t (sg_F_r [143, 150, 94088] σ84) (sg_F_m (L := [143, 150, 94088]) hF91 rfl)) (sg_F_m (L := [143, 150, 94088]) hF127 rfl)) (sg_F_m (L := [143, 150, 94088]) hF142 rfl)) (sg_F_m (L := [143, 150, 94088]) hF169 rfl)) w)
                refine wk_if tt_233 (tgt := 318) rfl rfl (sg_Rg _ _ _) (fun (h162 : 0 ≤ (sg_g σ90 150 (v89))) => ?_) (fun (h162 : (sg_g σ90 150 (v89)) < 0) => ?_)
                ·
                  clear w
                  refine wk_b tt_233 3 (pc' := 324) (ls' := [(10, .inl ((v88 + (v_rowAt σ77 (a2) (v89))))), (9, .inl ((v87 + (v_rowAt σ77 (a1) (v89))))), (0, .inr (.inr (.ref 88))), (1, .inl (a1)), (2, .inl (a2)), (3, .inl (a3)), (8, .inl (q76)), (11, .inl (v89))]) (st' := [.inl (v89), .inr (.inr (.ref 150)), .inl (v89), .inr (.inr (.ref 150))]) (σ' := σ141) rfl ?_
                  refine wk_ia tt_233 rfl rfl c161.1 c161.2 r97 ?_
                  rw [show (sg_g σ141 150 (v89)) = (sg_g σ90 150 (v89)) from by rw [sg_F_ga hF142 rfl, sg_F_ga hF127 rfl]]
                  exact wk_ls [(0, .inr (.inr (.ref 88))), (1, .inl (a1)), (2, .inl (a2)), (3, .inl (a3)), (8, .inl (q76)), (9, .inl ((v87 + (v_rowAt σ77 (a1) (v89))))), (10, .inl ((v88 + (v_rowAt σ77 (a2) (v89))))), (11, .inl (v89))] rfl ⟨rfl, rfl, rfl, rfl, rfl, rfl, rfl, rfl, trivial⟩ (jn163 ((sg_g σ90 150 (v89))) (by simp only [if_pos h162]) (sg_Rg _ _ _))
                ·
                  clear w
                  refine wk_b tt_233 2 (pc' := 325) (ls' := [(10, .inl ((v88 + (v_rowAt σ77 (a2) (v89))))), (9, .inl ((v87 + (v_rowAt σ77 (a1) (v89))))), (0, .inr (.inr (.ref 88))), (1, .inl (a1)), (2, .inl (a2)), (3, .inl (a3)), (8, .inl (q76)), (11, .inl (v89))]) (st' := [.inl (0), .inl (v89), .inr (.inr (.ref 150))]) (σ' := σ141) rfl ?_
                  exact wk_ls [(0, .inr (.inr (.ref 88))), (1, .inl (a1)), (2, .inl (a2)), (3, .inl (a3)), (8, .inl (q76)), (9, .inl ((v87 + (v_rowAt σ77 (a1) (v89))))), (10, .inl ((v88 + (v_rowAt σ77 (a2) (v89))))), (11, .inl (v89))] rfl ⟨rfl, rfl, rfl, rfl, rfl, rfl, rfl, rfl, trivial⟩ (jn163 (0) (by simp only [if_neg (show ¬ (0 ≤ (sg_g σ90 150 (v89))) by omega)]) (by decide))
              have lp149 : ∀ (n153 : Nat) (v140 : Int) (σ141 : sg_S), sg_R v140 → sg_F [143, 94088] σ126 σ141 → I143 n153 v140 σ141 → wx z 3 233 237 [(0, .inr (.inr (.ref 88))), (1, .inl (a1)), (2, .inl (a2)), (3, .inl (a3)), (8, .inl (q76)), (9, .inl (v87)), (10, .inl (v88)), (11, .inl (v89)), (12, .inl (v140))] [] σ141 (fun v σ' => ∃ q, v = some (.inl q) ∧ sg_R q ∧ sg_F [133, 139, 140, 141, 142, 143, 144, 150, 74088, 85088, 86088, 88088, 92088, 94088, 103088, 104088] σ σ' ∧ Q q σ') := by
                intro n153
                induction n153 using Nat.strongRecOn with
                | _ n153 ih147 =>
                  intro v140 σ141 r146 hF142 w
                  have w := w151 n153 v140 σ141 r146 hF142 w
                  refine wk_b tt_233 4 (pc' := 243) (ls' := [(0, .inr (.inr (.ref 88))), (1, .inl (a1)), (2, .inl (a2)), (3, .inl (a3)), (8, .inl (q76)), (9, .inl (v87)), (10, .inl (v88)), (11, .inl (v89)), (12, .inl (v140))]) (st' := [.inl (v89), .inl (a2), .inr (.inr (.ref 88)), .inl (v140)]) (σ' := σ141) rfl ?_
                  obtain ⟨c172, w⟩ := w
                  have c172 : p_rowAt σ141 (a2) (v89) := by
                    rw [pF_rowAt hF142 rfl rfl, pF_rowAt hF127 rfl rfl, pF_rowAt hF91 rfl rfl, pF_rowAt hF86 rfl rfl]; exact c172
                  refine wk_callp tt_233 rfl rfl rfl rfl rfl tt_322 rfl (by decide) (w_rowAt z σ141 (a2) (v89) ra2 r97 c172) ?_
                  rw [vF_rowAt hF142 rfl rfl, vF_rowAt hF127 rfl rfl, vF_rowAt hF91 rfl rfl, vF_rowAt hF86 rfl rfl]
                  have r173 := vr_rowAt σ77  (a2) (v89) ra2 r97 (by have q := c172; rw [pF_rowAt hF142 rfl rfl, pF_rowAt hF127 rfl rfl, pF_rowAt hF91 rfl rfl, pF_rowAt hF86 rfl rfl] at q; exact q)
                  refine wk_if2 tt_233 (tgt := 274) rfl rfl r146 r173 (fun (h174 : (v_rowAt σ77 (a2) (v89)) ≤ v140) => ?_) (fun (h174 : v140 < (v_rowAt σ77 (a2) (v89))) => ?_)
                  ·
                    have w := w.1 h174
                    exact wk_ls [(0, .inr (.inr (.ref 88))), (1, .inl (a1)), (2, .inl (a2)), (3, .inl (a3)), (8, .inl (q76)), (9, .inl (v87)), (10, .inl (v88)), (11, .inl (v89))] rfl ⟨rfl, rfl, rfl, rfl, rfl, rfl, rfl, rfl, trivial⟩ (ex154  σ141  (sg_F_t (sg_F_r [143, 94088] σ126) (sg_F_m (L := [143, 94088]) hF142 rfl)) w)
                  ·
                    have w := w.2 h174
                    refine wk_b tt_233 3 (pc' := 255) (ls' := [(0, .inr (.inr (.ref 88))), (1, .inl (a1)), (2, .inl (a2)), (3, .inl (a3)), (8, .inl (q76)), (9, .inl (v87)), (10, .inl (v88)), (11, .inl (v89)), (12, .inl (v140))]) (st' := [.inl (v89), .inr (.inr (.ref 150))]) (σ' := σ141) rfl ?_
                    obtain ⟨c175, w⟩ := w
                    refine wk_ia tt_233 rfl rfl c175.1 c175.2 r97 ?_
                    rw [show (sg_g σ141 150 (v89)) = (sg_g σ90 150 (v89)) from by rw [sg_F_ga hF142 rfl, sg_F_ga hF127 rfl]]
                    refine wk_if tt_233 (tgt := 274) rfl rfl (sg_Rg _ _ _) (fun (h176 : (sg_g σ90 150 (v89)) < 0) => ?_) (fun (h176 : 0 ≤ (sg_g σ90 150 (v89))) => ?_)
                    ·
                      have w := w.1 h176
                      exact wk_ls [(0, .inr (.inr (.ref 88))), (1, .inl (a1)), (2, .inl (a2)), (3, .inl (a3)), (8, .inl (q76)), (9, .inl (v87)), (10, .inl (v88)), (11, .inl (v89))] rfl ⟨rfl, rfl, rfl, rfl, rfl, rfl, rfl, rfl, trivial⟩ (ex154  σ141  (sg_F_t (sg_F_r [143, 94088] σ126) (sg_F_m (L := [143, 94088]) hF142 rfl)) w)
                    ·
                      have w := w.2 h176
                      obtain ⟨c177, w⟩ := w
                      refine wk_b tt_233 4 (pc' := 265) (ls' := [(0, .inr (.inr (.ref 88))), (1, .inl (a1)), (2, .inl (a2)), (3, .inl (a3)), (8, .inl (q76)), (9, .inl (v87)), (10, .inl (v88)), (11, .inl (v89)), (12, .inl (v140))]) (st' := [.inl ((v88 + v140)), .inr (.inr (.ref 88))]) (σ' := σ141) rfl ?_
                      refine wk_call tt_233 rfl rfl rfl rfl rfl tt_280 rfl (by decide) (w_list z σ141 ((v88 + v140)) _ c177 w) (fun u183 σ179 hq181 => ?_)
                      obtain ⟨rfl, hF180, w⟩ := hq181
                      have w := w hF180
                      obtain ⟨c184, w⟩ := w
                      refine wk_b tt_233 2 (pc' := 237) (ls' := [(12, .inl ((v140 + 1))), (0, .inr (.inr (.ref 88))), (1, .inl (a1)), (2, .inl (a2)), (3, .inl (a3)), (8, .inl (q76)), (9, .inl (v87)), (10, .inl (v88)), (11, .inl (v89))]) (st' := []) (σ' := σ179) rfl ?_
                      obtain ⟨m185, hm185, w⟩ := w
                      exact wk_ls [(0, .inr (.inr (.ref 88))), (1, .inl (a1)), (2, .inl (a2)), (3, .inl (a3)), (8, .inl (q76)), (9, .inl (v87)), (10, .inl (v88)), (11, .inl (v89)), (12, .inl ((v140 + 1)))] rfl ⟨rfl, rfl, rfl, rfl, rfl, rfl, rfl, rfl, rfl, trivial⟩ (ih147 m185 hm185 ((v140 + 1)) σ179 c184 (sg_F_t (sg_F_t (sg_F_r [143, 94088] σ126) (sg_F_m (L := [143, 94088]) hF142 rfl)) (sg_F_m (L := [143, 94088]) hF180 rfl)) w)
              exact wk_ls [(0, .inr (.inr (.ref 88))), (1, .inl (a1)), (2, .inl (a2)), (3, .inl (a3)), (8, .inl (q76)), (9, .inl (v87)), (10, .inl (v88)), (11, .inl (v89)), (12, .inl (0))] rfl ⟨rfl, rfl, rfl, rfl, rfl, rfl, rfl, rfl, rfl, trivial⟩ (lp149 μ144 (0) σ126 (by decide) (sg_F_r _ _) w150)
            have lp134 : ∀ (n138 : Nat) (v125 : Int) (σ126 : sg_S), sg_R v125 → sg_F [143, 94088] σ90 σ126 → I128 n138 v125 σ126 → wx z 3 233 197 [(0, .inr (.inr (.ref 88))), (1, .inl (a1)), (2, .inl (a2)), (3, .inl (a3)), (8, .inl (q76)), (9, .inl (v87)), (10, .inl (v88)), (11, .inl (v89)), (12, .inl (v125))] [] σ126 (fun v σ' => ∃ q, v = some (.inl q) ∧ sg_R q ∧ sg_F [133, 139, 140, 141, 142, 143, 144, 150, 74088, 85088, 86088, 88088, 92088, 94088, 103088, 104088] σ σ' ∧ Q q σ') := by
              intro n138
              induction n138 using Nat.strongRecOn with
              | _ n138 ih132 =>
                intro v125 σ126 r131 hF127 w
                have w := w136 n138 v125 σ126 r131 hF127 w
                refine wk_b tt_233 4 (pc' := 203) (ls' := [(0, .inr (.inr (.ref 88))), (1, .inl (a1)), (2, .inl (a2)), (3, .inl (a3)), (8, .inl (q76)), (9, .inl (v87)), (10, .inl (v88)), (11, .inl (v89)), (12, .inl (v125))]) (st' := [.inl (v89), .inl (a1), .inr (.inr (.ref 88)), .inl (v125)]) (σ' := σ126) rfl ?_
                obtain ⟨c186, w⟩ := w
                have c186 : p_rowAt σ126 (a1) (v89) := by
                  rw [pF_rowAt hF127 rfl rfl, pF_rowAt hF91 rfl rfl, pF_rowAt hF86 rfl rfl]; exact c186
                refine wk_callp tt_233 rfl rfl rfl rfl rfl tt_322 rfl (by decide) (w_rowAt z σ126 (a1) (v89) ra1 r97 c186) ?_
                rw [vF_rowAt hF127 rfl rfl, vF_rowAt hF91 rfl rfl, vF_rowAt hF86 rfl rfl]
                have r187 := vr_rowAt σ77  (a1) (v89) ra1 r97 (by have q := c186; rw [pF_rowAt hF127 rfl rfl, pF_rowAt hF91 rfl rfl, pF_rowAt hF86 rfl rfl] at q; exact q)
                refine wk_if2 tt_233 (tgt := 234) rfl rfl r131 r187 (fun (h188 : (v_rowAt σ77 (a1) (v89)) ≤ v125) => ?_) (fun (h188 : v125 < (v_rowAt σ77 (a1) (v89))) => ?_)
                ·
                  have w := w.1 h188
                  exact wk_ls [(0, .inr (.inr (.ref 88))), (1, .inl (a1)), (2, .inl (a2)), (3, .inl (a3)), (8, .inl (q76)), (9, .inl (v87)), (10, .inl (v88)), (11, .inl (v89))] rfl ⟨rfl, rfl, rfl, rfl, rfl, rfl, rfl, rfl, trivial⟩ (ex139  σ126  (sg_F_t (sg_F_r [143, 94088] σ90) (sg_F_m (L := [143, 94088]) hF127 rfl)) w)
                ·
                  have w := w.2 h188
                  refine wk_b tt_233 3 (pc' := 215) (ls' := [(0, .inr (.inr (.ref 88))), (1, .inl (a1)), (2, .inl (a2)), (3, .inl (a3)), (8, .inl (q76)), (9, .inl (v87)), (10, .inl (v88)), (11, .inl (v89)), (12, .inl (v125))]) (st' := [.inl (v89), .inr (.inr (.ref 150))]) (σ' := σ126) rfl ?_
                  obtain ⟨c189, w⟩ := w
                  refine wk_ia tt_233 rfl rfl c189.1 c189.2 r97 ?_
                  rw [show (sg_g σ126 150 (v89)) = (sg_g σ90 150 (v89)) from by rw [sg_F_ga hF127 rfl]]
                  refine wk_if tt_233 (tgt := 234) rfl rfl (sg_Rg _ _ _) (fun (h190 : (sg_g σ90 150 (v89)) < 0) => ?_) (fun (h190 : 0 ≤ (sg_g σ90 150 (v89))) => ?_)
                  ·
                    have w := w.1 h190
                    exact wk_ls [(0, .inr (.inr (.ref 88))), (1, .inl (a1)), (2, .inl (a2)), (3, .inl (a3)), (8, .inl (q76)), (9, .inl (v87)), (10, .inl (v88)), (11, .inl (v89))] rfl ⟨rfl, rfl, rfl, rfl, rfl, rfl, rfl, rfl, trivial⟩ (ex139  σ126  (sg_F_t (sg_F_r [143, 94088] σ90) (sg_F_m (L := [143, 94088]) hF127 rfl)) w)
                  ·
                    have w := w.2 h190
                    obtain ⟨c191, w⟩ := w
                    refine wk_b tt_233 4 (pc' := 225) (ls' := [(0, .inr (.inr (.ref 88))), (1, .inl (a1)), (2, .inl (a2)), (3, .inl (a3)), (8, .inl (q76)), (9, .inl (v87)), (10, .inl (v88)), (11, .inl (v89)), (12, .inl (v125))]) (st' := [.inl ((v87 + v125)), .inr (.inr (.ref 88))]) (σ' := σ126) rfl ?_
                    refine wk_call tt_233 rfl rfl rfl rfl rfl tt_280 rfl (by decide) (w_list z σ126 ((v87 + v125)) _ c191 w) (fun u197 σ193 hq195 => ?_)
                    obtain ⟨rfl, hF194, w⟩ := hq195
                    have w := w hF194
                    obtain ⟨c198, w⟩ := w
                    refine wk_b tt_233 2 (pc' := 197) (ls' := [(12, .inl ((v125 + 1))), (0, .inr (.inr (.ref 88))), (1, .inl (a1)), (2, .inl (a2)), (3, .inl (a3)), (8, .inl (q76)), (9, .inl (v87)), (10, .inl (v88)), (11, .inl (v89))]) (st' := []) (σ' := σ193) rfl ?_
                    obtain ⟨m199, hm199, w⟩ := w
                    exact wk_ls [(0, .inr (.inr (.ref 88))), (1, .inl (a1)), (2, .inl (a2)), (3, .inl (a3)), (8, .inl (q76)), (9, .inl (v87)), (10, .inl (v88)), (11, .inl (v89)), (12, .inl ((v125 + 1)))] rfl ⟨rfl, rfl, rfl, rfl, rfl, rfl, rfl, rfl, rfl, trivial⟩ (ih132 m199 hm199 ((v125 + 1)) σ193 c198 (sg_F_t (sg_F_t (sg_F_r [143, 94088] σ90) (sg_F_m (L := [143, 94088]) hF127 rfl)) (sg_F_m (L := [143, 94088]) hF194 rfl)) w)
            exact wk_ls [(0, .inr (.inr (.ref 88))), (1, .inl (a1)), (2, .inl (a2)), (3, .inl (a3)), (8, .inl (q76)), (9, .inl (v87)), (10, .inl (v88)), (11, .inl (v89)), (12, .inl (0))] rfl ⟨rfl, rfl, rfl, rfl, rfl, rfl, rfl, rfl, rfl, trivial⟩ (lp134 μ129 (0) σ90 (by decide) (sg_F_r _ _) w135)
      exact wk_ls [(0, .inr (.inr (.ref 88))), (1, .inl (a1)), (2, .inl (a2)), (3, .inl (a3)), (8, .inl (q76)), (9, .inl (0)), (10, .inl ((v_lanesOf σ77 (q16)))), (11, .inl (0))] rfl ⟨rfl, rfl, rfl, rfl, rfl, rfl, rfl, rfl, trivial⟩ (lp100 μ93 (0) ((v_lanesOf σ77 (q16))) (0) σ84 (by decide) r83 (by decide) (sg_F_r _ _) w101)
    ·
      have w := w.2 h66
      refine wk_b tt_233 1 (pc' := 133) (ls' := [(6, .inr (.inl (((a3 + q37) + q53)))), (5, .inl (q22)), (4, .inl (q16)), (0, .inr (.inr (.ref 88))), (1, .inl (a1)), (2, .inl (a2)), (3, .inl (a3))]) (st' := [.inl (0)]) (σ' := σ61) rfl ?_
      exact wk_rI tt_233 rfl rfl ⟨_, rfl, (by decide), (sg_F_t (sg_F_t (sg_F_t (sg_F_t (sg_F_t (sg_F_t (sg_F_t (sg_F_t (sg_F_t (sg_F_t (sg_F_r [133, 139, 140, 141, 142, 143, 144, 150, 74088, 85088, 86088, 88088, 92088, 94088, 103088, 104088] σ) (sg_F_m (L := [133, 139, 140, 141, 142, 143, 144, 150, 74088, 85088, 86088, 88088, 92088, 94088, 103088, 104088]) hF3 rfl)) (sg_F_m (L := [133, 139, 140, 141, 142, 143, 144, 150, 74088, 85088, 86088, 88088, 92088, 94088, 103088, 104088]) hF18 rfl)) (sg_F_m (L := [133, 139, 140, 141, 142, 143, 144, 150, 74088, 85088, 86088, 88088, 92088, 94088, 103088, 104088]) hF24 rfl)) (sg_F_m (L := [133, 139, 140, 141, 142, 143, 144, 150, 74088, 85088, 86088, 88088, 92088, 94088, 103088, 104088]) hF30 rfl)) (sg_F_m (L := [133, 139, 140, 141, 142, 143, 144, 150, 74088, 85088, 86088, 88088, 92088, 94088, 103088, 104088]) hF33 rfl)) (sg_F_m (L := [133, 139, 140, 141, 142, 143, 144, 150, 74088, 85088, 86088, 88088, 92088, 94088, 103088, 104088]) hF39 rfl)) (sg_F_m (L := [133, 139, 140, 141, 142, 143, 144, 150, 74088, 85088, 86088, 88088, 92088, 94088, 103088, 104088]) hF46 rfl)) (sg_F_m (L := [133, 139, 140, 141, 142, 143, 144, 150, 74088, 85088, 86088, 88088, 92088, 94088, 103088, 104088]) hF49 rfl)) (sg_F_m (L := [133, 139, 140, 141, 142, 143, 144, 150, 74088, 85088, 86088, 88088, 92088, 94088, 103088, 104088]) hF55 rfl)) (sg_F_m (L := [133, 139, 140, 141, 142, 143, 144, 150, 74088, 85088, 86088, 88088, 92088, 94088, 103088, 104088]) hF62 rfl)), w⟩
  have lp10 : ∀ (n14 : Nat) (v1 : Int) (σ2 : sg_S), sg_R v1 → sg_F [150, 103088, 104088] σ σ2 → I4 n14 v1 σ2 → wx z 3 233 3 [(0, .inr (.inr (.ref 88))), (1, .inl (a1)), (2, .inl (a2)), (3, .inl (a3)), (4, .inl (v1))] [] σ2 (fun v σ' => ∃ q, v = some (.inl q) ∧ sg_R q ∧ sg_F [133, 139, 140, 141, 142, 143, 144, 150, 74088, 85088, 86088, 88088, 92088, 94088, 103088, 104088] σ σ' ∧ Q q σ') := by
    intro n14
    induction n14 using Nat.strongRecOn with
    | _ n14 ih8 =>
      intro v1 σ2 r7 hF3 w
      have w := w12 n14 v1 σ2 r7 hF3 w
      refine wk_b tt_233 2 (pc' := 6) (ls' := [(0, .inr (.inr (.ref 88))), (1, .inl (a1)), (2, .inl (a2)), (3, .inl (a3)), (4, .inl (v1))]) (st' := [.inl (a3), .inl (v1)]) (σ' := σ2) rfl ?_
      refine wk_if2 tt_233 (tgt := 65) rfl rfl r7 ra3 (fun (h200 : a3 ≤ v1) => ?_) (fun (h200 : v1 < a3) => ?_)
      ·
        have w := w.1 h200
        exact wk_ls [(0, .inr (.inr (.ref 88))), (1, .inl (a1)), (2, .inl (a2)), (3, .inl (a3))] rfl ⟨rfl, rfl, rfl, rfl, trivial⟩ (ex15  σ2  (sg_F_t (sg_F_r [150, 103088, 104088] σ) (sg_F_m (L := [150, 103088, 104088]) hF3 rfl)) w)
      ·
        have w := w.2 h200
        refine wk_b tt_233 6 (pc' := 19) (ls' := [(0, .inr (.inr (.ref 88))), (1, .inl (a1)), (2, .inl (a2)), (3, .inl (a3)), (4, .inl (v1))]) (st' := [.inl (v1), .inl (a1), .inr (.inr (.ref 88)), .inl (v1), .inr (.inr (.ref 150))]) (σ' := σ2) rfl ?_
        obtain ⟨c201, w⟩ := w
        have c201 : p_rowAt σ2 (a1) (v1) := by
          rw [pF_rowAt hF3 rfl rfl]; exact c201
        refine wk_callp tt_233 rfl rfl rfl rfl rfl tt_322 rfl (by decide) (w_rowAt z σ2 (a1) (v1) ra1 r7 c201) ?_
        rw [vF_rowAt hF3 rfl rfl]
        have r202 := vr_rowAt σ  (a1) (v1) ra1 r7 (by have q := c201; rw [pF_rowAt hF3 rfl rfl] at q; exact q)
        refine wk_b tt_233 3 (pc' := 26) (ls' := [(0, .inr (.inr (.ref 88))), (1, .inl (a1)), (2, .inl (a2)), (3, .inl (a3)), (4, .inl (v1))]) (st' := [.inl (v1), .inl (a2), .inr (.inr (.ref 88)), .inl ((v_rowAt σ (a1) (v1))), .inl (v1), .inr (.inr (.ref 150))]) (σ' := σ2) rfl ?_
        obtain ⟨c203, w⟩ := w
        have c203 : p_rowAt σ2 (a2) (v1) := by
          rw [pF_rowAt hF3 rfl rfl]; exact c203
        refine wk_callp tt_233 rfl rfl rfl rfl rfl tt_322 rfl (by decide) (w_rowAt z σ2 (a2) (v1) ra2 r7 c203) ?_
        rw [vF_rowAt hF3 rfl rfl]
        have r204 := vr_rowAt σ  (a2) (v1) ra2 r7 (by have q := c203; rw [pF_rowAt hF3 rfl rfl] at q; exact q)
        obtain ⟨c205, w⟩ := w
        refine wk_b tt_233 1 (pc' := 30) (ls' := [(0, .inr (.inr (.ref 88))), (1, .inl (a1)), (2, .inl (a2)), (3, .inl (a3)), (4, .inl (v1))]) (st' := [.inl (((v_rowAt σ (a1) (v1)) + (v_rowAt σ (a2) (v1)))), .inl (v1), .inr (.inr (.ref 150))]) (σ' := σ2) rfl ?_
        obtain ⟨c206, w⟩ := w
        refine wk_is tt_233 rfl rfl c206.1 c206.2 r7 ?_
        generalize hs208 : (sg_w σ2 150 (v1) (((v_rowAt σ (a1) (v1)) + (v_rowAt σ (a2) (v1))))) = σ207
        have w := w σ207 hs208.symm
        have hF209 : sg_F [150] σ2 σ207 := by rw [← hs208]; exact sg_F_w (sg_F_r _ _) rfl _
        refine wk_b tt_233 3 (pc' := 37) (ls' := [(0, .inr (.inr (.ref 88))), (1, .inl (a1)), (2, .inl (a2)), (3, .inl (a3)), (4, .inl (v1))]) (st' := [.inl (v1), .inr (.inr (.ref 150))]) (σ' := σ207) rfl ?_
        refine wk_ia tt_233 rfl rfl c206.1 c206.2 r7 ?_
        refine wk_b tt_233 1 (pc' := 41) (ls' := [(0, .inr (.inr (.ref 88))), (1, .inl (a1)), (2, .inl (a2)), (3, .inl (a3)), (4, .inl (v1))]) (st' := [.inl (200), .inl ((sg_g σ207 150 (v1)))]) (σ' := σ207) rfl ?_
        obtain ⟨P212, w, w215⟩ := w
        have jn211 : ∀ (σ213 : sg_S), sg_F [150, 103088, 104088] σ207 σ213 → P212 σ213 → wx z 3 233 59 [(0, .inr (.inr (.ref 88))), (1, .inl (a1)), (2, .inl (a2)), (3, .inl (a3)), (4, .inl (v1))] [] σ213 (fun v σ' => ∃ q, v = some (.inl q) ∧ sg_R q ∧ sg_F [133, 139, 140, 141, 142, 143, 144, 150, 74088, 85088, 86088, 88088, 92088, 94088, 103088, 104088] σ σ' ∧ Q q σ') := by
          intro σ213 hF214 w
          have w := w215 σ213 hF214 w
          obtain ⟨c216, w⟩ := w
          refine wk_b tt_233 2 (pc' := 3) (ls' := [(4, .inl ((v1 + 1))), (0, .inr (.inr (.ref 88))), (1, .inl (a1)), (2, .inl (a2)), (3, .inl (a3))]) (st' := []) (σ' := σ213) rfl ?_
          obtain ⟨m217, hm217, w⟩ := w
          exact wk_ls [(0, .inr (.inr (.ref 88))), (1, .inl (a1)), (2, .inl (a2)), (3, .inl (a3)), (4, .inl ((v1 + 1)))] rfl ⟨rfl, rfl, rfl, rfl, rfl, trivial⟩ (ih8 m217 hm217 ((v1 + 1)) σ213 c216 (sg_F_t (sg_F_t (sg_F_t (sg_F_r [150, 103088, 104088] σ) (sg_F_m (L := [150, 103088, 104088]) hF3 rfl)) (sg_F_m (L := [150, 103088, 104088]) hF209 rfl)) (sg_F_m (L := [150, 103088, 104088]) hF214 rfl)) w)
        refine wk_if2 tt_233 (tgt := 59) rfl rfl (sg_Rg _ _ _) (by decide) (fun (h210 : (sg_g σ207 150 (v1)) ≤ 200) => ?_) (fun (h210 : 200 < (sg_g σ207 150 (v1))) => ?_)
        ·
          have w := w.1 h210
          exact wk_ls [(0, .inr (.inr (.ref 88))), (1, .inl (a1)), (2, .inl (a2)), (3, .inl (a3)), (4, .inl (v1))] rfl ⟨rfl, rfl, rfl, rfl, rfl, trivial⟩ (jn211 σ207 (sg_F_r [150, 103088, 104088] σ207) w)
        ·
          have w := w.2 h210
          refine wk_b tt_233 3 (pc' := 48) (ls' := [(0, .inr (.inr (.ref 88))), (1, .inl (a1)), (2, .inl (a2)), (3, .inl (a3)), (4, .inl (v1))]) (st' := [.inl (5), .inl (v1), .inr (.inr (.ref 88))]) (σ' := σ207) rfl ?_
          refine wk_call tt_233 rfl rfl rfl rfl rfl tt_276 rfl (by decide) (w_lacks z σ207 (v1) (5) _ r7 (by decide) w) (fun u223 σ219 hq221 => ?_)
          obtain ⟨rfl, hF220, w⟩ := hq221
          have w := w hF220
          refine wk_b tt_233 4 (pc' := 58) (ls' := [(0, .inr (.inr (.ref 88))), (1, .inl (a1)), (2, .inl (a2)), (3, .inl (a3)), (4, .inl (v1))]) (st' := [.inl ((-1)), .inl (v1), .inr (.inr (.ref 150))]) (σ' := σ219) rfl ?_
          refine wk_is tt_233 rfl rfl c206.1 c206.2 r7 ?_
          generalize hs225 : (sg_w σ219 150 (v1) ((-1))) = σ224
          have w := w σ224 hs225.symm
          have hF226 : sg_F [150] σ219 σ224 := by rw [← hs225]; exact sg_F_w (sg_F_r _ _) rfl _
          exact wk_ls [(0, .inr (.inr (.ref 88))), (1, .inl (a1)), (2, .inl (a2)), (3, .inl (a3)), (4, .inl (v1))] rfl ⟨rfl, rfl, rfl, rfl, rfl, trivial⟩ (jn211 σ224 (sg_F_t (sg_F_t (sg_F_r [150, 103088, 104088] σ207) (sg_F_m (L := [150, 103088, 104088]) hF220 rfl)) (sg_F_m (L := [150, 103088, 104088]) hF226 rfl)) w)
  exact wk_ls [(0, .inr (.inr (.ref 88))), (1, .inl (a1)), (2, .inl (a2)), (3, .inl (a3)), (4, .inl (0))] rfl ⟨rfl, rfl, rfl, rfl, rfl, trivial⟩ (lp10 μ5 (0) σ (by decide) (sg_F_r _ _) w11)
