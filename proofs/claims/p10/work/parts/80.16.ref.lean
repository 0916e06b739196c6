/-! Conditions of the reference's methods, by program (16). -/
-- NestedVectorsModel.flatWorked
def V_flatWorked_17 (σ : sg_S) (b3 : Int) (b4 : Int) (b5 : Int) (Q : Int → sg_S → Prop) : Prop := V_flatDist σ (b4) (b5) (b3) (fun q1 σ2 => sg_R q1 → sg_F [139, 140, 141, 142, 143, 144, 150, 74088, 85088, 86088, 88088, 92088, 94088, 103088, 104088] σ σ2 → Q (q1) σ2)
set_option maxHeartbeats 4000000 in
set_option maxRecDepth 8000 in
theorem w_flatWorked_17 (z : Value) (σ : sg_S) (b3 : Int) (b4 : Int) (b5 : Int) (Q : Int → sg_S → Prop) (rb3 : sg_R b3) (rb4 : sg_R b4) (rb5 : sg_R b5) (w : V_flatWorked_17 σ b3 b4 b5 Q) : wx z 4 246 279 [(0, .inr (.inr (.ref 88))), (3, .inl (b3)), (4, .inl (b4)), (5, .inl (b5))] [] σ (fun v σ' => ∃ q, v = some (.inl q) ∧ sg_R q ∧ sg_F [139, 140, 141, 142, 143, 144, 150, 74088, 85088, 86088, 88088, 92088, 94088, 103088, 104088] σ σ' ∧ Q q σ') := by
  unfold V_flatWorked_17 at w
  refine wk_b tt_246 4 (pc' := 285) (ls' := [(0, .inr (.inr (.ref 88))), (3, .inl (b3)), (4, .inl (b4)), (5, .inl (b5))]) (st' := [.inl (b3), .inl (b5), .inl (b4), .inr (.inr (.ref 88))]) (σ' := σ) rfl ?_
  refine wk_call tt_246 rfl rfl rfl rfl rfl tt_235 rfl (by decide) (w_flatDist z σ (b4) (b5) (b3) _ rb4 rb5 rb3 w) (fun u6 σ2 hq4 => ?_)
  obtain ⟨q1, rfl, r5, hF3, w⟩ := hq4
  have w := w r5 hF3
  exact wk_rI tt_246 rfl rfl ⟨_, rfl, r5, (sg_F_t (sg_F_r [139, 140, 141, 142, 143, 144, 150, 74088, 85088, 86088, 88088, 92088, 94088, 103088, 104088] σ) (sg_F_m (L := [139, 140, 141, 142, 143, 144, 150, 74088, 85088, 86088, 88088, 92088, 94088, 103088, 104088]) hF3 rfl)), w⟩
-- NestedVectorsModel.flatGone
def V_flatGone (σ : sg_S) (a1 : Int) (a2 : Int) (a3 : Int) (Q : Int → sg_S → Prop) : Prop := (0 ≤ a1 ∧ a1 < 210) ∧ ∀ v4 : Int, v4 = (if ¬ (sg_g σ 93 (a1)) = 21 then (0 : Int) else (1 : Int)) → sg_R v4 → (∃ P9 : Int → Prop, ((v4 = 0 → P9 (a3)) ∧ (¬ v4 = 0 → V_extentOf σ (a2) (fun q144 _ => sg_R q144 → P9 (q144)))) ∧ (∀ (v12 : Int), sg_RL v12 → P9 v12 → V_stepped σ (v12) (fun q15 σ16 => (q15 = 0 ∨ q15 = 1) → sg_F [74088, 85088, 86088] σ σ16 → ((¬ q15 = 0 → sg_R (4 * a2) ∧ sg_R ((4 * a2) + 1) ∧ (0 ≤ ((4 * a2) + 1) ∧ ((4 * a2) + 1) < 120000) ∧ (∃ (I29 : Nat → Int → Int → sg_S → Prop) (X31 : sg_S → Prop), (∃ n, I29 n ((sg_g σ 140 (((4 * a2) + 1)))) (0) σ16) ∧ (∀ (n40 : Nat) (v25 : Int) (v26 : Int) (σ27 : sg_S), sg_R v25 → sg_R v26 → sg_F [142, 92088, 103088, 104088] σ16 σ27 → I29 n40 v25 v26 σ27 → ((a3 ≤ v26 → X31 σ27) ∧ (v26 < a3 → (∃ (I62 : Nat → Int → Int → Int → sg_S → Prop) (X64 : Int → Int → sg_S → Prop), (∃ n, I62 n (v25) (0) (0) σ27) ∧ (∀ (n74 : Nat) (v57 : Int) (v58 : Int) (v59 : Int) (σ60 : sg_S), sg_R v57 → sg_R v58 → sg_R v59 → sg_F [142, 92088] σ27 σ60 → I62 n74 v57 v58 v59 σ60 → p_rowAt σ60 (a2) (v26) ∧ (((v_rowAt σ60 (a2) (v26)) ≤ v59 → X64 (v57) (v58) σ60) ∧ (v59 < (v_rowAt σ60 (a2) (v26)) → (0 ≤ v57 ∧ v57 < 60000) ∧ sg_R (v57 + 1) ∧ (∃ P122 : sg_S → Prop, ((v4 = 0 → P122 σ60) ∧ (¬ v4 = 0 → V_put σ60 (v58) (fun σ139 => sg_F [142, 92088] σ60 σ139 → P122 σ139))) ∧ (∀ (σ123 : sg_S), sg_F [142, 92088] σ60 σ123 → P122 σ123 → ((¬ (sg_g σ 93 (a1)) = 19 → ((¬ (sg_g σ 93 (a1)) = 20 → True) ∧ ((sg_g σ 93 (a1)) = 20 → ((v59 = 0 → True) ∧ (¬ v59 = 0 → ((v58 ≤ (sg_g σ60 142 (v57)) → True) ∧ ((sg_g σ60 142 (v57)) < v58 → True))))))) ∧ ((sg_g σ 93 (a1)) = 19 → ((v59 = 0 → True) ∧ (¬ v59 = 0 → (((sg_g σ60 142 (v57)) ≤ v58 → True) ∧ (v58 < (sg_g σ60 142 (v57)) → True)))))) ∧ ∀ v128 : Int, v128 = (if ¬ (sg_g σ 93 (a1)) = 19 then (if ¬ (sg_g σ 93 (a1)) = 20 then (sg_n (v58 + (sg_g σ60 142 (v57)))) else (if v59 = 0 then (sg_g σ60 142 (v57)) else (if v58 ≤ (sg_g σ60 142 (v57)) then v58 else (sg_g σ60 142 (v57))))) else (if v59 = 0 then (sg_g σ60 142 (v57)) else (if (sg_g σ60 142 (v57)) ≤ v58 then v58 else (sg_g σ60 142 (v57))))) → sg_R v128 → sg_R (v59 + 1) ∧ (∃ m, m < n74 ∧ I62 m ((v57 + 1)) (v128) ((v59 + 1)) σ123)))))) ∧ (∀ (v57 : Int) (v58 : Int) (σ60 : sg_S), sg_R v57 → sg_R v58 → sg_F [142, 92088] σ27 σ60 → X64 v57 v58 σ60 → (∃ P78 : sg_S → Prop, (((sg_g σ 93 (a1)) = 19 → p_rowAt σ60 (a2) (v26) ∧ ((¬ (v_rowAt σ60 (a2) (v26)) = 0 → P78 σ60) ∧ ((v_rowAt σ60 (a2) (v26)) = 0 → V_lacks σ60 (v26) (4) (fun σ100 => sg_F [103088, 104088] σ60 σ100 → P78 σ100)))) ∧ (¬ (sg_g σ 93 (a1)) = 19 → ((¬ (sg_g σ 93 (a1)) = 20 → P78 σ60) ∧ ((sg_g σ 93 (a1)) = 20 → p_rowAt σ60 (a2) (v26) ∧ ((¬ (v_rowAt σ60 (a2) (v26)) = 0 → P78 σ60) ∧ ((v_rowAt σ60 (a2) (v26)) = 0 → V_lacks σ60 (v26) (4) (fun σ110 => sg_F [103088, 104088] σ60 σ110 → P78 σ110))))))) ∧ (∀ (σ79 : sg_S), sg_F [103088, 104088] σ60 σ79 → P78 σ79 → (∃ P84 : sg_S → Prop, ((¬ v4 = 0 → P84 σ79) ∧ (v4 = 0 → V_put σ79 (v58) (fun σ91 => sg_F [142, 92088] σ79 σ91 → P84 σ91))) ∧ (∀ (σ85 : sg_S), sg_F [142, 92088] σ79 σ85 → P84 σ85 → sg_R (v26 + 1) ∧ (∃ m, m < n40 ∧ I29 m (v57) ((v26 + 1)) σ85)))))))))) ∧ (∀ (σ27 : sg_S), sg_F [142, 92088, 103088, 104088] σ16 σ27 → X31 σ27 → V_numbers σ27 ((sg_g σ 88 91)) (fun q42 σ43 => sg_R q42 → sg_F [139, 140, 141, 88088] σ27 σ43 → ((v4 = 0 → Q (q42) σ43) ∧ (¬ v4 = 0 → (0 ≤ (4 * a2) ∧ (4 * a2) < 120000) ∧ V_outer σ43 ((sg_g σ43 140 ((4 * a2)))) (a3) (q42) (fun q50 σ51 => sg_R q50 → sg_F [139, 140, 141, 88088] σ43 σ51 → Q (q50) σ51))))))) ∧ (q15 = 0 → Q (0) σ16)))))
set_option maxHeartbeats 4000000 in
set_option maxRecDepth 8000 in
theorem w_flatGone (z : Value) (σ : sg_S) (a1 : Int) (a2 : Int) (a3 : Int) (Q : Int → sg_S → Prop) (ra1 : sg_R a1) (ra2 : sg_R a2) (ra3 : sg_R a3) (w : V_flatGone σ a1 a2 a3 Q) : wx z 2 238 0 [(0, .inr (.inr (.ref 88))), (1, .inl (a1)), (2, .inl (a2)), (3, .inl (a3))] [] σ (fun v σ' => ∃ q, v = some (.inl q) ∧ sg_R q ∧ sg_F [139, 140, 141, 142, 74088, 85088, 86088, 88088, 92088, 103088, 104088] σ σ' ∧ Q q σ') := by
  unfold V_flatGone at w
  refine wk_b tt_238 3 (pc' := 5) (ls' := [(0, .inr (.inr (.ref 88))), (1, .inl (a1)), (2, .inl (a2)), (3, .inl (a3))]) (st' := [.inl (a1), .inr (.inr (.ref 93))]) (σ' := σ) rfl ?_
  obtain ⟨c1, w⟩ := w
  refine wk_ia tt_238 rfl rfl c1.1 c1.2 ra1 ?_
  refine wk_b tt_238 1 (pc' := 8) (ls' := [(0, .inr (.inr (.ref 88))), (1, .inl (a1)), (2, .inl (a2)), (3, .inl (a3))]) (st' := [.inl (21), .inl ((sg_g σ 93 (a1)))]) (σ' := σ) rfl ?_
  have jn3 : ∀ v4 : Int, v4 = (if ¬ (sg_g σ 93 (a1)) = 21 then (0 : Int) else (1 : Int)) → sg_R v4 → wx z 2 238 16 [(0, .inr (.inr (.ref 88))), (1, .inl (a1)), (2, .inl (a2)), (3, .inl (a3))] [.inl (v4)] σ (fun v σ' => ∃ q, v = some (.inl q) ∧ sg_R q ∧ sg_F [139, 140, 141, 142, 74088, 85088, 86088, 88088, 92088, 103088, 104088] σ σ' ∧ Q q σ') := by
    intro v4 e6 r5
    have w := w v4 e6 r5
    refine wk_b tt_238 3 (pc' := 21) (ls' := [(4, .inl (v4)), (0, .inr (.inr (.ref 88))), (1, .inl (a1)), (2, .inl (a2)), (3, .inl (a3))]) (st' := [.inl (v4), .inr (.inr (.ref 88))]) (σ' := σ) rfl ?_
    obtain ⟨P9, w, w14⟩ := w
    have jn8 : ∀ (v12 : Int), sg_RL v12 → P9 v12 → wx z 2 238 35 [(0, .inr (.inr (.ref 88))), (1, .inl (a1)), (2, .inl (a2)), (3, .inl (a3)), (4, .inl (v4))] [.inr (.inl (v12)), .inr (.inr (.ref 88))] σ (fun v σ' => ∃ q, v = some (.inl q) ∧ sg_R q ∧ sg_F [139, 140, 141, 142, 74088, 85088, 86088, 88088, 92088, 103088, 104088] σ σ' ∧ Q q σ') := by
      intro v12 r13 w
      have w := w14 v12 r13 w
      refine wk_call tt_238 rfl rfl rfl rfl rfl tt_329 rfl (by decide) (w_stepped z σ (v12) _ r13 w) (fun u20 σ16 hq18 => ?_)
      obtain ⟨q15, rfl, r19, hF17, w⟩ := hq18
      have w := w r19 hF17
      refine wk_if tt_238 (tgt := 43) rfl rfl (sg_Rz r19) (fun (h21 : ¬ q15 = 0) => ?_) (fun (h21 : q15 = 0) => ?_)
      ·
        have w := w.1 h21
        obtain ⟨c22, w⟩ := w
        obtain ⟨c23, w⟩ := w
        refine wk_b tt_238 10 (pc' := 58) (ls' := [(5, .inl ((sg_g σ16 88 91))), (0, .inr (.inr (.ref 88))), (1, .inl (a1)), (2, .inl (a2)), (3, .inl (a3)), (4, .inl (v4))]) (st' := [.inl (((4 * a2) + 1)), .inr (.inr (.ref 140))]) (σ' := σ16) rfl ?_
        rw [show (sg_g σ16 88 91) = (sg_g σ 88 91) from by rw [sg_F_g hF17 rfl]]
        obtain ⟨c24, w⟩ := w
        refine wk_ia tt_238 rfl rfl c24.1 c24.2 c23 ?_
        rw [show (sg_g σ16 140 (((4 * a2) + 1))) = (sg_g σ 140 (((4 * a2) + 1))) from by rw [sg_F_ga hF17 rfl]]
        refine wk_b tt_238 3 (pc' := 64) (ls' := [(7, .inl (0)), (6, .inl ((sg_g σ 140 (((4 * a2) + 1))))), (5, .inl ((sg_g σ 88 91))), (0, .inr (.inr (.ref 88))), (1, .inl (a1)), (2, .inl (a2)), (3, .inl (a3)), (4, .inl (v4))]) (st' := []) (σ' := σ16) rfl ?_
        obtain ⟨I29, X31, ⟨μ30, w37⟩, w38, w39⟩ := w
        have ex41 : ∀ (σ27 : sg_S), sg_F [142, 92088, 103088, 104088] σ16 σ27 → X31 σ27 → wx z 2 238 246 [(0, .inr (.inr (.ref 88))), (2, .inl (a2)), (3, .inl (a3)), (4, .inl (v4)), (5, .inl ((sg_g σ 88 91)))] [] σ27 (fun v σ' => ∃ q, v = some (.inl q) ∧ sg_R q ∧ sg_F [139, 140, 141, 142, 74088, 85088, 86088, 88088, 92088, 103088, 104088] σ σ' ∧ Q q σ') := by
          intro σ27 hF28 w
          have w := w39 σ27 hF28 w
          refine wk_b tt_238 2 (pc' := 249) (ls' := [(0, .inr (.inr (.ref 88))), (2, .inl (a2)), (3, .inl (a3)), (4, .inl (v4)), (5, .inl ((sg_g σ 88 91)))]) (st' := [.inl ((sg_g σ 88 91)), .inr (.inr (.ref 88))]) (σ' := σ27) rfl ?_
          refine wk_call tt_238 rfl rfl rfl rfl rfl tt_296 rfl (by decide) (w_numbers z σ27 ((sg_g σ 88 91)) _ (sg_Rg _ _ _) w) (fun u47 σ43 hq45 => ?_)
          obtain ⟨q42, rfl, r46, hF44, w⟩ := hq45
          have w := w r46 hF44
          refine wk_b tt_238 2 (pc' := 256) (ls' := [(7, .inl (q42)), (0, .inr (.inr (.ref 88))), (2, .inl (a2)), (3, .inl (a3)), (4, .inl (v4)), (5, .inl ((sg_g σ 88 91)))]) (st' := [.inl (v4)]) (σ' := σ43) rfl ?_
          refine wk_if tt_238 (tgt := 277) rfl rfl r5 (fun (h48 : v4 = 0) => ?_) (fun (h48 : ¬ v4 = 0) => ?_)
          ·
            have w := w.1 h48
            refine wk_b tt_238 1 (pc' := 279) (ls' := [(7, .inl (q42)), (0, .inr (.inr (.ref 88))), (2, .inl (a2)), (3, .inl (a3)), (4, .inl (v4)), (5, .inl ((sg_g σ 88 91)))]) (st' := [.inl (q42)]) (σ' := σ43) rfl ?_
            exact wk_rI tt_238 rfl rfl ⟨_, rfl, r46, (sg_F_t (sg_F_t (sg_F_t (sg_F_r [139, 140, 141, 142, 74088, 85088, 86088, 88088, 92088, 103088, 104088] σ) (sg_F_m (L := [139, 140, 141, 142, 74088, 85088, 86088, 88088, 92088, 103088, 104088]) hF17 rfl)) (sg_F_m (L := [139, 140, 141, 142, 74088, 85088, 86088, 88088, 92088, 103088, 104088]) hF28 rfl)) (sg_F_m (L := [139, 140, 141, 142, 74088, 85088, 86088, 88088, 92088, 103088, 104088]) hF44 rfl)), w⟩
          ·
            have w := w.2 h48
            refine wk_b tt_238 6 (pc' := 267) (ls' := [(7, .inl (q42)), (0, .inr (.inr (.ref 88))), (2, .inl (a2)), (3, .inl (a3)), (4, .inl (v4)), (5, .inl ((sg_g σ 88 91)))]) (st' := [.inl ((4 * a2)), .inr (.inr (.ref 140)), .inr (.inr (.ref 88))]) (σ' := σ43) rfl ?_
            obtain ⟨c49, w⟩ := w
            refine wk_ia tt_238 rfl rfl c49.1 c49.2 c22 ?_
            refine wk_b tt_238 2 (pc' := 271) (ls' := [(7, .inl (q42)), (0, .inr (.inr (.ref 88))), (2, .inl (a2)), (3, .inl (a3)), (4, .inl (v4)), (5, .inl ((sg_g σ 88 91)))]) (st' := [.inl (q42), .inl (a3), .inl ((sg_g σ43 140 ((4 * a2)))), .inr (.inr (.ref 88))]) (σ' := σ43) rfl ?_
            refine wk_call tt_238 rfl rfl rfl rfl rfl tt_300 rfl (by decide) (w_outer z σ43 ((sg_g σ43 140 ((4 * a2)))) (a3) (q42) _ (sg_Rg _ _ _) ra3 r46 w) (fun u55 σ51 hq53 => ?_)
            obtain ⟨q50, rfl, r54, hF52, w⟩ := hq53
            have w := w r54 hF52
            refine wk_b tt_238 1 (pc' := 279) (ls' := [(7, .inl (q42)), (0, .inr (.inr (.ref 88))), (2, .inl (a2)), (3, .inl (a3)), (4, .inl (v4)), (5, .inl ((sg_g σ 88 91)))]) (st' := [.inl (q50)]) (σ' := σ51) rfl ?_
            exact wk_rI tt_238 rfl rfl ⟨_, rfl, r54, (sg_F_t (sg_F_t (sg_F_t (sg_F_t (sg_F_r [139, 140, 141, 142, 74088, 85088, 86088, 88088, 92088, 103088, 104088] σ) (sg_F_m (L := [139, 140, 141, 142, 74088, 85088, 86088, 88088, 92088, 103088, 104088]) hF17 rfl)) (sg_F_m (L := [139, 140, 141, 142, 74088, 85088, 86088, 88088, 92088, 103088, 104088]) hF28 rfl)) (sg_F_m (L := [139, 140, 141, 142, 74088, 85088, 86088, 88088, 92088, 103088, 104088]) hF44 rfl)) (sg_F_m (L := [139, 140, 141, 142, 74088, 85088, 86088, 88088, 92088, 103088, 104088]) hF52 rfl)), w⟩
        have lp36 : ∀ (n40 : Nat) (v25 : Int) (v26 : Int) (σ27 : sg_S), sg_R v25 → sg_R v26 → sg_F [142, 92088, 103088, 104088] σ16 σ27 → I29 n40 v25 v26 σ27 → wx z 2 238 64 [(0, .inr (.inr (.ref 88))), (1, .inl (a1)), (2, .inl (a2)), (3, .inl (a3)), (4, .inl (v4)), (5, .inl ((sg_g σ 88 91))), (6, .inl (v25)), (7, .inl (v26))] [] σ27 (fun v σ' => ∃ q, v = some (.inl q) ∧ sg_R q ∧ sg_F [139, 140, 141, 142, 74088, 85088, 86088, 88088, 92088, 103088, 104088] σ σ' ∧ Q q σ') := by
          intro n40
          induction n40 using Nat.strongRecOn with
          | _ n40 ih34 =>
            intro v25 v26 σ27 r32 r33 hF28 w
            have w := w38 n40 v25 v26 σ27 r32 r33 hF28 w
            refine wk_b tt_238 2 (pc' := 67) (ls' := [(0, .inr (.inr (.ref 88))), (1, .inl (a1)), (2, .inl (a2)), (3, .inl (a3)), (4, .inl (v4)), (5, .inl ((sg_g σ 88 91))), (6, .inl (v25)), (7, .inl (v26))]) (st' := [.inl (a3), .inl (v26)]) (σ' := σ27) rfl ?_
            refine wk_if2 tt_238 (tgt := 246) rfl rfl r33 ra3 (fun (h56 : a3 ≤ v26) => ?_) (fun (h56 : v26 < a3) => ?_)
            ·
              have w := w.1 h56
              exact wk_ls [(0, .inr (.inr (.ref 88))), (2, .inl (a2)), (3, .inl (a3)), (4, .inl (v4)), (5, .inl ((sg_g σ 88 91)))] rfl ⟨rfl, rfl, rfl, rfl, rfl, trivial⟩ (ex41  σ27  (sg_F_t (sg_F_r [142, 92088, 103088, 104088] σ16) (sg_F_m (L := [142, 92088, 103088, 104088]) hF28 rfl)) w)
            ·
              have w := w.2 h56
              refine wk_b tt_238 4 (pc' := 76) (ls' := [(9, .inl (0)), (8, .inl (0)), (0, .inr (.inr (.ref 88))), (1, .inl (a1)), (2, .inl (a2)), (3, .inl (a3)), (4, .inl (v4)), (5, .inl ((sg_g σ 88 91))), (6, .inl (v25)), (7, .inl (v26))]) (st' := []) (σ' := σ27) rfl ?_
              obtain ⟨I62, X64, ⟨μ63, w71⟩, w72, w73⟩ := w
              have ex75 : ∀ (v57 : Int) (v58 : Int) (σ60 : sg_S), sg_R v57 → sg_R v58 → sg_F [142, 92088] σ27 σ60 → X64 v57 v58 σ60 → wx z 2 238 190 [(0, .inr (.inr (.ref 88))), (1, .inl (a1)), (2, .inl (a2)), (3, .inl (a3)), (4, .inl (v4)), (5, .inl ((sg_g σ 88 91))), (6, .inl (v57)), (7, .inl (v26)), (8, .inl (v58))] [] σ60 (fun v σ' => ∃ q, v = some (.inl q) ∧ sg_R q ∧ sg_F [139, 140, 141, 142, 74088, 85088, 86088, 88088, 92088, 103088, 104088] σ σ' ∧ Q q σ') := by
                intro v57 v58 σ60 r65 r66 hF61 w
                have w := w73 v57 v58 σ60 r65 r66 hF61 w
                refine wk_b tt_238 3 (pc' := 195) (ls' := [(0, .inr (.inr (.ref 88))), (1, .inl (a1)), (2, .inl (a2)), (3, .inl (a3)), (4, .inl (v4)), (5, .inl ((sg_g σ 88 91))), (6, .inl (v57)), (7, .inl (v26)), (8, .inl (v58))]) (st' := [.inl (a1), .inr (.inr (.ref 93))]) (σ' := σ60) rfl ?_
                refine wk_ia tt_238 rfl rfl c1.1 c1.2 ra1 ?_
                rw [show (sg_g σ60 93 (a1)) = (sg_g σ 93 (a1)) from by rw [sg_F_ga hF61 rfl, sg_F_ga hF28 rfl, sg_F_ga hF17 rfl]]
                refine wk_b tt_238 1 (pc' := 198) (ls' := [(0, .inr (.inr (.ref 88))), (1, .inl (a1)), (2, .inl (a2)), (3, .inl (a3)), (4, .inl (v4)), (5, .inl ((sg_g σ 88 91))), (6, .inl (v57)), (7, .inl (v26)), (8, .inl (v58))]) (st' := [.inl (19), .inl ((sg_g σ 93 (a1)))]) (σ' := σ60) rfl ?_
                obtain ⟨P78, w, w81⟩ := w
                have jn77 : ∀ (σ79 : sg_S), sg_F [103088, 104088] σ60 σ79 → P78 σ79 → wx z 2 238 229 [(0, .inr (.inr (.ref 88))), (1, .inl (a1)), (2, .inl (a2)), (3, .inl (a3)), (4, .inl (v4)), (5, .inl ((sg_g σ 88 91))), (6, .inl (v57)), (7, .inl (v26)), (8, .inl (v58))] [] σ79 (fun v σ' => ∃ q, v = some (.inl q) ∧ sg_R q ∧ sg_F [139, 140, 141, 142, 74088, 85088, 86088, 88088, 92088, 103088, 104088] σ σ' ∧ Q q σ') := by
                  intro σ79 hF80 w
                  have w := w81 σ79 hF80 w
                  refine wk_b tt_238 1 (pc' := 231) (ls' := [(0, .inr (.inr (.ref 88))), (1, .inl (a1)), (2, .inl (a2)), (3, .inl (a3)), (4, .inl (v4)), (5, .inl ((sg_g σ 88 91))), (6, .inl (v57)), (7, .inl (v26)), (8, .inl (v58))]) (st' := [.inl (v4)]) (σ' := σ79) rfl ?_
                  obtain ⟨P84, w, w87⟩ := w
                  have jn83 : ∀ (σ85 : sg_S), sg_F [142, 92088] σ79 σ85 → P84 σ85 → wx z 2 238 240 [(0, .inr (.inr (.ref 88))), (1, .inl (a1)), (2, .inl (a2)), (3, .inl (a3)), (4, .inl (v4)), (5, .inl ((sg_g σ 88 91))), (6, .inl (v57)), (7, .inl (v26))] [] σ85 (fun v σ' => ∃ q, v = some (.inl q) ∧ sg_R q ∧ sg_F [139, 140, 141, 142, 74088, 85088, 86088, 88088, 92088, 103088, 104088] σ σ' ∧ Q q σ') := by
                    intro σ85 hF86 w
                    have w := w87 σ85 hF86 w
                    obtain ⟨c88, w⟩ := w
                    refine wk_b tt_238 2 (pc' := 64) (ls' := [(7, .inl ((v26 + 1))), (0, .inr (.inr (.ref 88))), (1, .inl (a1)), (2, .inl (a2)), (3, .inl (a3)), (4, .inl (v4)), (5, .inl ((sg_g σ 88 91))), (6, .inl (v57))]) (st' := []) (σ' := σ85) rfl ?_
                    obtain ⟨m89, hm89, w⟩ := w
                    exact wk_ls [(0, .inr (.inr (.ref 88))), (1, .inl (a1)), (2, .inl (a2)), (3, .inl (a3)), (4, .inl (v4)), (5, .inl ((sg_g σ 88 91))), (6, .inl (v57)), (7, .inl ((v26 + 1)))] rfl ⟨rfl, rfl, rfl, rfl, rfl, rfl, rfl, rfl, trivial⟩ (ih34 m89 hm89 (v57) ((v26 + 1)) σ85 r65 c88 (sg_F_t (sg_F_t (sg_F_t (sg_F_t (sg_F_r [142, 92088, 103088, 104088] σ16) (sg_F_m (L := [142, 92088, 103088, 104088]) hF28 rfl)) (sg_F_m (L := [142, 92088, 103088, 104088]) hF61 rfl)) (sg_F_m (L := [142, 92088, 103088, 104088]) hF80 rfl)) (sg_F_m (L := [142, 92088, 103088, 104088]) hF86 rfl)) w)
                  refine wk_if tt_238 (tgt := 240) rfl rfl r5 (fun (h82 : ¬ v4 = 0) => ?_) (fun (h82 : v4 = 0) => ?_)
                  ·
                    have w := w.1 h82
                    exact wk_ls [(0, .inr (.inr (.ref 88))), (1, .inl (a1)), (2, .inl (a2)), (3, .inl (a3)), (4, .inl (v4)), (5, .inl ((sg_g σ 88 91))), (6, .inl (v57)), (7, .inl (v26))] rfl ⟨rfl, rfl, rfl, rfl, rfl, rfl, rfl, rfl, trivial⟩ (jn83 σ79 (sg_F_r [142, 92088] σ79) w)
                  ·
                    have w := w.2 h82
                    refine wk_b tt_238 2 (pc' := 237) (ls' := [(0, .inr (.inr (.ref 88))), (1, .inl (a1)), (2, .inl (a2)), (3, .inl (a3)), (4, .inl (v4)), (5, .inl ((sg_g σ 88 91))), (6, .inl (v57)), (7, .inl (v26)), (8, .inl (v58))]) (st' := [.inl (v58), .inr (.inr (.ref 88))]) (σ' := σ79) rfl ?_
                    refine wk_call tt_238 rfl rfl rfl rfl rfl tt_308 rfl (by decide) (w_put z σ79 (v58) _ r66 w) (fun u95 σ91 hq93 => ?_)
                    obtain ⟨rfl, hF92, w⟩ := hq93
                    have w := w hF92
                    exact wk_ls [(0, .inr (.inr (.ref 88))), (1, .inl (a1)), (2, .inl (a2)), (3, .inl (a3)), (4, .inl (v4)), (5, .inl ((sg_g σ 88 91))), (6, .inl (v57)), (7, .inl (v26))] rfl ⟨rfl, rfl, rfl, rfl, rfl, rfl, rfl, rfl, trivial⟩ (jn83 σ91 (sg_F_t (sg_F_r [142, 92088] σ79) (sg_F_m (L := [142, 92088]) hF92 rfl)) w)
                refine wk_if2 tt_238 (tgt := 212) rfl rfl (sg_Rg _ _ _) (by decide) (fun (h76 : (sg_g σ 93 (a1)) = 19) => ?_) (fun (h76 : ¬ (sg_g σ 93 (a1)) = 19) => ?_)
                ·
                  have w := w.1 h76
                  refine wk_b tt_238 3 (pc' := 216) (ls' := [(0, .inr (.inr (.ref 88))), (1, .inl (a1)), (2, .inl (a2)), (3, .inl (a3)), (4, .inl (v4)), (5, .inl ((sg_g σ 88 91))), (6, .inl (v57)), (7, .inl (v26)), (8, .inl (v58))]) (st' := [.inl (v26), .inl (a2), .inr (.inr (.ref 88))]) (σ' := σ60) rfl ?_
                  obtain ⟨c96, w⟩ := w
                  refine wk_callp tt_238 rfl rfl rfl rfl rfl tt_322 rfl (by decide) (w_rowAt z σ60 (a2) (v26) ra2 r33 c96) ?_
                  have r97 := vr_rowAt σ60  (a2) (v26) ra2 r33 c96
                  refine wk_if tt_238 (tgt := 229) rfl rfl r97 (fun (h98 : ¬ (v_rowAt σ60 (a2) (v26)) = 0) => ?_) (fun (h98 : (v_rowAt σ60 (a2) (v26)) = 0) => ?_)
                  ·
                    have w := w.1 h98
                    exact wk_ls [(0, .inr (.inr (.ref 88))), (1, .inl (a1)), (2, .inl (a2)), (3, .inl (a3)), (4, .inl (v4)), (5, .inl ((sg_g σ 88 91))), (6, .inl (v57)), (7, .inl (v26)), (8, .inl (v58))] rfl ⟨rfl, rfl, rfl, rfl, rfl, rfl, rfl, rfl, rfl, trivial⟩ (jn77 σ60 (sg_F_r [103088, 104088] σ60) w)
                  ·
                    have w := w.2 h98
                    refine wk_b tt_238 3 (pc' := 226) (ls' := [(0, .inr (.inr (.ref 88))), (1, .inl (a1)), (2, .inl (a2)), (3, .inl (a3)), (4, .inl (v4)), (5, .inl ((sg_g σ 88 91))), (6, .inl (v57)), (7, .inl (v26)), (8, .inl (v58))]) (st' := [.inl (4), .inl (v26), .inr (.inr (.ref 88))]) (σ' := σ60) rfl ?_
                    refine wk_call tt_238 rfl rfl rfl rfl rfl tt_276 rfl (by decide) (w_lacks z σ60 (v26) (4) _ r33 (by decide) w) (fun u104 σ100 hq102 => ?_)
                    obtain ⟨rfl, hF101, w⟩ := hq102
                    have w := w hF101
                    exact wk_ls [(0, .inr (.inr (.ref 88))), (1, .inl (a1)), (2, .inl (a2)), (3, .inl (a3)), (4, .inl (v4)), (5, .inl ((sg_g σ 88 91))), (6, .inl (v57)), (7, .inl (v26)), (8, .inl (v58))] rfl ⟨rfl, rfl, rfl, rfl, rfl, rfl, rfl, rfl, rfl, trivial⟩ (jn77 σ100 (sg_F_t (sg_F_r [103088, 104088] σ60) (sg_F_m (L := [103088, 104088]) hF101 rfl)) w)
                ·
                  have w := w.2 h76
                  refine wk_b tt_238 3 (pc' := 206) (ls' := [(0, .inr (.inr (.ref 88))), (1, .inl (a1)), (2, .inl (a2)), (3, .inl (a3)), (4, .inl (v4)), (5, .inl ((sg_g σ 88 91))), (6, .inl (v57)), (7, .inl (v26)), (8, .inl (v58))]) (st' := [.inl (a1), .inr (.inr (.ref 93))]) (σ' := σ60) rfl ?_
                  refine wk_ia tt_238 rfl rfl c1.1 c1.2 ra1 ?_
                  rw [show (sg_g σ60 93 (a1)) = (sg_g σ 93 (a1)) from by rw [sg_F_ga hF61 rfl, sg_F_ga hF28 rfl, sg_F_ga hF17 rfl]]
                  refine wk_b tt_238 1 (pc' := 209) (ls' := [(0, .inr (.inr (.ref 88))), (1, .inl (a1)), (2, .inl (a2)), (3, .inl (a3)), (4, .inl (v4)), (5, .inl ((sg_g σ 88 91))), (6, .inl (v57)), (7, .inl (v26)), (8, .inl (v58))]) (st' := [.inl (20), .inl ((sg_g σ 93 (a1)))]) (σ' := σ60) rfl ?_
                  refine wk_if2 tt_238 (tgt := 229) rfl rfl (sg_Rg _ _ _) (by decide) (fun (h105 : ¬ (sg_g σ 93 (a1)) = 20) => ?_) (fun (h105 : (sg_g σ 93 (a1)) = 20) => ?_)
                  ·
                    have w := w.1 h105
                    exact wk_ls [(0, .inr (.inr (.ref 88))), (1, .inl (a1)), (2, .inl (a2)), (3, .inl (a3)), (4, .inl (v4)), (5, .inl ((sg_g σ 88 91))), (6, .inl (v57)), (7, .inl (v26)), (8, .inl (v58))] rfl ⟨rfl, rfl, rfl, rfl, rfl, rfl, rfl, rfl, rfl, trivial⟩ (jn77 σ60 (sg_F_r [103088, 104088] σ60) w)
                  ·
                    have w := w.2 h105
                    refine wk_b tt_238 3 (pc' := 216) (ls' := [(0, .inr (.inr (.ref 88))), (1, .inl (a1)), (2, .inl (a2)), (3, .inl (a3)), (4, .inl (v4)), (5, .inl ((sg_g σ 88 91))), (6, .inl (v57)), (7, .inl (v26)), (8, .inl (v58))]) (st' := [.inl (v26), .inl (a2), .inr (.inr (.ref 88))]) (σ' := σ60) rfl ?_
                    obtain ⟨c106, w⟩ := w
                    refine wk_callp tt_238 rfl rfl rfl rfl rfl tt_322 rfl (by decide) (w_rowAt z σ60 (a2) (v26) ra2 r33 c106) ?_
                    have r107 := vr_rowAt σ60  (a2) (v26) ra2 r33 c106
                    refine wk_if tt_238 (tgt := 229) rfl rfl r107 (fun (h108 : ¬ (v_rowAt σ60 (a2) (v26)) = 0) => ?_) (fun (h108 : (v_rowAt σ60 (a2) (v26)) = 0) => ?_)
                    ·
                      have w := w.1 h108
                      exact wk_ls [(0, .inr (.inr (.ref 88))), (1, .inl (a1)), (2, .inl (a2)), (3, .inl (a3)), (4, .inl (v4)), (5, .inl ((sg_g σ 88 91))), (6, .inl (v57)), (7, .inl (v26)), (8, .inl (v58))] rfl ⟨rfl, rfl, rfl, rfl, rfl, rfl, rfl, rfl, rfl, trivial⟩ (jn77 σ60 (sg_F_r [103088, 104088] σ60) w)
                    ·
                      have w := w.2 h108
                      refine wk_b tt_238 3 (pc' := 226) (ls' := [(0, .inr (.inr (.ref 88))), (1, .inl (a1)), (2, .inl (a2)), (3, .inl (a3)), (4, .inl (v4)), (5, .inl ((sg_g σ 88 91))), (6, .inl (v57)), (7, .inl (v26)), (8, .inl (v58))]) (st' := [.inl (4), .inl (v26), .inr (.inr (.ref 88))]) (σ' := σ60) rfl ?_
                      refine wk_call tt_238 rfl rfl rfl rfl rfl tt_276 rfl (by decide) (w_lacks z σ60 (v26) (4) _ r33 (by decide) w) (fun u114 σ110 hq112 => ?_)
                      obtain ⟨rfl, hF111, w⟩ := hq112
                      have w := w hF111
                      exact wk_ls [(0, .inr (.inr (.ref 88))), (1, .inl (a1)), (2, .inl (a2)), (3, .inl (a3)), (4, .inl (v4)), (5, .inl ((sg_g σ 88 91))), (6, .inl (v57)), (7, .inl (v26)), (8, .inl (v58))] rfl ⟨rfl, rfl, rfl, rfl, rfl, rfl, rfl, rfl, rfl, trivial⟩ (jn77 σ110 (sg_F_t (sg_F_r [103088, 104088] σ60) (sg_F_m (L := [103088, 104088]) hF111 rfl)) w)
              have lp70 : ∀ (n74 : Nat) (v57 : Int) (v58 : Int) (v59 : Int) (σ60 : sg_S), sg_R v57 → sg_R v58 → sg_R v59 → sg_F [142, 92088] σ27 σ60 → I62 n74 v57 v58 v59 σ60 → wx z 2 238 76 [(0, .inr (.inr (.ref 88))), (1, .inl (a1)), (2, .inl (a2)), (3, .inl (a3)), (4, .inl (v4)), (5, .inl ((sg_g σ 88 91))), (6, .inl (v57)), (7, .inl (v26)), (8, .inl (v58)), (9, .inl (v59))] [] σ60 (fun v σ' => ∃ q, v = some (.inl q) ∧ sg_R q ∧ sg_F [139, 140, 141, 142, 74088, 85088, 86088, 88088, 92088, 103088, 104088] σ σ' ∧ Q q σ') := by
                intro n74
                induction n74 using Nat.strongRecOn with
                | _ n74 ih68 =>
                  intro v57 v58 v59 σ60 r65 r66 r67 hF61 w
                  have w := w72 n74 v57 v58 v59 σ60 r65 r66 r67 hF61 w
                  refine wk_b tt_238 4 (pc' := 82) (ls' := [(0, .inr (.inr (.ref 88))), (1, .inl (a1)), (2, .inl (a2)), (3, .inl (a3)), (4, .inl (v4)), (5, .inl ((sg_g σ 88 91))), (6, .inl (v57)), (7, .inl (v26)), (8, .inl (v58)), (9, .inl (v59))]) (st' := [.inl (v26), .inl (a2), .inr (.inr (.ref 88)), .inl (v59)]) (σ' := σ60) rfl ?_
                  obtain ⟨c115, w⟩ := w
                  refine wk_callp tt_238 rfl rfl rfl rfl rfl tt_322 rfl (by decide) (w_rowAt z σ60 (a2) (v26) ra2 r33 c115) ?_
                  have r116 := vr_rowAt σ60  (a2) (v26) ra2 r33 c115
                  refine wk_if2 tt_238 (tgt := 190) rfl rfl r67 r116 (fun (h117 : (v_rowAt σ60 (a2) (v26)) ≤ v59) => ?_) (fun (h117 : v59 < (v_rowAt σ60 (a2) (v26))) => ?_)
                  ·
                    have w := w.1 h117
                    exact wk_ls [(0, .inr (.inr (.ref 88))), (1, .inl (a1)), (2, .inl (a2)), (3, .inl (a3)), (4, .inl (v4)), (5, .inl ((sg_g σ 88 91))), (6, .inl (v57)), (7, .inl (v26)), (8, .inl (v58))] rfl ⟨rfl, rfl, rfl, rfl, rfl, rfl, rfl, rfl, rfl, trivial⟩ (ex75 (v57) (v58) σ60 r65 r66 (sg_F_t (sg_F_r [142, 92088] σ27) (sg_F_m (L := [142, 92088]) hF61 rfl)) w)
                  ·
                    have w := w.2 h117
                    refine wk_b tt_238 3 (pc' := 94) (ls' := [(0, .inr (.inr (.ref 88))), (1, .inl (a1)), (2, .inl (a2)), (3, .inl (a3)), (4, .inl (v4)), (5, .inl ((sg_g σ 88 91))), (6, .inl (v57)), (7, .inl (v26)), (8, .inl (v58)), (9, .inl (v59))]) (st' := [.inl (v57), .inr (.inr (.ref 142))]) (σ' := σ60) rfl ?_
                    obtain ⟨c118, w⟩ := w
                    refine wk_ia tt_238 rfl rfl c118.1 c118.2 r65 ?_
                    obtain ⟨c119, w⟩ := w
                    refine wk_b tt_238 3 (pc' := 102) (ls' := [(6, .inl ((v57 + 1))), (10, .inl ((sg_g σ60 142 (v57)))), (0, .inr (.inr (.ref 88))), (1, .inl (a1)), (2, .inl (a2)), (3, .inl (a3)), (4, .inl (v4)), (5, .inl ((sg_g σ 88 91))), (7, .inl (v26)), (8, .inl (v58)), (9, .inl (v59))]) (st' := [.inl (v4)]) (σ' := σ60) rfl ?_
                    obtain ⟨P122, w, w125⟩ := w
                    have jn121 : ∀ (σ123 : sg_S), sg_F [142, 92088] σ60 σ123 → P122 σ123 → wx z 2 238 111 [(0, .inr (.inr (.ref 88))), (1, .inl (a1)), (2, .inl (a2)), (3, .inl (a3)), (4, .inl (v4)), (5, .inl ((sg_g σ 88 91))), (6, .inl ((v57 + 1))), (7, .inl (v26)), (8, .inl (v58)), (9, .inl (v59)), (10, .inl ((sg_g σ60 142 (v57))))] [] σ123 (fun v σ' => ∃ q, v = some (.inl q) ∧ sg_R q ∧ sg_F [139, 140, 141, 142, 74088, 85088, 86088, 88088, 92088, 103088, 104088] σ σ' ∧ Q q σ') := by
                      intro σ123 hF124 w
                      have w := w125 σ123 hF124 w
                      refine wk_b tt_238 3 (pc' := 116) (ls' := [(0, .inr (.inr (.ref 88))), (1, .inl (a1)), (2, .inl (a2)), (3, .inl (a3)), (4, .inl (v4)), (5, .inl ((sg_g σ 88 91))), (6, .inl ((v57 + 1))), (7, .inl (v26)), (8, .inl (v58)), (9, .inl (v59)), (10, .inl ((sg_g σ60 142 (v57))))]) (st' := [.inl (a1), .inr (.inr (.ref 93))]) (σ' := σ123) rfl ?_
                      refine wk_ia tt_238 rfl rfl c1.1 c1.2 ra1 ?_
                      rw [show (sg_g σ123 93 (a1)) = (sg_g σ 93 (a1)) from by rw [sg_F_ga hF124 rfl, sg_F_ga hF61 rfl, sg_F_ga hF28 rfl, sg_F_ga hF17 rfl]]
                      refine wk_b tt_238 1 (pc' := 119) (ls' := [(0, .inr (.inr (.ref 88))), (1, .inl (a1)), (2, .inl (a2)), (3, .inl (a3)), (4, .inl (v4)), (5, .inl ((sg_g σ 88 91))), (6, .inl ((v57 + 1))), (7, .inl (v26)), (8, .inl (v58)), (9, .inl (v59)), (10, .inl ((sg_g σ60 142 (v57))))]) (st' := [.inl (19), .inl ((sg_g σ 93 (a1)))]) (σ' := σ123) rfl ?_
                      obtain ⟨wp, w⟩ := w
                      have jn127 : ∀ v128 : Int, v128 = (if ¬ (sg_g σ 93 (a1)) = 19 then (if ¬ (sg_g σ 93 (a1)) = 20 then (sg_n (v58 + (sg_g σ60 142 (v57)))) else (if v59 = 0 then (sg_g σ60 142 (v57)) else (if v58 ≤ (sg_g σ60 142 (v57)) then v58 else (sg_g σ60 142 (v57))))) else (if v59 = 0 then (sg_g σ60 142 (v57)) else (if (sg_g σ60 142 (v57)) ≤ v58 then v58 else (sg_g σ60 142 (v57))))) → sg_R v128 → wx z 2 238 182 [(0, .inr (.inr (.ref 88))), (1, .inl (a1)), (2, .inl (a2)), (3, .inl (a3)), (4, .inl (v4)), (5, .inl ((sg_g σ 88 91))), (6, .inl ((v57 + 1))), (7, .inl (v26)), (9, .inl (v59))] [.inl (v128)] σ123 (fun v σ' => ∃ q, v = some (.inl q) ∧ sg_R q ∧ sg_F [139, 140, 141, 142, 74088, 85088, 86088, 88088, 92088, 103088, 104088] σ σ' ∧ Q q σ') := by
                        intro v128 e130 r129
                        have w := w v128 e130 r129
                        obtain ⟨c131, w⟩ := w
                        refine wk_b tt_238 3 (pc' := 76) (ls' := [(9, .inl ((v59 + 1))), (8, .inl (v128)), (0, .inr (.inr (.ref 88))), (1, .inl (a1)), (2, .inl (a2)), (3, .inl (a3)), (4, .inl (v4)), (5, .inl ((sg_g σ 88 91))), (6, .inl ((v57 + 1))), (7, .inl (v26))]) (st' := []) (σ' := σ123) rfl ?_
                        obtain ⟨m132, hm132, w⟩ := w
                        exact wk_ls [(0, .inr (.inr (.ref 88))), (1, .inl (a1)), (2, .inl (a2)), (3, .inl (a3)), (4, .inl (v4)), (5, .inl ((sg_g σ 88 91))), (6, .inl ((v57 + 1))), (7, .inl (v26)), (8, .inl (v128)), (9, .inl ((v59 + 1)))] rfl ⟨rfl, rfl, rfl, rfl, rfl, rfl, rfl, rfl, rfl, rfl, trivial⟩ (ih68 m132 hm132 ((v57 + 1)) (v128) ((v59 + 1)) σ123 c119 r129 c131 (sg_F_t (sg_F_t (sg_F_r [142, 92088] σ27) (sg_F_m (L := [142, 92088]) hF61 rfl)) (sg_F_m (L := [142, 92088]) hF124 rfl)) w)
                      have w := wp
                      refine wk_if2 tt_238 (tgt := 144) rfl rfl (sg_Rg _ _ _) (by decide) (fun (h126 : ¬ (sg_g σ 93 (a1)) = 19) => ?_) (fun (h126 : (sg_g σ 93 (a1)) = 19) => ?_)
                      ·
                        have w := w.1 h126
                        refine wk_b tt_238 3 (pc' := 149) (ls' := [(0, .inr (.inr (.ref 88))), (1, .inl (a1)), (2, .inl (a2)), (3, .inl (a3)), (4, .inl (v4)), (5, .inl ((sg_g σ 88 91))), (6, .inl ((v57 + 1))), (7, .inl (v26)), (8, .inl (v58)), (9, .inl (v59)), (10, .inl ((sg_g σ60 142 (v57))))]) (st' := [.inl (a1), .inr (.inr (.ref 93))]) (σ' := σ123) rfl ?_
                        refine wk_ia tt_238 rfl rfl c1.1 c1.2 ra1 ?_
                        rw [show (sg_g σ123 93 (a1)) = (sg_g σ 93 (a1)) from by rw [sg_F_ga hF124 rfl, sg_F_ga hF61 rfl, sg_F_ga hF28 rfl, sg_F_ga hF17 rfl]]
                        refine wk_b tt_238 1 (pc' := 152) (ls' := [(0, .inr (.inr (.ref 88))), (1, .inl (a1)), (2, .inl (a2)), (3, .inl (a3)), (4, .inl (v4)), (5, .inl ((sg_g σ 88 91))), (6, .inl ((v57 + 1))), (7, .inl (v26)), (8, .inl (v58)), (9, .inl (v59)), (10, .inl ((sg_g σ60 142 (v57))))]) (st' := [.inl (20), .inl ((sg_g σ 93 (a1)))]) (σ' := σ123) rfl ?_
                        refine wk_if2 tt_238 (tgt := 177) rfl rfl (sg_Rg _ _ _) (by decide) (fun (h133 : ¬ (sg_g σ 93 (a1)) = 20) => ?_) (fun (h133 : (sg_g σ 93 (a1)) = 20) => ?_)
                        ·
                          have w := w.1 h133
                          refine wk_b tt_238 3 (pc' := 182) (ls' := [(0, .inr (.inr (.ref 88))), (1, .inl (a1)), (2, .inl (a2)), (3, .inl (a3)), (4, .inl (v4)), (5, .inl ((sg_g σ 88 91))), (6, .inl ((v57 + 1))), (7, .inl (v26)), (8, .inl (v58)), (9, .inl (v59)), (10, .inl ((sg_g σ60 142 (v57))))]) (st' := [.inl ((v58 + (sg_g σ60 142 (v57))))]) (σ' := σ123) rfl ?_
                          refine wk_n ?_
                          exact wk_ls [(0, .inr (.inr (.ref 88))), (1, .inl (a1)), (2, .inl (a2)), (3, .inl (a3)), (4, .inl (v4)), (5, .inl ((sg_g σ 88 91))), (6, .inl ((v57 + 1))), (7, .inl (v26)), (9, .inl (v59))] rfl ⟨rfl, rfl, rfl, rfl, rfl, rfl, rfl, rfl, rfl, trivial⟩ (jn127 ((sg_n (v58 + (sg_g σ60 142 (v57))))) (by simp only [if_pos h126, if_pos h133]) (sg_Rn _))
                        ·
                          have w := w.2 h133
                          refine wk_b tt_238 1 (pc' := 157) (ls' := [(0, .inr (.inr (.ref 88))), (1, .inl (a1)), (2, .inl (a2)), (3, .inl (a3)), (4, .inl (v4)), (5, .inl ((sg_g σ 88 91))), (6, .inl ((v57 + 1))), (7, .inl (v26)), (8, .inl (v58)), (9, .inl (v59)), (10, .inl ((sg_g σ60 142 (v57))))]) (st' := [.inl (v59)]) (σ' := σ123) rfl ?_
                          refine wk_if tt_238 (tgt := 167) rfl rfl r67 (fun (h134 : v59 = 0) => ?_) (fun (h134 : ¬ v59 = 0) => ?_)
                          ·
                            have w := w.1 h134
                            refine wk_b tt_238 2 (pc' := 182) (ls' := [(0, .inr (.inr (.ref 88))), (1, .inl (a1)), (2, .inl (a2)), (3, .inl (a3)), (4, .inl (v4)), (5, .inl ((sg_g σ 88 91))), (6, .inl ((v57 + 1))), (7, .inl (v26)), (8, .inl (v58)), (9, .inl (v59)), (10, .inl ((sg_g σ60 142 (v57))))]) (st' := [.inl ((sg_g σ60 142 (v57)))]) (σ' := σ123) rfl ?_
                            exact wk_ls [(0, .inr (.inr (.ref 88))), (1, .inl (a1)), (2, .inl (a2)), (3, .inl (a3)), (4, .inl (v4)), (5, .inl ((sg_g σ 88 91))), (6, .inl ((v57 + 1))), (7, .inl (v26)), (9, .inl (v59))] rfl ⟨rfl, rfl, rfl, rfl, rfl, rfl, rfl, rfl, rfl, trivial⟩ (jn127 ((sg_g σ60 142 (v57))) (by simp only [if_pos h126, if_neg (show ¬ (¬ (sg_g σ 93 (a1)) = 20) by omega), if_pos h134]) (sg_Rg _ _ _))
                          ·
                            have w := w.2 h134
                            refine wk_b tt_238 2 (pc' := 164) (ls' := [(0, .inr (.inr (.ref 88))), (1, .inl (a1)), (2, .inl (a2)), (3, .inl (a3)), (4, .inl (v4)), (5, .inl ((sg_g σ 88 91))), (6, .inl ((v57 + 1))), (7, .inl (v26)), (8, .inl (v58)), (9, .inl (v59)), (10, .inl ((sg_g σ60 142 (v57))))]) (st' := [.inl (v58), .inl ((sg_g σ60 142 (v57)))]) (σ' := σ123) rfl ?_
                            refine wk_if2 tt_238 (tgt := 172) rfl rfl (sg_Rg _ _ _) r66 (fun (h135 : v58 ≤ (sg_g σ60 142 (v57))) => ?_) (fun (h135 : (sg_g σ60 142 (v57)) < v58) => ?_)
                            ·
                              have w := w.1 h135
                              refine wk_b tt_238 2 (pc' := 182) (ls' := [(0, .inr (.inr (.ref 88))), (1, .inl (a1)), (2, .inl (a2)), (3, .inl (a3)), (4, .inl (v4)), (5, .inl ((sg_g σ 88 91))), (6, .inl ((v57 + 1))), (7, .inl (v26)), (8, .inl (v58)), (9, .inl (v59)), (10, .inl ((sg_g σ60 142 (v57))))]) (st' := [.inl (v58)]) (σ' := σ123) rfl ?_
                              exact wk_ls [(0, .inr (.inr (.ref 88))), (1, .inl (a1)), (2, .inl (a2)), (3, .inl (a3)), (4, .inl (v4)), (5, .inl ((sg_g σ 88 91))), (6, .inl ((v57 + 1))), (7, .inl (v26)), (9, .inl (v59))] rfl ⟨rfl, rfl, rfl, rfl, rfl, rfl, rfl, rfl, rfl, trivial⟩ (jn127 (v58) (by simp only [if_pos h126, if_neg (show ¬ (¬ (sg_g σ 93 (a1)) = 20) by omega), if_neg (show ¬ (v59 = 0) by omega), if_pos h135]) r66)
                            ·
                              have w := w.2 h135
                              refine wk_b tt_238 2 (pc' := 182) (ls' := [(0, .inr (.inr (.ref 88))), (1, .inl (a1)), (2, .inl (a2)), (3, .inl (a3)), (4, .inl (v4)), (5, .inl ((sg_g σ 88 91))), (6, .inl ((v57 + 1))), (7, .inl (v26)), (8, .inl (v58)), (9, .inl (v59)), (10, .inl ((sg_g σ60 142 (v57))))]) (st' := [.inl ((sg_g σ60 142 (v57)))]) (σ' := σ123) rfl ?_
                              exact wk_ls [(0, .inr (.inr (.ref 88))), (1, .inl (a1)), (2, .inl (a2)), (3, .inl (a3)), (4, .inl (v4)), (5, .inl ((sg_g σ 88 91))), (6, .inl ((v57 + 1))), (7, .inl (v26)), (9, .inl (v59))] rfl ⟨rfl, rfl, rfl, rfl, rfl, rfl, rfl, rfl, rfl, trivial⟩ (jn127 ((sg_g σ60 142 (v57))) (by simp only [if_pos h126, if_neg (show ¬ (¬ (sg_g σ 93 (a1)) = 20) by omega), if_neg (show ¬ (v59 = 0) by omega), if_neg (show ¬ (v58 ≤ (sg_g σ60 142 (v57))) by omega)]) (sg_Rg _ _ _))
                      ·
                        have w := w.2 h126
                        refine wk_b tt_238 1 (pc' := 124) (ls' := [(0, .inr (.inr (.ref 88))), (1, .inl (a1)), (2, .inl (a2)), (3, .inl (a3)), (4, .inl (v4)), (5, .inl ((sg_g σ 88 91))), (6, .inl ((v57 + 1))), (7, .inl (v26)), (8, .inl (v58)), (9, .inl (v59)), (10, .inl ((sg_g σ60 142 (v57))))]) (st' := [.inl (v59)]) (σ' := σ123) rfl ?_
                        refine wk_if tt_238 (tgt := 134) rfl rfl r67 (fun (h136 : v59 = 0) => ?_) (fun (h136 : ¬ v59 = 0) => ?_)
                        ·
                          have w := w.1 h136
                          refine wk_b tt_238 2 (pc' := 182) (ls' := [(0, .inr (.inr (.ref 88))), (1, .inl (a1)), (2, .inl (a2)), (3, .inl (a3)), (4, .inl (v4)), (5, .inl ((sg_g σ 88 91))), (6, .inl ((v57 + 1))), (7, .inl (v26)), (8, .inl (v58)), (9, .inl (v59)), (10, .inl ((sg_g σ60 142 (v57))))]) (st' := [.inl ((sg_g σ60 142 (v57)))]) (σ' := σ123) rfl ?_
                          exact wk_ls [(0, .inr (.inr (.ref 88))), (1, .inl (a1)), (2, .inl (a2)), (3, .inl (a3)), (4, .inl (v4)), (5, .inl ((sg_g σ 88 91))), (6, .inl ((v57 + 1))), (7, .inl (v26)), (9, .inl (v59))] rfl ⟨rfl, rfl, rfl, rfl, rfl, rfl, rfl, rfl, rfl, trivial⟩ (jn127 ((sg_g σ60 142 (v57))) (by simp only [if_neg (show ¬ (¬ (sg_g σ 93 (a1)) = 19) by omega), if_pos h136]) (sg_Rg _ _ _))
                        ·
                          have w := w.2 h136
                          refine wk_b tt_238 2 (pc' := 131) (ls' := [(0, .inr (.inr (.ref 88))), (1, .inl (a1)), (2, .inl (a2)), (3, .inl (a3)), (4, .inl (v4)), (5, .inl ((sg_g σ 88 91))), (6, .inl ((v57 + 1))), (7, .inl (v26)), (8, .inl (v58)), (9, .inl (v59)), (10, .inl ((sg_g σ60 142 (v57))))]) (st' := [.inl (v58), .inl ((sg_g σ60 142 (v57)))]) (σ' := σ123) rfl ?_
                          refine wk_if2 tt_238 (tgt := 139) rfl rfl (sg_Rg _ _ _) r66 (fun (h137 : (sg_g σ60 142 (v57)) ≤ v58) => ?_) (fun (h137 : v58 < (sg_g σ60 142 (v57))) => ?_)
                          ·
                            have w := w.1 h137
                            refine wk_b tt_238 2 (pc' := 182) (ls' := [(0, .inr (.inr (.ref 88))), (1, .inl (a1)), (2, .inl (a2)), (3, .inl (a3)), (4, .inl (v4)), (5, .inl ((sg_g σ 88 91))), (6, .inl ((v57 + 1))), (7, .inl (v26)), (8, .inl (v58)), (9, .inl (v59)), (10, .inl ((sg_g σ60 142 (v57))))]) (st' := [.inl (v58)]) (σ' := σ123) rfl ?_
                            exact wk_ls [(0, .inr (.inr (.ref 88))), (1, .inl (a1)), (2, .inl (a2)), (3, .inl (a3)), (4, .inl (v4)), (5, .inl ((sg_g σ 88 91))), (6, .inl ((v57 + 1))), (7, .inl (v26)), (9, .inl (v59))] rfl ⟨rfl, rfl, rfl, rfl, rfl, rfl, rfl, rfl, rfl, trivial⟩ (jn127 (v58) (by simp only [if_neg (show ¬ (¬ (sg_g σ 93 (a1)) = 19) by omega), if_neg (show ¬ (v59 = 0) by omega), if_pos h137]) r66)
                          ·
                            have w := w.2 h137
                            refine wk_b tt_238 2 (pc' := 182) (ls' := [(0, .inr (.inr (.ref 88))), (1, .inl (a1)), (2, .inl (a2)), (3, .inl (a3)), (4, .inl (v4)), (5, .inl ((sg_g σ 88 91))), (6, .inl ((v57 + 1))), (7, .inl (v26)), (8, .inl (v58)), (9, .inl (v59)), (10, .inl ((sg_g σ60 142 (v57))))]) (st' := [.inl ((sg_g σ60 142 (v57)))]) (σ' := σ123) rfl ?_
                            exact wk_ls [(0, .inr (.inr (.ref 88))), (1, .inl (a1)), (2, .inl (a2)), (3, .inl (a3)), (4, .inl (v4)), (5, .inl ((sg_g σ 88 91))), (6, .inl ((v57 + 1))), (7, .inl (v26)), (9, .inl (v59))] rfl ⟨rfl, rfl, rfl, rfl, rfl, rfl, rfl, rfl, rfl, trivial⟩ (jn127 ((sg_g σ60 142 (v57))) (by simp only [if_neg (show ¬ (¬ (sg_g σ 93 (a1)) = 19) by omega), if_neg (show ¬ (v59 = 0) by omega), if_neg (show ¬ ((sg_g σ60 142 (v57)) ≤ v58) by omega)]) (sg_Rg _ _ _))
                    refine wk_if tt_238 (tgt := 111) rfl rfl r5 (fun (h120 : v4 = 0) => ?_) (fun (h120 : ¬ v4 = 0) => ?_)
                    ·
                      have w := w.1 h120
                      exact wk_ls [(0, .inr (.inr (.ref 88))), (1, .inl (a1)), (2, .inl (a2)), (3, .inl (a3)), (4, .inl (v4)), (5, .inl ((sg_g σ 88 91))), (6, .inl ((v57 + 1))), (7, .inl (v26)), (8, .inl (v58)), (9, .inl (v59)), (10, .inl ((sg_g σ60 142 (v57))))] rfl ⟨rfl, rfl, rfl, rfl, rfl, rfl, rfl, rfl, rfl, rfl, rfl, trivial⟩ (jn121 σ60 (sg_F_r [142, 92088] σ60) w)
                    ·
                      have w := w.2 h120
                      refine wk_b tt_238 2 (pc' := 108) (ls' := [(6, .inl ((v57 + 1))), (10, .inl ((sg_g σ60 142 (v57)))), (0, .inr (.inr (.ref 88))), (1, .inl (a1)), (2, .inl (a2)), (3, .inl (a3)), (4, .inl (v4)), (5, .inl ((sg_g σ 88 91))), (7, .inl (v26)), (8, .inl (v58)), (9, .inl (v59))]) (st' := [.inl (v58), .inr (.inr (.ref 88))]) (σ' := σ60) rfl ?_
                      refine wk_call tt_238 rfl rfl rfl rfl rfl tt_308 rfl (by decide) (w_put z σ60 (v58) _ r66 w) (fun u143 σ139 hq141 => ?_)
                      obtain ⟨rfl, hF140, w⟩ := hq141
                      have w := w hF140
                      exact wk_ls [(0, .inr (.inr (.ref 88))), (1, .inl (a1)), (2, .inl (a2)), (3, .inl (a3)), (4, .inl (v4)), (5, .inl ((sg_g σ 88 91))), (6, .inl ((v57 + 1))), (7, .inl (v26)), (8, .inl (v58)), (9, .inl (v59)), (10, .inl ((sg_g σ60 142 (v57))))] rfl ⟨rfl, rfl, rfl, rfl, rfl, rfl, rfl, rfl, rfl, rfl, rfl, trivial⟩ (jn121 σ139 (sg_F_t (sg_F_r [142, 92088] σ60) (sg_F_m (L := [142, 92088]) hF140 rfl)) w)
              exact wk_ls [(0, .inr (.inr (.ref 88))), (1, .inl (a1)), (2, .inl (a2)), (3, .inl (a3)), (4, .inl (v4)), (5, .inl ((sg_g σ 88 91))), (6, .inl (v25)), (7, .inl (v26)), (8, .inl (0)), (9, .inl (0))] rfl ⟨rfl, rfl, rfl, rfl, rfl, rfl, rfl, rfl, rfl, rfl, trivial⟩ (lp70 μ63 (v25) (0) (0) σ27 r32 (by decide) (by decide) (sg_F_r _ _) w71)
        exact wk_ls [(0, .inr (.inr (.ref 88))), (1, .inl (a1)), (2, .inl (a2)), (3, .inl (a3)), (4, .inl (v4)), (5, .inl ((sg_g σ 88 91))), (6, .inl ((sg_g σ 140 (((4 * a2) + 1))))), (7, .inl (0))] rfl ⟨rfl, rfl, rfl, rfl, rfl, rfl, rfl, rfl, trivial⟩ (lp36 μ30 ((sg_g σ 140 (((4 * a2) + 1)))) (0) σ16 (sg_Rg _ _ _) (by decide) (sg_F_r _ _) w37)
      ·
        have w := w.2 h21
        refine wk_b tt_238 1 (pc' := 42) (ls' := [(0, .inr (.inr (.ref 88))), (1, .inl (a1)), (2, .inl (a2)), (3, .inl (a3)), (4, .inl (v4))]) (st' := [.inl (0)]) (σ' := σ16) rfl ?_
        exact wk_rI tt_238 rfl rfl ⟨_, rfl, (by decide), (sg_F_t (sg_F_r [139, 140, 141, 142, 74088, 85088, 86088, 88088, 92088, 103088, 104088] σ) (sg_F_m (L := [139, 140, 141, 142, 74088, 85088, 86088, 88088, 92088, 103088, 104088]) hF17 rfl)), w⟩
    refine wk_if tt_238 (tgt := 33) rfl rfl r5 (fun (h7 : v4 = 0) => ?_) (fun (h7 : ¬ v4 = 0) => ?_)
    ·
      have w := w.1 h7
      refine wk_b tt_238 2 (pc' := 35) (ls' := [(4, .inl (v4)), (0, .inr (.inr (.ref 88))), (1, .inl (a1)), (2, .inl (a2)), (3, .inl (a3))]) (st' := [.inr (.inl ((sg_n (a3)))), .inr (.inr (.ref 88))]) (σ' := σ) rfl ?_
      rw [show (sg_n (a3)) = a3 from by rw [sg_id ra3]]
      exact wk_ls [(0, .inr (.inr (.ref 88))), (1, .inl (a1)), (2, .inl (a2)), (3, .inl (a3)), (4, .inl (v4))] rfl ⟨rfl, rfl, rfl, rfl, rfl, trivial⟩ (jn8 (a3) (sg_Rgl2 ra3) w)
    ·
      have w := w.2 h7
      refine wk_b tt_238 2 (pc' := 26) (ls' := [(4, .inl (v4)), (0, .inr (.inr (.ref 88))), (1, .inl (a1)), (2, .inl (a2)), (3, .inl (a3))]) (st' := [.inl (a2), .inr (.inr (.ref 88)), .inr (.inr (.ref 88))]) (σ' := σ) rfl ?_
      refine wk_call tt_238 rfl rfl rfl rfl rfl tt_226 rfl (by decide) (w_extentOf z σ (a2) _ ra2 w) (fun u149 σ145 hq147 => ?_)
      obtain ⟨q144, rfl, r148, rfl, w⟩ := hq147
      have w := w r148
      refine wk_b tt_238 2 (pc' := 35) (ls' := [(4, .inl (v4)), (0, .inr (.inr (.ref 88))), (1, .inl (a1)), (2, .inl (a2)), (3, .inl (a3))]) (st' := [.inr (.inl ((sg_n (q144)))), .inr (.inr (.ref 88))]) (σ' := σ) rfl ?_
      rw [show (sg_n (q144)) = q144 from by rw [sg_id r148]]
      exact wk_ls [(0, .inr (.inr (.ref 88))), (1, .inl (a1)), (2, .inl (a2)), (3, .inl (a3)), (4, .inl (v4))] rfl ⟨rfl, rfl, rfl, rfl, rfl, trivial⟩ (jn8 (q144) (sg_Rgl2 r148) w)
  refine wk_if2 tt_238 (tgt := 15) rfl rfl (sg_Rg _ _ _) (by decide) (fun (h2 : ¬ (sg_g σ 93 (a1)) = 21) => ?_) (fun (h2 : (sg_g σ 93 (a1)) = 21) => ?_)
  ·
    clear w
    refine wk_b tt_238 1 (pc' := 16) (ls' := [(0, .inr (.inr (.ref 88))), (1, .inl (a1)), (2, .inl (a2)), (3, .inl (a3))]) (st' := [.inl (0)]) (σ' := σ) rfl ?_
    exact wk_ls [(0, .inr (.inr (.ref 88))), (1, .inl (a1)), (2, .inl (a2)), (3, .inl (a3))] rfl ⟨rfl, rfl, rfl, rfl, trivial⟩ (jn3 (0) (by simp only [if_pos h2]) (by decide))
  ·
    clear w
    refine wk_b tt_238 2 (pc' := 16) (ls' := [(0, .inr (.inr (.ref 88))), (1, .inl (a1)), (2, .inl (a2)), (3, .inl (a3))]) (st' := [.inl (1)]) (σ' := σ) rfl ?_
    exact wk_ls [(0, .inr (.inr (.ref 88))), (1, .inl (a1)), (2, .inl (a2)), (3, .inl (a3))] rfl ⟨rfl, rfl, rfl, rfl, trivial⟩ (jn3 (1) (by simp only [if_neg (show ¬ (¬ (sg_g σ 93 (a1)) = 21) by omega)]) (by decide))
-- NestedVectorsModel.flatWorked
def V_flatWorked_18 (σ : sg_S) (b1 : Int) (b3 : Int) (b4 : Int) (Q : Int → sg_S → Prop) : Prop := V_flatGone σ (b1) (b4) (b3) (fun q1 σ2 => sg_R q1 → sg_F [139, 140, 141, 142, 74088, 85088, 86088, 88088, 92088, 103088, 104088] σ σ2 → Q (q1) σ2)
set_option maxHeartbeats 4000000 in
set_option maxRecDepth 8000 in
theorem w_flatWorked_18 (z : Value) (σ : sg_S) (b1 : Int) (b3 : Int) (b4 : Int) (Q : Int → sg_S → Prop) (rb1 : sg_R b1) (rb3 : sg_R b3) (rb4 : sg_R b4) (w : V_flatWorked_18 σ b1 b3 b4 Q) : wx z 3 246 289 [(0, .inr (.inr (.ref 88))), (1, .inl (b1)), (3, .inl (b3)), (4, .inl (b4))] [] σ (fun v σ' => ∃ q, v = some (.inl q) ∧ sg_R q ∧ sg_F [139, 140, 141, 142, 74088, 85088, 86088, 88088, 92088, 103088, 104088] σ σ' ∧ Q q σ') := by
  unfold V_flatWorked_18 at w
  refine wk_b tt_246 4 (pc' := 294) (ls' := [(0, .inr (.inr (.ref 88))), (1, .inl (b1)), (3, .inl (b3)), (4, .inl (b4))]) (st' := [.inl (b3), .inl (b4), .inl (b1), .inr (.inr (.ref 88))]) (σ' := σ) rfl ?_
  refine wk_call tt_246 rfl rfl rfl rfl rfl tt_238 rfl (by decide) (w_flatGone z σ (b1) (b4) (b3) _ rb1 rb4 rb3 w) (fun u6 σ2 hq4 => ?_)
  obtain ⟨q1, rfl, r5, hF3, w⟩ := hq4
  have w := w r5 hF3
  exact wk_rI tt_246 rfl rfl ⟨_, rfl, r5, (sg_F_t (sg_F_r [139, 140, 141, 142, 74088, 85088, 86088, 88088, 92088, 103088, 104088] σ) (sg_F_m (L := [139, 140, 141, 142, 74088, 85088, 86088, 88088, 92088, 103088, 104088]) hF3 rfl)), w⟩
-- NestedVectorsModel.flatRev
def V_flatRev (σ : sg_S) (a1 : Int) (a2 : Int) (Q : Int → sg_S → Prop) : Prop := V_extentOf σ (a1) (fun q1 _ => sg_R q1 → V_stepped σ (q1) (fun q7 σ8 => (q7 = 0 ∨ q7 = 1) → sg_F [74088, 85088, 86088] σ σ8 → ((¬ q7 = 0 → ∀ σ14, σ14 = (sg_w σ8 88 93 (0)) → (∃ (I21 : Nat → Int → Int → sg_S → Prop) (X23 : sg_S → Prop), (∃ n, I21 n (0) (0) σ14) ∧ (∀ (n32 : Nat) (v17 : Int) (v18 : Int) (σ19 : sg_S), sg_R v17 → sg_R v18 → sg_F [143, 94088] σ14 σ19 → I21 n32 v17 v18 σ19 → ((a2 ≤ v18 → X23 σ19) ∧ (v18 < a2 → p_rowAt σ (a1) (v18) ∧ sg_R ((v_rowAt σ (a1) (v18)) - 1) ∧ (∃ (I61 : Nat → Int → sg_S → Prop) (X63 : sg_S → Prop), (∃ n, I61 n (((v_rowAt σ (a1) (v18)) - 1)) σ19) ∧ (∀ (n71 : Nat) (v58 : Int) (σ59 : sg_S), sg_R v58 → sg_F [143, 94088] σ19 σ59 → I61 n71 v58 σ59 → ((v58 < 0 → X63 σ59) ∧ (0 ≤ v58 → sg_R (v17 + v58) ∧ V_list σ59 ((v17 + v58)) (fun σ81 => sg_F [143, 94088] σ59 σ81 → sg_R (v58 + (-1)) ∧ (∃ m, m < n71 ∧ I61 m ((v58 + (-1))) σ81))))) ∧ (∀ (σ59 : sg_S), sg_F [143, 94088] σ19 σ59 → X63 σ59 → p_rowAt σ (a1) (v18) ∧ sg_R (v17 + (v_rowAt σ (a1) (v18))) ∧ sg_R (v18 + 1) ∧ (∃ m, m < n32 ∧ I21 m ((v17 + (v_rowAt σ (a1) (v18)))) ((v18 + 1)) σ59)))))) ∧ (∀ (σ19 : sg_S), sg_F [143, 94088] σ14 σ19 → X23 σ19 → V_inner σ19 (a1) (fun q34 σ35 => sg_R q34 → sg_F [139, 140, 141, 88088] σ19 σ35 → V_gathered σ35 (q34) (fun q40 σ41 => sg_R q40 → sg_F [139, 140, 141, 142, 144, 88088, 92088] σ35 σ41 → sg_R (4 * a1) ∧ (0 ≤ (4 * a1) ∧ (4 * a1) < 120000) ∧ V_outer σ41 ((sg_g σ41 140 ((4 * a1)))) (a2) (q40) (fun q48 σ49 => sg_R q48 → sg_F [139, 140, 141, 88088] σ41 σ49 → Q (q48) σ49)))))) ∧ (q7 = 0 → Q (0) σ8))))
set_option maxHeartbeats 4000000 in
set_option maxRecDepth 8000 in
theorem w_flatRev (z : Value) (σ : sg_S) (a1 : Int) (a2 : Int) (Q : Int → sg_S → Prop) (ra1 : sg_R a1) (ra2 : sg_R a2) (w : V_flatRev σ a1 a2 Q) : wx z 3 244 0 [(0, .inr (.inr (.ref 88))), (1, .inl (a1)), (2, .inl (a2))] [] σ (fun v σ' => ∃ q, v = some (.inl q) ∧ sg_R q ∧ sg_F [139, 140, 141, 142, 143, 144, 74088, 85088, 86088, 88088, 92088, 94088] σ σ' ∧ Q q σ') := by
  unfold V_flatRev at w
  refine wk_b tt_244 3 (pc' := 3) (ls' := [(0, .inr (.inr (.ref 88))), (1, .inl (a1)), (2, .inl (a2))]) (st' := [.inl (a1), .inr (.inr (.ref 88)), .inr (.inr (.ref 88))]) (σ' := σ) rfl ?_
  refine wk_call tt_244 rfl rfl rfl rfl rfl tt_226 rfl (by decide) (w_extentOf z σ (a1) _ ra1 w) (fun u6 σ2 hq4 => ?_)
  obtain ⟨q1, rfl, r5, rfl, w⟩ := hq4
  have w := w r5
  refine wk_b tt_244 1 (pc' := 7) (ls' := [(0, .inr (.inr (.ref 88))), (1, .inl (a1)), (2, .inl (a2))]) (st' := [.inr (.inl ((sg_n (q1)))), .inr (.inr (.ref 88))]) (σ' := σ) rfl ?_
  rw [show (sg_n (q1)) = q1 from by rw [sg_id r5]]
  refine wk_call tt_244 rfl rfl rfl rfl rfl tt_329 rfl (by decide) (w_stepped z σ (q1) _ (sg_Rgl2 r5) w) (fun u12 σ8 hq10 => ?_)
  obtain ⟨q7, rfl, r11, hF9, w⟩ := hq10
  have w := w r11 hF9
  refine wk_if tt_244 (tgt := 15) rfl rfl (sg_Rz r11) (fun (h13 : ¬ q7 = 0) => ?_) (fun (h13 : q7 = 0) => ?_)
  ·
    have w := w.1 h13
    refine wk_b tt_244 5 (pc' := 22) (ls' := [(3, .inl (0)), (0, .inr (.inr (.ref 88))), (1, .inl (a1)), (2, .inl (a2))]) (st' := []) (σ' := (sg_w σ8 88 93 (0))) rfl ?_
    generalize hs15 : (sg_w σ8 88 93 (0)) = σ14
    have w := w σ14 hs15.symm
    have hF16 : sg_F [94088] σ8 σ14 := by rw [← hs15]; exact sg_F_w (sg_F_r _ _) rfl _
    refine wk_b tt_244 2 (pc' := 25) (ls' := [(4, .inl (0)), (3, .inl (0)), (0, .inr (.inr (.ref 88))), (1, .inl (a1)), (2, .inl (a2))]) (st' := []) (σ' := σ14) rfl ?_
    obtain ⟨I21, X23, ⟨μ22, w29⟩, w30, w31⟩ := w
    have ex33 : ∀ (σ19 : sg_S), sg_F [143, 94088] σ14 σ19 → X23 σ19 → wx z 3 244 77 [(0, .inr (.inr (.ref 88))), (1, .inl (a1)), (2, .inl (a2))] [] σ19 (fun v σ' => ∃ q, v = some (.inl q) ∧ sg_R q ∧ sg_F [139, 140, 141, 142, 143, 144, 74088, 85088, 86088, 88088, 92088, 94088] σ σ' ∧ Q q σ') := by
      intro σ19 hF20 w
      have w := w31 σ19 hF20 w
      refine wk_b tt_244 3 (pc' := 80) (ls' := [(0, .inr (.inr (.ref 88))), (1, .inl (a1)), (2, .inl (a2))]) (st' := [.inl (a1), .inr (.inr (.ref 88)), .inr (.inr (.ref 88))]) (σ' := σ19) rfl ?_
      refine wk_call tt_244 rfl rfl rfl rfl rfl tt_259 rfl (by decide) (w_inner z σ19 (a1) _ ra1 w) (fun u39 σ35 hq37 => ?_)
      obtain ⟨q34, rfl, r38, hF36, w⟩ := hq37
      have w := w r38 hF36
      refine wk_call tt_244 rfl rfl rfl rfl rfl tt_249 rfl (by decide) (w_gathered z σ35 (q34) _ r38 w) (fun u45 σ41 hq43 => ?_)
      obtain ⟨q40, rfl, r44, hF42, w⟩ := hq43
      have w := w r44 hF42
      obtain ⟨c46, w⟩ := w
      refine wk_b tt_244 7 (pc' := 96) (ls' := [(4, .inl (q40)), (0, .inr (.inr (.ref 88))), (1, .inl (a1)), (2, .inl (a2))]) (st' := [.inl ((4 * a1)), .inr (.inr (.ref 140)), .inr (.inr (.ref 88))]) (σ' := σ41) rfl ?_
      obtain ⟨c47, w⟩ := w
      refine wk_ia tt_244 rfl rfl c47.1 c47.2 c46 ?_
      refine wk_b tt_244 2 (pc' := 100) (ls' := [(4, .inl (q40)), (0, .inr (.inr (.ref 88))), (1, .inl (a1)), (2, .inl (a2))]) (st' := [.inl (q40), .inl (a2), .inl ((sg_g σ41 140 ((4 * a1)))), .inr (.inr (.ref 88))]) (σ' := σ41) rfl ?_
      refine wk_call tt_244 rfl rfl rfl rfl rfl tt_300 rfl (by decide) (w_outer z σ41 ((sg_g σ41 140 ((4 * a1)))) (a2) (q40) _ (sg_Rg _ _ _) ra2 r44 w) (fun u53 σ49 hq51 => ?_)
      obtain ⟨q48, rfl, r52, hF50, w⟩ := hq51
      have w := w r52 hF50
      exact wk_rI tt_244 rfl rfl ⟨_, rfl, r52, (sg_F_t (sg_F_t (sg_F_t (sg_F_t (sg_F_t (sg_F_t (sg_F_r [139, 140, 141, 142, 143, 144, 74088, 85088, 86088, 88088, 92088, 94088] σ) (sg_F_m (L := [139, 140, 141, 142, 143, 144, 74088, 85088, 86088, 88088, 92088, 94088]) hF9 rfl)) (sg_F_m (L := [139, 140, 141, 142, 143, 144, 74088, 85088, 86088, 88088, 92088, 94088]) hF16 rfl)) (sg_F_m (L := [139, 140, 141, 142, 143, 144, 74088, 85088, 86088, 88088, 92088, 94088]) hF20 rfl)) (sg_F_m (L := [139, 140, 141, 142, 143, 144, 74088, 85088, 86088, 88088, 92088, 94088]) hF36 rfl)) (sg_F_m (L := [139, 140, 141, 142, 143, 144, 74088, 85088, 86088, 88088, 92088, 94088]) hF42 rfl)) (sg_F_m (L := [139, 140, 141, 142, 143, 144, 74088, 85088, 86088, 88088, 92088, 94088]) hF50 rfl)), w⟩
    have lp28 : ∀ (n32 : Nat) (v17 : Int) (v18 : Int) (σ19 : sg_S), sg_R v17 → sg_R v18 → sg_F [143, 94088] σ14 σ19 → I21 n32 v17 v18 σ19 → wx z 3 244 25 [(0, .inr (.inr (.ref 88))), (1, .inl (a1)), (2, .inl (a2)), (3, .inl (v17)), (4, .inl (v18))] [] σ19 (fun v σ' => ∃ q, v = some (.inl q) ∧ sg_R q ∧ sg_F [139, 140, 141, 142, 143, 144, 74088, 85088, 86088, 88088, 92088, 94088] σ σ' ∧ Q q σ') := by
      intro n32
      induction n32 using Nat.strongRecOn with
      | _ n32 ih26 =>
        intro v17 v18 σ19 r24 r25 hF20 w
        have w := w30 n32 v17 v18 σ19 r24 r25 hF20 w
        refine wk_b tt_244 2 (pc' := 28) (ls' := [(0, .inr (.inr (.ref 88))), (1, .inl (a1)), (2, .inl (a2)), (3, .inl (v17)), (4, .inl (v18))]) (st' := [.inl (a2), .inl (v18)]) (σ' := σ19) rfl ?_
        refine wk_if2 tt_244 (tgt := 77) rfl rfl r25 ra2 (fun (h54 : a2 ≤ v18) => ?_) (fun (h54 : v18 < a2) => ?_)
        ·
          have w := w.1 h54
          exact wk_ls [(0, .inr (.inr (.ref 88))), (1, .inl (a1)), (2, .inl (a2))] rfl ⟨rfl, rfl, rfl, trivial⟩ (ex33  σ19  (sg_F_t (sg_F_r [143, 94088] σ14) (sg_F_m (L := [143, 94088]) hF20 rfl)) w)
        ·
          have w := w.2 h54
          refine wk_b tt_244 3 (pc' := 35) (ls' := [(0, .inr (.inr (.ref 88))), (1, .inl (a1)), (2, .inl (a2)), (3, .inl (v17)), (4, .inl (v18))]) (st' := [.inl (v18), .inl (a1), .inr (.inr (.ref 88))]) (σ' := σ19) rfl ?_
          obtain ⟨c55, w⟩ := w
          have c55 : p_rowAt σ19 (a1) (v18) := by
            rw [pF_rowAt hF20 rfl rfl, pF_rowAt hF16 rfl rfl, pF_rowAt hF9 rfl rfl]; exact c55
          refine wk_callp tt_244 rfl rfl rfl rfl rfl tt_322 rfl (by decide) (w_rowAt z σ19 (a1) (v18) ra1 r25 c55) ?_
          rw [vF_rowAt hF20 rfl rfl, vF_rowAt hF16 rfl rfl, vF_rowAt hF9 rfl rfl]
          have r56 := vr_rowAt σ  (a1) (v18) ra1 r25 (by have q := c55; rw [pF_rowAt hF20 rfl rfl, pF_rowAt hF16 rfl rfl, pF_rowAt hF9 rfl rfl] at q; exact q)
          obtain ⟨c57, w⟩ := w
          refine wk_b tt_244 3 (pc' := 42) (ls' := [(5, .inl (((v_rowAt σ (a1) (v18)) - 1))), (0, .inr (.inr (.ref 88))), (1, .inl (a1)), (2, .inl (a2)), (3, .inl (v17)), (4, .inl (v18))]) (st' := []) (σ' := σ19) rfl ?_
          obtain ⟨I61, X63, ⟨μ62, w68⟩, w69, w70⟩ := w
          have ex72 : ∀ (σ59 : sg_S), sg_F [143, 94088] σ19 σ59 → X63 σ59 → wx z 3 244 61 [(0, .inr (.inr (.ref 88))), (1, .inl (a1)), (2, .inl (a2)), (3, .inl (v17)), (4, .inl (v18))] [] σ59 (fun v σ' => ∃ q, v = some (.inl q) ∧ sg_R q ∧ sg_F [139, 140, 141, 142, 143, 144, 74088, 85088, 86088, 88088, 92088, 94088] σ σ' ∧ Q q σ') := by
            intro σ59 hF60 w
            have w := w70 σ59 hF60 w
            refine wk_b tt_244 4 (pc' := 66) (ls' := [(0, .inr (.inr (.ref 88))), (1, .inl (a1)), (2, .inl (a2)), (3, .inl (v17)), (4, .inl (v18))]) (st' := [.inl (v18), .inl (a1), .inr (.inr (.ref 88)), .inl (v17)]) (σ' := σ59) rfl ?_
            obtain ⟨c73, w⟩ := w
            have c73 : p_rowAt σ59 (a1) (v18) := by
              rw [pF_rowAt hF60 rfl rfl, pF_rowAt hF20 rfl rfl, pF_rowAt hF16 rfl rfl, pF_rowAt hF9 rfl rfl]; exact c73
            refine wk_callp tt_244 rfl rfl rfl rfl rfl tt_322 rfl (by decide) (w_rowAt z σ59 (a1) (v18) ra1 r25 c73) ?_
            rw [vF_rowAt hF60 rfl rfl, vF_rowAt hF20 rfl rfl, vF_rowAt hF16 rfl rfl, vF_rowAt hF9 rfl rfl]
            have r74 := vr_rowAt σ  (a1) (v18) ra1 r25 (by have q := c73; rw [pF_rowAt hF60 rfl rfl, pF_rowAt hF20 rfl rfl, pF_rowAt hF16 rfl rfl, pF_rowAt hF9 rfl rfl] at q; exact q)
            obtain ⟨c75, w⟩ := w
            obtain ⟨c76, w⟩ := w
            refine wk_b tt_244 4 (pc' := 25) (ls' := [(4, .inl ((v18 + 1))), (3, .inl ((v17 + (v_rowAt σ (a1) (v18))))), (0, .inr (.inr (.ref 88))), (1, .inl (a1)), (2, .inl (a2))]) (st' := []) (σ' := σ59) rfl ?_
            obtain ⟨m77, hm77, w⟩ := w
            exact wk_ls [(0, .inr (.inr (.ref 88))), (1, .inl (a1)), (2, .inl (a2)), (3, .inl ((v17 + (v_rowAt σ (a1) (v18))))), (4, .inl ((v18 + 1)))] rfl ⟨rfl, rfl, rfl, rfl, rfl, trivial⟩ (ih26 m77 hm77 ((v17 + (v_rowAt σ (a1) (v18)))) ((v18 + 1)) σ59 c75 c76 (sg_F_t (sg_F_t (sg_F_r [143, 94088] σ14) (sg_F_m (L := [143, 94088]) hF20 rfl)) (sg_F_m (L := [143, 94088]) hF60 rfl)) w)
          have lp67 : ∀ (n71 : Nat) (v58 : Int) (σ59 : sg_S), sg_R v58 → sg_F [143, 94088] σ19 σ59 → I61 n71 v58 σ59 → wx z 3 244 42 [(0, .inr (.inr (.ref 88))), (1, .inl (a1)), (2, .inl (a2)), (3, .inl (v17)), (4, .inl (v18)), (5, .inl (v58))] [] σ59 (fun v σ' => ∃ q, v = some (.inl q) ∧ sg_R q ∧ sg_F [139, 140, 141, 142, 143, 144, 74088, 85088, 86088, 88088, 92088, 94088] σ σ' ∧ Q q σ') := by
            intro n71
            induction n71 using Nat.strongRecOn with
            | _ n71 ih65 =>
              intro v58 σ59 r64 hF60 w
              have w := w69 n71 v58 σ59 r64 hF60 w
              refine wk_b tt_244 1 (pc' := 44) (ls' := [(0, .inr (.inr (.ref 88))), (1, .inl (a1)), (2, .inl (a2)), (3, .inl (v17)), (4, .inl (v18)), (5, .inl (v58))]) (st' := [.inl (v58)]) (σ' := σ59) rfl ?_
              refine wk_if tt_244 (tgt := 61) rfl rfl r64 (fun (h78 : v58 < 0) => ?_) (fun (h78 : 0 ≤ v58) => ?_)
              ·
                have w := w.1 h78
                exact wk_ls [(0, .inr (.inr (.ref 88))), (1, .inl (a1)), (2, .inl (a2)), (3, .inl (v17)), (4, .inl (v18))] rfl ⟨rfl, rfl, rfl, rfl, rfl, trivial⟩ (ex72  σ59  (sg_F_t (sg_F_r [143, 94088] σ19) (sg_F_m (L := [143, 94088]) hF60 rfl)) w)
              ·
                have w := w.2 h78
                obtain ⟨c79, w⟩ := w
                refine wk_b tt_244 4 (pc' := 52) (ls' := [(0, .inr (.inr (.ref 88))), (1, .inl (a1)), (2, .inl (a2)), (3, .inl (v17)), (4, .inl (v18)), (5, .inl (v58))]) (st' := [.inl ((v17 + v58)), .inr (.inr (.ref 88))]) (σ' := σ59) rfl ?_
                refine wk_call tt_244 rfl rfl rfl rfl rfl tt_280 rfl (by decide) (w_list z σ59 ((v17 + v58)) _ c79 w) (fun u85 σ81 hq83 => ?_)
                obtain ⟨rfl, hF82, w⟩ := hq83
                have w := w hF82
                obtain ⟨c86, w⟩ := w
                refine wk_b tt_244 2 (pc' := 42) (ls' := [(5, .inl ((v58 + (-1)))), (0, .inr (.inr (.ref 88))), (1, .inl (a1)), (2, .inl (a2)), (3, .inl (v17)), (4, .inl (v18))]) (st' := []) (σ' := σ81) rfl ?_
                obtain ⟨m87, hm87, w⟩ := w
                exact wk_ls [(0, .inr (.inr (.ref 88))), (1, .inl (a1)), (2, .inl (a2)), (3, .inl (v17)), (4, .inl (v18)), (5, .inl ((v58 + (-1))))] rfl ⟨rfl, rfl, rfl, rfl, rfl, rfl, trivial⟩ (ih65 m87 hm87 ((v58 + (-1))) σ81 c86 (sg_F_t (sg_F_t (sg_F_r [143, 94088] σ19) (sg_F_m (L := [143, 94088]) hF60 rfl)) (sg_F_m (L := [143, 94088]) hF82 rfl)) w)
          exact wk_ls [(0, .inr (.inr (.ref 88))), (1, .inl (a1)), (2, .inl (a2)), (3, .inl (v17)), (4, .inl (v18)), (5, .inl (((v_rowAt σ (a1) (v18)) - 1)))] rfl ⟨rfl, rfl, rfl, rfl, rfl, rfl, trivial⟩ (lp67 μ62 (((v_rowAt σ (a1) (v18)) - 1)) σ19 c57 (sg_F_r _ _) w68)
    exact wk_ls [(0, .inr (.inr (.ref 88))), (1, .inl (a1)), (2, .inl (a2)), (3, .inl (0)), (4, .inl (0))] rfl ⟨rfl, rfl, rfl, rfl, rfl, trivial⟩ (lp28 μ22 (0) (0) σ14 (by decide) (by decide) (sg_F_r _ _) w29)
  ·
    have w := w.2 h13
    refine wk_b tt_244 1 (pc' := 14) (ls' := [(0, .inr (.inr (.ref 88))), (1, .inl (a1)), (2, .inl (a2))]) (st' := [.inl (0)]) (σ' := σ8) rfl ?_
    exact wk_rI tt_244 rfl rfl ⟨_, rfl, (by decide), (sg_F_t (sg_F_r [139, 140, 141, 142, 143, 144, 74088, 85088, 86088, 88088, 92088, 94088] σ) (sg_F_m (L := [139, 140, 141, 142, 143, 144, 74088, 85088, 86088, 88088, 92088, 94088]) hF9 rfl)), w⟩
