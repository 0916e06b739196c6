/-! Conditions of the reference's methods, by program (14). -/
-- NestedVectorsModel.flatWorked
def V_flatWorked_12 (σ : sg_S) (b3 : Int) (b4 : Int) (b5 : Int) (Q : Int → sg_S → Prop) : Prop := V_flatIndex σ (b4) (b5) (b3) (fun q1 σ2 => sg_R q1 → sg_F [139, 140, 141, 142, 143, 144, 74088, 85088, 86088, 88088, 92088, 94088, 103088, 104088] σ σ2 → Q (q1) σ2)
set_option maxHeartbeats 4000000 in
set_option maxRecDepth 8000 in
theorem w_flatWorked_12 (z : Value) (σ : sg_S) (b3 : Int) (b4 : Int) (b5 : Int) (Q : Int → sg_S → Prop) (rb3 : sg_R b3) (rb4 : sg_R b4) (rb5 : sg_R b5) (w : V_flatWorked_12 σ b3 b4 b5 Q) : wx z 4 246 253 [(0, .inr (.inr (.ref 88))), (3, .inl (b3)), (4, .inl (b4)), (5, .inl (b5))] [] σ (fun v σ' => ∃ q, v = some (.inl q) ∧ sg_R q ∧ sg_F [139, 140, 141, 142, 143, 144, 74088, 85088, 86088, 88088, 92088, 94088, 103088, 104088] σ σ' ∧ Q q σ') := by
  unfold V_flatWorked_12 at w
  refine wk_b tt_246 4 (pc' := 259) (ls' := [(0, .inr (.inr (.ref 88))), (3, .inl (b3)), (4, .inl (b4)), (5, .inl (b5))]) (st' := [.inl (b3), .inl (b5), .inl (b4), .inr (.inr (.ref 88))]) (σ' := σ) rfl ?_
  refine wk_call tt_246 rfl rfl rfl rfl rfl tt_240 rfl (by decide) (w_flatIndex z σ (b4) (b5) (b3) _ rb4 rb5 rb3 w) (fun u6 σ2 hq4 => ?_)
  obtain ⟨q1, rfl, r5, hF3, w⟩ := hq4
  have w := w r5 hF3
  exact wk_rI tt_246 rfl rfl ⟨_, rfl, r5, (sg_F_t (sg_F_r [139, 140, 141, 142, 143, 144, 74088, 85088, 86088, 88088, 92088, 94088, 103088, 104088] σ) (sg_F_m (L := [139, 140, 141, 142, 143, 144, 74088, 85088, 86088, 88088, 92088, 94088, 103088, 104088]) hF3 rfl)), w⟩
-- NestedVectorsModel.joined
def V_joined (σ : sg_S) (a1 : Int) (a2 : Int) (Q : Int → sg_S → Prop) : Prop := (0 ≤ a1 ∧ a1 < 12000) ∧ (0 ≤ (sg_g σ 133 (a1)) ∧ (sg_g σ 133 (a1)) < 30000) ∧ V_newFlat σ ((sg_g σ 139 ((sg_g σ 133 (a1))))) (fun q3 σ4 => sg_R q3 → sg_F [139, 88088] σ σ4 → (∃ (I12 : Nat → Int → sg_S → Prop) (X14 : sg_S → Prop), (∃ n, I12 n (0) σ4) ∧ (∀ (n22 : Nat) (v9 : Int) (σ10 : sg_S), sg_R v9 → sg_F [140, 141, 142, 92088] σ4 σ10 → I12 n22 v9 σ10 → (((sg_g σ 139 ((sg_g σ 133 (a1)))) < v9 → X14 σ10) ∧ (v9 ≤ (sg_g σ 139 ((sg_g σ 133 (a1)))) → sg_R (4 * q3) ∧ sg_R ((4 * q3) + v9) ∧ (0 ≤ ((4 * q3) + v9) ∧ ((4 * q3) + v9) < 120000) ∧ ∀ σ28, σ28 = (sg_w σ10 140 (((4 * q3) + v9)) ((sg_g σ10 88 91))) → (∃ (I34 : Nat → Int → sg_S → Prop) (X36 : sg_S → Prop), (∃ n, I34 n (a1) σ28) ∧ (∀ (n44 : Nat) (v31 : Int) (σ32 : sg_S), sg_R v31 → sg_F [142, 92088] σ28 σ32 → I34 n44 v31 σ32 → sg_R (a1 + a2) ∧ (((a1 + a2) ≤ v31 → X36 σ32) ∧ (v31 < (a1 + a2) → (∃ (I57 : Nat → Int → sg_S → Prop) (X59 : sg_S → Prop), (∃ n, I57 n (0) σ32) ∧ (∀ (n67 : Nat) (v54 : Int) (σ55 : sg_S), sg_R v54 → sg_F [142, 92088] σ32 σ55 → I57 n67 v54 σ55 → (0 ≤ v31 ∧ v31 < 12000) ∧ sg_R (4 * (sg_g σ 133 (v31))) ∧ sg_R ((4 * (sg_g σ 133 (v31))) + v9) ∧ (0 ≤ ((4 * (sg_g σ 133 (v31))) + v9) ∧ ((4 * (sg_g σ 133 (v31))) + v9) < 120000) ∧ (((sg_g σ10 141 (((4 * (sg_g σ 133 (v31))) + v9))) ≤ v54 → X59 σ55) ∧ (v54 < (sg_g σ10 141 (((4 * (sg_g σ 133 (v31))) + v9))) → sg_R ((sg_g σ28 140 (((4 * (sg_g σ 133 (v31))) + v9))) + v54) ∧ (0 ≤ ((sg_g σ28 140 (((4 * (sg_g σ 133 (v31))) + v9))) + v54) ∧ ((sg_g σ28 140 (((4 * (sg_g σ 133 (v31))) + v9))) + v54) < 60000) ∧ (0 ≤ (sg_g σ55 88 91) ∧ (sg_g σ55 88 91) < 60000) ∧ ∀ σ79, σ79 = (sg_w σ55 142 ((sg_g σ55 88 91)) ((sg_g σ55 142 (((sg_g σ28 140 (((4 * (sg_g σ 133 (v31))) + v9))) + v54))))) → sg_R ((sg_g σ55 88 91) + 1) ∧ ∀ σ83, σ83 = (sg_w σ79 88 91 (((sg_g σ55 88 91) + 1))) → sg_R (v54 + 1) ∧ (∃ m, m < n67 ∧ I57 m ((v54 + 1)) σ83)))) ∧ (∀ (σ55 : sg_S), sg_F [142, 92088] σ32 σ55 → X59 σ55 → sg_R (v31 + 1) ∧ (∃ m, m < n44 ∧ I34 m ((v31 + 1)) σ55)))))) ∧ (∀ (σ32 : sg_S), sg_F [142, 92088] σ28 σ32 → X36 σ32 → sg_R ((sg_g σ32 88 91) - (sg_g σ28 140 (((4 * q3) + v9)))) ∧ ∀ σ47, σ47 = (sg_w σ32 141 (((4 * q3) + v9)) (((sg_g σ32 88 91) - (sg_g σ28 140 (((4 * q3) + v9)))))) → sg_R (v9 + 1) ∧ (∃ m, m < n22 ∧ I12 m ((v9 + 1)) σ47)))))) ∧ (∀ (σ10 : sg_S), sg_F [140, 141, 142, 92088] σ4 σ10 → X14 σ10 → Q (q3) σ10)))
set_option maxHeartbeats 4000000 in
set_option maxRecDepth 8000 in
theorem w_joined (z : Value) (σ : sg_S) (a1 : Int) (a2 : Int) (Q : Int → sg_S → Prop) (ra1 : sg_R a1) (ra2 : sg_R a2) (w : V_joined σ a1 a2 Q) : wx z 1 271 0 [(0, .inr (.inr (.ref 88))), (1, .inl (a1)), (2, .inl (a2))] [] σ (fun v σ' => ∃ q, v = some (.inl q) ∧ sg_R q ∧ sg_F [139, 140, 141, 142, 88088, 92088] σ σ' ∧ Q q σ') := by
  unfold V_joined at w
  refine wk_b tt_271 5 (pc' := 9) (ls' := [(0, .inr (.inr (.ref 88))), (1, .inl (a1)), (2, .inl (a2))]) (st' := [.inl (a1), .inr (.inr (.ref 133)), .inr (.inr (.ref 139))]) (σ' := σ) rfl ?_
  obtain ⟨c1, w⟩ := w
  refine wk_ia tt_271 rfl rfl c1.1 c1.2 ra1 ?_
  obtain ⟨c2, w⟩ := w
  refine wk_ia tt_271 rfl rfl c2.1 c2.2 (sg_Rg _ _ _) ?_
  refine wk_b tt_271 3 (pc' := 14) (ls' := [(3, .inl ((sg_g σ 139 ((sg_g σ 133 (a1)))))), (0, .inr (.inr (.ref 88))), (1, .inl (a1)), (2, .inl (a2))]) (st' := [.inl ((sg_g σ 139 ((sg_g σ 133 (a1))))), .inr (.inr (.ref 88))]) (σ' := σ) rfl ?_
  refine wk_call tt_271 rfl rfl rfl rfl rfl tt_293 rfl (by decide) (w_newFlat z σ ((sg_g σ 139 ((sg_g σ 133 (a1))))) _ (sg_Rg _ _ _) w) (fun u8 σ4 hq6 => ?_)
  obtain ⟨q3, rfl, r7, hF5, w⟩ := hq6
  have w := w r7 hF5
  refine wk_b tt_271 3 (pc' := 22) (ls' := [(5, .inl (0)), (4, .inl (q3)), (3, .inl ((sg_g σ 139 ((sg_g σ 133 (a1)))))), (0, .inr (.inr (.ref 88))), (1, .inl (a1)), (2, .inl (a2))]) (st' := []) (σ' := σ4) rfl ?_
  obtain ⟨I12, X14, ⟨μ13, w19⟩, w20, w21⟩ := w
  have ex23 : ∀ (σ10 : sg_S), sg_F [140, 141, 142, 92088] σ4 σ10 → X14 σ10 → wx z 1 271 171 [(4, .inl (q3))] [] σ10 (fun v σ' => ∃ q, v = some (.inl q) ∧ sg_R q ∧ sg_F [139, 140, 141, 142, 88088, 92088] σ σ' ∧ Q q σ') := by
    intro σ10 hF11 w
    have w := w21 σ10 hF11 w
    refine wk_b tt_271 1 (pc' := 173) (ls' := [(4, .inl (q3))]) (st' := [.inl (q3)]) (σ' := σ10) rfl ?_
    exact wk_rI tt_271 rfl rfl ⟨_, rfl, r7, (sg_F_t (sg_F_t (sg_F_r [139, 140, 141, 142, 88088, 92088] σ) (sg_F_m (L := [139, 140, 141, 142, 88088, 92088]) hF5 rfl)) (sg_F_m (L := [139, 140, 141, 142, 88088, 92088]) hF11 rfl)), w⟩
  have lp18 : ∀ (n22 : Nat) (v9 : Int) (σ10 : sg_S), sg_R v9 → sg_F [140, 141, 142, 92088] σ4 σ10 → I12 n22 v9 σ10 → wx z 1 271 22 [(0, .inr (.inr (.ref 88))), (1, .inl (a1)), (2, .inl (a2)), (3, .inl ((sg_g σ 139 ((sg_g σ 133 (a1)))))), (4, .inl (q3)), (5, .inl (v9))] [] σ10 (fun v σ' => ∃ q, v = some (.inl q) ∧ sg_R q ∧ sg_F [139, 140, 141, 142, 88088, 92088] σ σ' ∧ Q q σ') := by
    intro n22
    induction n22 using Nat.strongRecOn with
    | _ n22 ih16 =>
      intro v9 σ10 r15 hF11 w
      have w := w20 n22 v9 σ10 r15 hF11 w
      refine wk_b tt_271 2 (pc' := 25) (ls' := [(0, .inr (.inr (.ref 88))), (1, .inl (a1)), (2, .inl (a2)), (3, .inl ((sg_g σ 139 ((sg_g σ 133 (a1)))))), (4, .inl (q3)), (5, .inl (v9))]) (st' := [.inl ((sg_g σ 139 ((sg_g σ 133 (a1))))), .inl (v9)]) (σ' := σ10) rfl ?_
      refine wk_if2 tt_271 (tgt := 171) rfl rfl r15 (sg_Rg _ _ _) (fun (h24 : (sg_g σ 139 ((sg_g σ 133 (a1)))) < v9) => ?_) (fun (h24 : v9 ≤ (sg_g σ 139 ((sg_g σ 133 (a1))))) => ?_)
      ·
        have w := w.1 h24
        exact wk_ls [(4, .inl (q3))] rfl ⟨rfl, trivial⟩ (ex23  σ10  (sg_F_t (sg_F_r [140, 141, 142, 92088] σ4) (sg_F_m (L := [140, 141, 142, 92088]) hF11 rfl)) w)
      ·
        have w := w.2 h24
        obtain ⟨c25, w⟩ := w
        obtain ⟨c26, w⟩ := w
        refine wk_b tt_271 9 (pc' := 43) (ls' := [(0, .inr (.inr (.ref 88))), (1, .inl (a1)), (2, .inl (a2)), (3, .inl ((sg_g σ 139 ((sg_g σ 133 (a1)))))), (4, .inl (q3)), (5, .inl (v9))]) (st' := [.inl ((sg_g σ10 88 91)), .inl (((4 * q3) + v9)), .inr (.inr (.ref 140))]) (σ' := σ10) rfl ?_
        obtain ⟨c27, w⟩ := w
        refine wk_is tt_271 rfl rfl c27.1 c27.2 c26 ?_
        generalize hs29 : (sg_w σ10 140 (((4 * q3) + v9)) ((sg_g σ10 88 91))) = σ28
        have w := w σ28 hs29.symm
        have hF30 : sg_F [140] σ10 σ28 := by rw [← hs29]; exact sg_F_w (sg_F_r _ _) rfl _
        refine wk_b tt_271 2 (pc' := 47) (ls' := [(6, .inl (a1)), (0, .inr (.inr (.ref 88))), (1, .inl (a1)), (2, .inl (a2)), (3, .inl ((sg_g σ 139 ((sg_g σ 133 (a1)))))), (4, .inl (q3)), (5, .inl (v9))]) (st' := []) (σ' := σ28) rfl ?_
        obtain ⟨I34, X36, ⟨μ35, w41⟩, w42, w43⟩ := w
        have ex45 : ∀ (σ32 : sg_S), sg_F [142, 92088] σ28 σ32 → X36 σ32 → wx z 1 271 136 [(0, .inr (.inr (.ref 88))), (1, .inl (a1)), (2, .inl (a2)), (3, .inl ((sg_g σ 139 ((sg_g σ 133 (a1)))))), (4, .inl (q3)), (5, .inl (v9))] [] σ32 (fun v σ' => ∃ q, v = some (.inl q) ∧ sg_R q ∧ sg_F [139, 140, 141, 142, 88088, 92088] σ σ' ∧ Q q σ') := by
          intro σ32 hF33 w
          have w := w43 σ32 hF33 w
          refine wk_b tt_271 16 (pc' := 162) (ls' := [(0, .inr (.inr (.ref 88))), (1, .inl (a1)), (2, .inl (a2)), (3, .inl ((sg_g σ 139 ((sg_g σ 133 (a1)))))), (4, .inl (q3)), (5, .inl (v9))]) (st' := [.inl (((4 * q3) + v9)), .inr (.inr (.ref 140)), .inl ((sg_g σ32 88 91)), .inl (((4 * q3) + v9)), .inr (.inr (.ref 141))]) (σ' := σ32) rfl ?_
          refine wk_ia tt_271 rfl rfl c27.1 c27.2 c26 ?_
          rw [show (sg_g σ32 140 (((4 * q3) + v9))) = (sg_g σ28 140 (((4 * q3) + v9))) from by rw [sg_F_ga hF33 rfl]]
          obtain ⟨c46, w⟩ := w
          refine wk_b tt_271 1 (pc' := 164) (ls' := [(0, .inr (.inr (.ref 88))), (1, .inl (a1)), (2, .inl (a2)), (3, .inl ((sg_g σ 139 ((sg_g σ 133 (a1)))))), (4, .inl (q3)), (5, .inl (v9))]) (st' := [.inl (((sg_g σ32 88 91) - (sg_g σ28 140 (((4 * q3) + v9))))), .inl (((4 * q3) + v9)), .inr (.inr (.ref 141))]) (σ' := σ32) rfl ?_
          refine wk_is tt_271 rfl rfl c27.1 c27.2 c26 ?_
          generalize hs48 : (sg_w σ32 141 (((4 * q3) + v9)) (((sg_g σ32 88 91) - (sg_g σ28 140 (((4 * q3) + v9)))))) = σ47
          have w := w σ47 hs48.symm
          have hF49 : sg_F [141] σ32 σ47 := by rw [← hs48]; exact sg_F_w (sg_F_r _ _) rfl _
          obtain ⟨c50, w⟩ := w
          refine wk_b tt_271 2 (pc' := 22) (ls' := [(5, .inl ((v9 + 1))), (0, .inr (.inr (.ref 88))), (1, .inl (a1)), (2, .inl (a2)), (3, .inl ((sg_g σ 139 ((sg_g σ 133 (a1)))))), (4, .inl (q3))]) (st' := []) (σ' := σ47) rfl ?_
          obtain ⟨m51, hm51, w⟩ := w
          exact wk_ls [(0, .inr (.inr (.ref 88))), (1, .inl (a1)), (2, .inl (a2)), (3, .inl ((sg_g σ 139 ((sg_g σ 133 (a1)))))), (4, .inl (q3)), (5, .inl ((v9 + 1)))] rfl ⟨rfl, rfl, rfl, rfl, rfl, rfl, trivial⟩ (ih16 m51 hm51 ((v9 + 1)) σ47 c50 (sg_F_t (sg_F_t (sg_F_t (sg_F_t (sg_F_r [140, 141, 142, 92088] σ4) (sg_F_m (L := [140, 141, 142, 92088]) hF11 rfl)) (sg_F_m (L := [140, 141, 142, 92088]) hF30 rfl)) (sg_F_m (L := [140, 141, 142, 92088]) hF33 rfl)) (sg_F_m (L := [140, 141, 142, 92088]) hF49 rfl)) w)
        have lp40 : ∀ (n44 : Nat) (v31 : Int) (σ32 : sg_S), sg_R v31 → sg_F [142, 92088] σ28 σ32 → I34 n44 v31 σ32 → wx z 1 271 47 [(0, .inr (.inr (.ref 88))), (1, .inl (a1)), (2, .inl (a2)), (3, .inl ((sg_g σ 139 ((sg_g σ 133 (a1)))))), (4, .inl (q3)), (5, .inl (v9)), (6, .inl (v31))] [] σ32 (fun v σ' => ∃ q, v = some (.inl q) ∧ sg_R q ∧ sg_F [139, 140, 141, 142, 88088, 92088] σ σ' ∧ Q q σ') := by
          intro n44
          induction n44 using Nat.strongRecOn with
          | _ n44 ih38 =>
            intro v31 σ32 r37 hF33 w
            have w := w42 n44 v31 σ32 r37 hF33 w
            obtain ⟨c52, w⟩ := w
            refine wk_b tt_271 4 (pc' := 52) (ls' := [(0, .inr (.inr (.ref 88))), (1, .inl (a1)), (2, .inl (a2)), (3, .inl ((sg_g σ 139 ((sg_g σ 133 (a1)))))), (4, .inl (q3)), (5, .inl (v9)), (6, .inl (v31))]) (st' := [.inl ((a1 + a2)), .inl (v31)]) (σ' := σ32) rfl ?_
            refine wk_if2 tt_271 (tgt := 136) rfl rfl r37 c52 (fun (h53 : (a1 + a2) ≤ v31) => ?_) (fun (h53 : v31 < (a1 + a2)) => ?_)
            ·
              have w := w.1 h53
              exact wk_ls [(0, .inr (.inr (.ref 88))), (1, .inl (a1)), (2, .inl (a2)), (3, .inl ((sg_g σ 139 ((sg_g σ 133 (a1)))))), (4, .inl (q3)), (5, .inl (v9))] rfl ⟨rfl, rfl, rfl, rfl, rfl, rfl, trivial⟩ (ex45  σ32  (sg_F_t (sg_F_r [142, 92088] σ28) (sg_F_m (L := [142, 92088]) hF33 rfl)) w)
            ·
              have w := w.2 h53
              refine wk_b tt_271 2 (pc' := 58) (ls' := [(7, .inl (0)), (0, .inr (.inr (.ref 88))), (1, .inl (a1)), (2, .inl (a2)), (3, .inl ((sg_g σ 139 ((sg_g σ 133 (a1)))))), (4, .inl (q3)), (5, .inl (v9)), (6, .inl (v31))]) (st' := []) (σ' := σ32) rfl ?_
              obtain ⟨I57, X59, ⟨μ58, w64⟩, w65, w66⟩ := w
              have ex68 : ∀ (σ55 : sg_S), sg_F [142, 92088] σ32 σ55 → X59 σ55 → wx z 1 271 130 [(0, .inr (.inr (.ref 88))), (1, .inl (a1)), (2, .inl (a2)), (3, .inl ((sg_g σ 139 ((sg_g σ 133 (a1)))))), (4, .inl (q3)), (5, .inl (v9)), (6, .inl (v31))] [] σ55 (fun v σ' => ∃ q, v = some (.inl q) ∧ sg_R q ∧ sg_F [139, 140, 141, 142, 88088, 92088] σ σ' ∧ Q q σ') := by
                intro σ55 hF56 w
                have w := w66 σ55 hF56 w
                obtain ⟨c69, w⟩ := w
                refine wk_b tt_271 2 (pc' := 47) (ls' := [(6, .inl ((v31 + 1))), (0, .inr (.inr (.ref 88))), (1, .inl (a1)), (2, .inl (a2)), (3, .inl ((sg_g σ 139 ((sg_g σ 133 (a1)))))), (4, .inl (q3)), (5, .inl (v9))]) (st' := []) (σ' := σ55) rfl ?_
                obtain ⟨m70, hm70, w⟩ := w
                exact wk_ls [(0, .inr (.inr (.ref 88))), (1, .inl (a1)), (2, .inl (a2)), (3, .inl ((sg_g σ 139 ((sg_g σ 133 (a1)))))), (4, .inl (q3)), (5, .inl (v9)), (6, .inl ((v31 + 1)))] rfl ⟨rfl, rfl, rfl, rfl, rfl, rfl, rfl, trivial⟩ (ih38 m70 hm70 ((v31 + 1)) σ55 c69 (sg_F_t (sg_F_t (sg_F_r [142, 92088] σ28) (sg_F_m (L := [142, 92088]) hF33 rfl)) (sg_F_m (L := [142, 92088]) hF56 rfl)) w)
              have lp63 : ∀ (n67 : Nat) (v54 : Int) (σ55 : sg_S), sg_R v54 → sg_F [142, 92088] σ32 σ55 → I57 n67 v54 σ55 → wx z 1 271 58 [(0, .inr (.inr (.ref 88))), (1, .inl (a1)), (2, .inl (a2)), (3, .inl ((sg_g σ 139 ((sg_g σ 133 (a1)))))), (4, .inl (q3)), (5, .inl (v9)), (6, .inl (v31)), (7, .inl (v54))] [] σ55 (fun v σ' => ∃ q, v = some (.inl q) ∧ sg_R q ∧ sg_F [139, 140, 141, 142, 88088, 92088] σ σ' ∧ Q q σ') := by
                intro n67
                induction n67 using Nat.strongRecOn with
                | _ n67 ih61 =>
                  intro v54 σ55 r60 hF56 w
                  have w := w65 n67 v54 σ55 r60 hF56 w
                  refine wk_b tt_271 7 (pc' := 71) (ls' := [(0, .inr (.inr (.ref 88))), (1, .inl (a1)), (2, .inl (a2)), (3, .inl ((sg_g σ 139 ((sg_g σ 133 (a1)))))), (4, .inl (q3)), (5, .inl (v9)), (6, .inl (v31)), (7, .inl (v54))]) (st' := [.inl (v31), .inr (.inr (.ref 133)), .inl (4), .inr (.inr (.ref 141)), .inl (v54)]) (σ' := σ55) rfl ?_
                  obtain ⟨c71, w⟩ := w
                  refine wk_ia tt_271 rfl rfl c71.1 c71.2 r37 ?_
                  rw [show (sg_g σ55 133 (v31)) = (sg_g σ 133 (v31)) from by rw [sg_F_ga hF56 rfl, sg_F_ga hF33 rfl, sg_F_ga hF30 rfl, sg_F_ga hF11 rfl, sg_F_ga hF5 rfl]]
                  obtain ⟨c72, w⟩ := w
                  obtain ⟨c73, w⟩ := w
                  refine wk_b tt_271 3 (pc' := 76) (ls' := [(0, .inr (.inr (.ref 88))), (1, .inl (a1)), (2, .inl (a2)), (3, .inl ((sg_g σ 139 ((sg_g σ 133 (a1)))))), (4, .inl (q3)), (5, .inl (v9)), (6, .inl (v31)), (7, .inl (v54))]) (st' := [.inl (((4 * (sg_g σ 133 (v31))) + v9)), .inr (.inr (.ref 141)), .inl (v54)]) (σ' := σ55) rfl ?_
                  obtain ⟨c74, w⟩ := w
                  refine wk_ia tt_271 rfl rfl c74.1 c74.2 c73 ?_
                  rw [show (sg_g σ55 141 (((4 * (sg_g σ 133 (v31))) + v9))) = (sg_g σ10 141 (((4 * (sg_g σ 133 (v31))) + v9))) from by rw [sg_F_ga hF56 rfl, sg_F_ga hF33 rfl, sg_F_ga hF30 rfl]]
                  refine wk_if2 tt_271 (tgt := 130) rfl rfl r60 (sg_Rg _ _ _) (fun (h75 : (sg_g σ10 141 (((4 * (sg_g σ 133 (v31))) + v9))) ≤ v54) => ?_) (fun (h75 : v54 < (sg_g σ10 141 (((4 * (sg_g σ 133 (v31))) + v9)))) => ?_)
                  ·
                    have w := w.1 h75
                    exact wk_ls [(0, .inr (.inr (.ref 88))), (1, .inl (a1)), (2, .inl (a2)), (3, .inl ((sg_g σ 139 ((sg_g σ 133 (a1)))))), (4, .inl (q3)), (5, .inl (v9)), (6, .inl (v31))] rfl ⟨rfl, rfl, rfl, rfl, rfl, rfl, rfl, trivial⟩ (ex68  σ55  (sg_F_t (sg_F_r [142, 92088] σ32) (sg_F_m (L := [142, 92088]) hF56 rfl)) w)
                  ·
                    have w := w.2 h75
                    refine wk_b tt_271 12 (pc' := 103) (ls' := [(0, .inr (.inr (.ref 88))), (1, .inl (a1)), (2, .inl (a2)), (3, .inl ((sg_g σ 139 ((sg_g σ 133 (a1)))))), (4, .inl (q3)), (5, .inl (v9)), (6, .inl (v31)), (7, .inl (v54))]) (st' := [.inl (v31), .inr (.inr (.ref 133)), .inl (4), .inr (.inr (.ref 140)), .inr (.inr (.ref 142)), .inl ((sg_g σ55 88 91)), .inr (.inr (.ref 142))]) (σ' := σ55) rfl ?_
                    refine wk_ia tt_271 rfl rfl c71.1 c71.2 r37 ?_
                    rw [show (sg_g σ55 133 (v31)) = (sg_g σ 133 (v31)) from by rw [sg_F_ga hF56 rfl, sg_F_ga hF33 rfl, sg_F_ga hF30 rfl, sg_F_ga hF11 rfl, sg_F_ga hF5 rfl]]
                    refine wk_b tt_271 3 (pc' := 108) (ls' := [(0, .inr (.inr (.ref 88))), (1, .inl (a1)), (2, .inl (a2)), (3, .inl ((sg_g σ 139 ((sg_g σ 133 (a1)))))), (4, .inl (q3)), (5, .inl (v9)), (6, .inl (v31)), (7, .inl (v54))]) (st' := [.inl (((4 * (sg_g σ 133 (v31))) + v9)), .inr (.inr (.ref 140)), .inr (.inr (.ref 142)), .inl ((sg_g σ55 88 91)), .inr (.inr (.ref 142))]) (σ' := σ55) rfl ?_
                    refine wk_ia tt_271 rfl rfl c74.1 c74.2 c73 ?_
                    rw [show (sg_g σ55 140 (((4 * (sg_g σ 133 (v31))) + v9))) = (sg_g σ28 140 (((4 * (sg_g σ 133 (v31))) + v9))) from by rw [sg_F_ga hF56 rfl, sg_F_ga hF33 rfl]]
                    obtain ⟨c76, w⟩ := w
                    refine wk_b tt_271 2 (pc' := 112) (ls' := [(0, .inr (.inr (.ref 88))), (1, .inl (a1)), (2, .inl (a2)), (3, .inl ((sg_g σ 139 ((sg_g σ 133 (a1)))))), (4, .inl (q3)), (5, .inl (v9)), (6, .inl (v31)), (7, .inl (v54))]) (st' := [.inl (((sg_g σ28 140 (((4 * (sg_g σ 133 (v31))) + v9))) + v54)), .inr (.inr (.ref 142)), .inl ((sg_g σ55 88 91)), .inr (.inr (.ref 142))]) (σ' := σ55) rfl ?_
                    obtain ⟨c77, w⟩ := w
                    refine wk_ia tt_271 rfl rfl c77.1 c77.2 c76 ?_
                    obtain ⟨c78, w⟩ := w
                    refine wk_is tt_271 rfl rfl c78.1 c78.2 (sg_Rg _ _ _) ?_
                    generalize hs80 : (sg_w σ55 142 ((sg_g σ55 88 91)) ((sg_g σ55 142 (((sg_g σ28 140 (((4 * (sg_g σ 133 (v31))) + v9))) + v54))))) = σ79
                    have w := w σ79 hs80.symm
                    have hF81 : sg_F [142] σ55 σ79 := by rw [← hs80]; exact sg_F_w (sg_F_r _ _) rfl _
                    obtain ⟨c82, w⟩ := w
                    refine wk_b tt_271 6 (pc' := 124) (ls' := [(0, .inr (.inr (.ref 88))), (1, .inl (a1)), (2, .inl (a2)), (3, .inl ((sg_g σ 139 ((sg_g σ 133 (a1)))))), (4, .inl (q3)), (5, .inl (v9)), (6, .inl (v31)), (7, .inl (v54))]) (st' := []) (σ' := (sg_w σ79 88 91 (((sg_g σ79 88 91) + 1)))) rfl ?_
                    rw [show (sg_g σ79 88 91) = (sg_g σ55 88 91) from by rw [sg_F_ga hF81 rfl]]
                    generalize hs84 : (sg_w σ79 88 91 (((sg_g σ55 88 91) + 1))) = σ83
                    have w := w σ83 hs84.symm
                    have hF85 : sg_F [92088] σ79 σ83 := by rw [← hs84]; exact sg_F_w (sg_F_r _ _) rfl _
                    obtain ⟨c86, w⟩ := w
                    refine wk_b tt_271 2 (pc' := 58) (ls' := [(7, .inl ((v54 + 1))), (0, .inr (.inr (.ref 88))), (1, .inl (a1)), (2, .inl (a2)), (3, .inl ((sg_g σ 139 ((sg_g σ 133 (a1)))))), (4, .inl (q3)), (5, .inl (v9)), (6, .inl (v31))]) (st' := []) (σ' := σ83) rfl ?_
                    obtain ⟨m87, hm87, w⟩ := w
                    exact wk_ls [(0, .inr (.inr (.ref 88))), (1, .inl (a1)), (2, .inl (a2)), (3, .inl ((sg_g σ 139 ((sg_g σ 133 (a1)))))), (4, .inl (q3)), (5, .inl (v9)), (6, .inl (v31)), (7, .inl ((v54 + 1)))] rfl ⟨rfl, rfl, rfl, rfl, rfl, rfl, rfl, rfl, trivial⟩ (ih61 m87 hm87 ((v54 + 1)) σ83 c86 (sg_F_t (sg_F_t (sg_F_t (sg_F_r [142, 92088] σ32) (sg_F_m (L := [142, 92088]) hF56 rfl)) (sg_F_m (L := [142, 92088]) hF81 rfl)) (sg_F_m (L := [142, 92088]) hF85 rfl)) w)
              exact wk_ls [(0, .inr (.inr (.ref 88))), (1, .inl (a1)), (2, .inl (a2)), (3, .inl ((sg_g σ 139 ((sg_g σ 133 (a1)))))), (4, .inl (q3)), (5, .inl (v9)), (6, .inl (v31)), (7, .inl (0))] rfl ⟨rfl, rfl, rfl, rfl, rfl, rfl, rfl, rfl, trivial⟩ (lp63 μ58 (0) σ32 (by decide) (sg_F_r _ _) w64)
        exact wk_ls [(0, .inr (.inr (.ref 88))), (1, .inl (a1)), (2, .inl (a2)), (3, .inl ((sg_g σ 139 ((sg_g σ 133 (a1)))))), (4, .inl (q3)), (5, .inl (v9)), (6, .inl (a1))] rfl ⟨rfl, rfl, rfl, rfl, rfl, rfl, rfl, trivial⟩ (lp40 μ35 (a1) σ28 ra1 (sg_F_r _ _) w41)
  exact wk_ls [(0, .inr (.inr (.ref 88))), (1, .inl (a1)), (2, .inl (a2)), (3, .inl ((sg_g σ 139 ((sg_g σ 133 (a1)))))), (4, .inl (q3)), (5, .inl (0))] rfl ⟨rfl, rfl, rfl, rfl, rfl, rfl, trivial⟩ (lp18 μ13 (0) σ4 (by decide) (sg_F_r _ _) w19)
-- NestedVectorsModel.putLens
def V_putLens (σ : sg_S) (a1 : Int) (Q : Int → sg_S → Prop) : Prop := (∃ (I4 : Nat → Int → sg_S → Prop) (X6 : sg_S → Prop), (∃ n, I4 n (0) σ) ∧ (∀ (n14 : Nat) (v1 : Int) (σ2 : sg_S), sg_R v1 → sg_F [142, 92088] σ σ2 → I4 n14 v1 σ2 → ((a1 ≤ v1 → X6 σ2) ∧ (v1 < a1 → (0 ≤ v1 ∧ v1 < 13000) ∧ V_put σ2 ((sg_g σ 150 (v1))) (fun σ19 => sg_F [142, 92088] σ2 σ19 → sg_R (v1 + 1) ∧ (∃ m, m < n14 ∧ I4 m ((v1 + 1)) σ19))))) ∧ (∀ (σ2 : sg_S), sg_F [142, 92088] σ σ2 → X6 σ2 → Q ((sg_g σ 88 91)) σ2))
set_option maxHeartbeats 4000000 in
set_option maxRecDepth 8000 in
theorem w_putLens (z : Value) (σ : sg_S) (a1 : Int) (Q : Int → sg_S → Prop) (ra1 : sg_R a1) (w : V_putLens σ a1 Q) : wx z 1 309 0 [(0, .inr (.inr (.ref 88))), (1, .inl (a1))] [] σ (fun v σ' => ∃ q, v = some (.inl q) ∧ sg_R q ∧ sg_F [142, 92088] σ σ' ∧ Q q σ') := by
  unfold V_putLens at w
  refine wk_b tt_309 5 (pc' := 7) (ls' := [(3, .inl (0)), (2, .inl ((sg_g σ 88 91))), (0, .inr (.inr (.ref 88))), (1, .inl (a1))]) (st' := []) (σ' := σ) rfl ?_
  obtain ⟨I4, X6, ⟨μ5, w11⟩, w12, w13⟩ := w
  have ex15 : ∀ (σ2 : sg_S), sg_F [142, 92088] σ σ2 → X6 σ2 → wx z 1 309 28 [(2, .inl ((sg_g σ 88 91)))] [] σ2 (fun v σ' => ∃ q, v = some (.inl q) ∧ sg_R q ∧ sg_F [142, 92088] σ σ' ∧ Q q σ') := by
    intro σ2 hF3 w
    have w := w13 σ2 hF3 w
    refine wk_b tt_309 1 (pc' := 29) (ls' := [(2, .inl ((sg_g σ 88 91)))]) (st' := [.inl ((sg_g σ 88 91))]) (σ' := σ2) rfl ?_
    exact wk_rI tt_309 rfl rfl ⟨_, rfl, (sg_Rg _ _ _), (sg_F_t (sg_F_r [142, 92088] σ) (sg_F_m (L := [142, 92088]) hF3 rfl)), w⟩
  have lp10 : ∀ (n14 : Nat) (v1 : Int) (σ2 : sg_S), sg_R v1 → sg_F [142, 92088] σ σ2 → I4 n14 v1 σ2 → wx z 1 309 7 [(0, .inr (.inr (.ref 88))), (1, .inl (a1)), (2, .inl ((sg_g σ 88 91))), (3, .inl (v1))] [] σ2 (fun v σ' => ∃ q, v = some (.inl q) ∧ sg_R q ∧ sg_F [142, 92088] σ σ' ∧ Q q σ') := by
    intro n14
    induction n14 using Nat.strongRecOn with
    | _ n14 ih8 =>
      intro v1 σ2 r7 hF3 w
      have w := w12 n14 v1 σ2 r7 hF3 w
      refine wk_b tt_309 2 (pc' := 9) (ls' := [(0, .inr (.inr (.ref 88))), (1, .inl (a1)), (2, .inl ((sg_g σ 88 91))), (3, .inl (v1))]) (st' := [.inl (a1), .inl (v1)]) (σ' := σ2) rfl ?_
      refine wk_if2 tt_309 (tgt := 28) rfl rfl r7 ra1 (fun (h16 : a1 ≤ v1) => ?_) (fun (h16 : v1 < a1) => ?_)
      ·
        have w := w.1 h16
        exact wk_ls [(2, .inl ((sg_g σ 88 91)))] rfl ⟨rfl, trivial⟩ (ex15  σ2  (sg_F_t (sg_F_r [142, 92088] σ) (sg_F_m (L := [142, 92088]) hF3 rfl)) w)
      ·
        have w := w.2 h16
        refine wk_b tt_309 4 (pc' := 18) (ls' := [(0, .inr (.inr (.ref 88))), (1, .inl (a1)), (2, .inl ((sg_g σ 88 91))), (3, .inl (v1))]) (st' := [.inl (v1), .inr (.inr (.ref 150)), .inr (.inr (.ref 88))]) (σ' := σ2) rfl ?_
        obtain ⟨c17, w⟩ := w
        refine wk_ia tt_309 rfl rfl c17.1 c17.2 r7 ?_
        rw [show (sg_g σ2 150 (v1)) = (sg_g σ 150 (v1)) from by rw [sg_F_ga hF3 rfl]]
        refine wk_call tt_309 rfl rfl rfl rfl rfl tt_308 rfl (by decide) (w_put z σ2 ((sg_g σ 150 (v1))) _ (sg_Rg _ _ _) w) (fun u23 σ19 hq21 => ?_)
        obtain ⟨rfl, hF20, w⟩ := hq21
        have w := w hF20
        obtain ⟨c24, w⟩ := w
        refine wk_b tt_309 2 (pc' := 7) (ls' := [(3, .inl ((v1 + 1))), (0, .inr (.inr (.ref 88))), (1, .inl (a1)), (2, .inl ((sg_g σ 88 91)))]) (st' := []) (σ' := σ19) rfl ?_
        obtain ⟨m25, hm25, w⟩ := w
        exact wk_ls [(0, .inr (.inr (.ref 88))), (1, .inl (a1)), (2, .inl ((sg_g σ 88 91))), (3, .inl ((v1 + 1)))] rfl ⟨rfl, rfl, rfl, rfl, trivial⟩ (ih8 m25 hm25 ((v1 + 1)) σ19 c24 (sg_F_t (sg_F_t (sg_F_r [142, 92088] σ) (sg_F_m (L := [142, 92088]) hF3 rfl)) (sg_F_m (L := [142, 92088]) hF20 rfl)) w)
  exact wk_ls [(0, .inr (.inr (.ref 88))), (1, .inl (a1)), (2, .inl ((sg_g σ 88 91))), (3, .inl (0))] rfl ⟨rfl, rfl, rfl, rfl, trivial⟩ (lp10 μ5 (0) σ (by decide) (sg_F_r _ _) w11)
-- NestedVectorsModel.outer
def V_outer (σ : sg_S) (a1 : Int) (a2 : Int) (a3 : Int) (Q : Int → sg_S → Prop) : Prop := (0 ≤ a3 ∧ a3 < 30000) ∧ sg_R ((sg_g σ 139 (a3)) + 1) ∧ V_newFlat σ (((sg_g σ 139 (a3)) + 1)) (fun q3 σ4 => sg_R q3 → sg_F [139, 88088] σ σ4 → sg_R (4 * q3) ∧ (0 ≤ (4 * q3) ∧ (4 * q3) < 120000) ∧ ∀ σ11, σ11 = (sg_w σ4 140 ((4 * q3)) (a1)) → ∀ σ14, σ14 = (sg_w σ11 141 ((4 * q3)) (a2)) → (∃ (I20 : Nat → Int → sg_S → Prop) (X22 : sg_S → Prop), (∃ n, I20 n (0) σ14) ∧ (∀ (n30 : Nat) (v17 : Int) (σ18 : sg_S), sg_R v17 → sg_F [140, 141] σ14 σ18 → I20 n30 v17 σ18 → (((sg_g σ4 139 (a3)) < v17 → X22 σ18) ∧ (v17 ≤ (sg_g σ4 139 (a3)) → sg_R ((4 * q3) + v17) ∧ sg_R (((4 * q3) + v17) + 1) ∧ sg_R (4 * a3) ∧ sg_R ((4 * a3) + v17) ∧ (0 ≤ ((4 * a3) + v17) ∧ ((4 * a3) + v17) < 120000) ∧ (0 ≤ (((4 * q3) + v17) + 1) ∧ (((4 * q3) + v17) + 1) < 120000) ∧ ∀ σ39, σ39 = (sg_w σ18 140 ((((4 * q3) + v17) + 1)) ((sg_g σ18 140 (((4 * a3) + v17))))) → ∀ σ42, σ42 = (sg_w σ39 141 ((((4 * q3) + v17) + 1)) ((sg_g σ18 141 (((4 * a3) + v17))))) → sg_R (v17 + 1) ∧ (∃ m, m < n30 ∧ I20 m ((v17 + 1)) σ42)))) ∧ (∀ (σ18 : sg_S), sg_F [140, 141] σ14 σ18 → X22 σ18 → Q (q3) σ18)))
set_option maxHeartbeats 4000000 in
set_option maxRecDepth 8000 in
theorem w_outer (z : Value) (σ : sg_S) (a1 : Int) (a2 : Int) (a3 : Int) (Q : Int → sg_S → Prop) (ra1 : sg_R a1) (ra2 : sg_R a2) (ra3 : sg_R a3) (w : V_outer σ a1 a2 a3 Q) : wx z 1 300 0 [(0, .inr (.inr (.ref 88))), (1, .inl (a1)), (2, .inl (a2)), (3, .inl (a3))] [] σ (fun v σ' => ∃ q, v = some (.inl q) ∧ sg_R q ∧ sg_F [139, 140, 141, 88088] σ σ' ∧ Q q σ') := by
  unfold V_outer at w
  refine wk_b tt_300 4 (pc' := 6) (ls' := [(0, .inr (.inr (.ref 88))), (1, .inl (a1)), (2, .inl (a2)), (3, .inl (a3))]) (st' := [.inl (a3), .inr (.inr (.ref 139)), .inr (.inr (.ref 88))]) (σ' := σ) rfl ?_
  obtain ⟨c1, w⟩ := w
  refine wk_ia tt_300 rfl rfl c1.1 c1.2 ra3 ?_
  obtain ⟨c2, w⟩ := w
  refine wk_b tt_300 2 (pc' := 9) (ls' := [(0, .inr (.inr (.ref 88))), (1, .inl (a1)), (2, .inl (a2)), (3, .inl (a3))]) (st' := [.inl (((sg_g σ 139 (a3)) + 1)), .inr (.inr (.ref 88))]) (σ' := σ) rfl ?_
  refine wk_call tt_300 rfl rfl rfl rfl rfl tt_293 rfl (by decide) (w_newFlat z σ (((sg_g σ 139 (a3)) + 1)) _ c2 w) (fun u8 σ4 hq6 => ?_)
  obtain ⟨q3, rfl, r7, hF5, w⟩ := hq6
  have w := w r7 hF5
  obtain ⟨c9, w⟩ := w
  refine wk_b tt_300 7 (pc' := 23) (ls' := [(4, .inl (q3)), (0, .inr (.inr (.ref 88))), (1, .inl (a1)), (2, .inl (a2)), (3, .inl (a3))]) (st' := [.inl (a1), .inl ((4 * q3)), .inr (.inr (.ref 140))]) (σ' := σ4) rfl ?_
  obtain ⟨c10, w⟩ := w
  refine wk_is tt_300 rfl rfl c10.1 c10.2 c9 ?_
  generalize hs12 : (sg_w σ4 140 ((4 * q3)) (a1)) = σ11
  have w := w σ11 hs12.symm
  have hF13 : sg_F [140] σ4 σ11 := by rw [← hs12]; exact sg_F_w (sg_F_r _ _) rfl _
  refine wk_b tt_300 6 (pc' := 33) (ls' := [(4, .inl (q3)), (0, .inr (.inr (.ref 88))), (1, .inl (a1)), (2, .inl (a2)), (3, .inl (a3))]) (st' := [.inl (a2), .inl ((4 * q3)), .inr (.inr (.ref 141))]) (σ' := σ11) rfl ?_
  refine wk_is tt_300 rfl rfl c10.1 c10.2 c9 ?_
  generalize hs15 : (sg_w σ11 141 ((4 * q3)) (a2)) = σ14
  have w := w σ14 hs15.symm
  have hF16 : sg_F [141] σ11 σ14 := by rw [← hs15]; exact sg_F_w (sg_F_r _ _) rfl _
  refine wk_b tt_300 2 (pc' := 37) (ls' := [(5, .inl (0)), (4, .inl (q3)), (0, .inr (.inr (.ref 88))), (1, .inl (a1)), (2, .inl (a2)), (3, .inl (a3))]) (st' := []) (σ' := σ14) rfl ?_
  obtain ⟨I20, X22, ⟨μ21, w27⟩, w28, w29⟩ := w
  have ex31 : ∀ (σ18 : sg_S), sg_F [140, 141] σ14 σ18 → X22 σ18 → wx z 1 300 104 [(4, .inl (q3))] [] σ18 (fun v σ' => ∃ q, v = some (.inl q) ∧ sg_R q ∧ sg_F [139, 140, 141, 88088] σ σ' ∧ Q q σ') := by
    intro σ18 hF19 w
    have w := w29 σ18 hF19 w
    refine wk_b tt_300 1 (pc' := 106) (ls' := [(4, .inl (q3))]) (st' := [.inl (q3)]) (σ' := σ18) rfl ?_
    exact wk_rI tt_300 rfl rfl ⟨_, rfl, r7, (sg_F_t (sg_F_t (sg_F_t (sg_F_t (sg_F_r [139, 140, 141, 88088] σ) (sg_F_m (L := [139, 140, 141, 88088]) hF5 rfl)) (sg_F_m (L := [139, 140, 141, 88088]) hF13 rfl)) (sg_F_m (L := [139, 140, 141, 88088]) hF16 rfl)) (sg_F_m (L := [139, 140, 141, 88088]) hF19 rfl)), w⟩
  have lp26 : ∀ (n30 : Nat) (v17 : Int) (σ18 : sg_S), sg_R v17 → sg_F [140, 141] σ14 σ18 → I20 n30 v17 σ18 → wx z 1 300 37 [(0, .inr (.inr (.ref 88))), (3, .inl (a3)), (4, .inl (q3)), (5, .inl (v17))] [] σ18 (fun v σ' => ∃ q, v = some (.inl q) ∧ sg_R q ∧ sg_F [139, 140, 141, 88088] σ σ' ∧ Q q σ') := by
    intro n30
    induction n30 using Nat.strongRecOn with
    | _ n30 ih24 =>
      intro v17 σ18 r23 hF19 w
      have w := w28 n30 v17 σ18 r23 hF19 w
      refine wk_b tt_300 4 (pc' := 44) (ls' := [(0, .inr (.inr (.ref 88))), (3, .inl (a3)), (4, .inl (q3)), (5, .inl (v17))]) (st' := [.inl (a3), .inr (.inr (.ref 139)), .inl (v17)]) (σ' := σ18) rfl ?_
      refine wk_ia tt_300 rfl rfl c1.1 c1.2 ra3 ?_
      rw [show (sg_g σ18 139 (a3)) = (sg_g σ4 139 (a3)) from by rw [sg_F_ga hF19 rfl, sg_F_ga hF16 rfl, sg_F_ga hF13 rfl]]
      refine wk_if2 tt_300 (tgt := 104) rfl rfl r23 (sg_Rg _ _ _) (fun (h32 : (sg_g σ4 139 (a3)) < v17) => ?_) (fun (h32 : v17 ≤ (sg_g σ4 139 (a3))) => ?_)
      ·
        have w := w.1 h32
        exact wk_ls [(4, .inl (q3))] rfl ⟨rfl, trivial⟩ (ex31  σ18  (sg_F_t (sg_F_r [140, 141] σ14) (sg_F_m (L := [140, 141]) hF19 rfl)) w)
      ·
        have w := w.2 h32
        obtain ⟨c33, w⟩ := w
        obtain ⟨c34, w⟩ := w
        obtain ⟨c35, w⟩ := w
        obtain ⟨c36, w⟩ := w
        refine wk_b tt_300 16 (pc' := 71) (ls' := [(0, .inr (.inr (.ref 88))), (3, .inl (a3)), (4, .inl (q3)), (5, .inl (v17))]) (st' := [.inl (((4 * a3) + v17)), .inr (.inr (.ref 140)), .inl ((((4 * q3) + v17) + 1)), .inr (.inr (.ref 140))]) (σ' := σ18) rfl ?_
        obtain ⟨c37, w⟩ := w
        refine wk_ia tt_300 rfl rfl c37.1 c37.2 c36 ?_
        obtain ⟨c38, w⟩ := w
        refine wk_is tt_300 rfl rfl c38.1 c38.2 c34 ?_
        generalize hs40 : (sg_w σ18 140 ((((4 * q3) + v17) + 1)) ((sg_g σ18 140 (((4 * a3) + v17))))) = σ39
        have w := w σ39 hs40.symm
        have hF41 : sg_F [140] σ18 σ39 := by rw [← hs40]; exact sg_F_w (sg_F_r _ _) rfl _
        refine wk_b tt_300 16 (pc' := 96) (ls' := [(0, .inr (.inr (.ref 88))), (3, .inl (a3)), (4, .inl (q3)), (5, .inl (v17))]) (st' := [.inl (((4 * a3) + v17)), .inr (.inr (.ref 141)), .inl ((((4 * q3) + v17) + 1)), .inr (.inr (.ref 141))]) (σ' := σ39) rfl ?_
        refine wk_ia tt_300 rfl rfl c37.1 c37.2 c36 ?_
        rw [show (sg_g σ39 141 (((4 * a3) + v17))) = (sg_g σ18 141 (((4 * a3) + v17))) from by rw [sg_F_ga hF41 rfl]]
        refine wk_is tt_300 rfl rfl c38.1 c38.2 c34 ?_
        generalize hs43 : (sg_w σ39 141 ((((4 * q3) + v17) + 1)) ((sg_g σ18 141 (((4 * a3) + v17))))) = σ42
        have w := w σ42 hs43.symm
        have hF44 : sg_F [141] σ39 σ42 := by rw [← hs43]; exact sg_F_w (sg_F_r _ _) rfl _
        obtain ⟨c45, w⟩ := w
        refine wk_b tt_300 2 (pc' := 37) (ls' := [(5, .inl ((v17 + 1))), (0, .inr (.inr (.ref 88))), (3, .inl (a3)), (4, .inl (q3))]) (st' := []) (σ' := σ42) rfl ?_
        obtain ⟨m46, hm46, w⟩ := w
        exact wk_ls [(0, .inr (.inr (.ref 88))), (3, .inl (a3)), (4, .inl (q3)), (5, .inl ((v17 + 1)))] rfl ⟨rfl, rfl, rfl, rfl, trivial⟩ (ih24 m46 hm46 ((v17 + 1)) σ42 c45 (sg_F_t (sg_F_t (sg_F_t (sg_F_r [140, 141] σ14) (sg_F_m (L := [140, 141]) hF19 rfl)) (sg_F_m (L := [140, 141]) hF41 rfl)) (sg_F_m (L := [140, 141]) hF44 rfl)) w)
  exact wk_ls [(0, .inr (.inr (.ref 88))), (3, .inl (a3)), (4, .inl (q3)), (5, .inl (0))] rfl ⟨rfl, rfl, rfl, rfl, trivial⟩ (lp26 μ21 (0) σ14 (by decide) (sg_F_r _ _) w27)
-- NestedVectorsModel.flatRow
def V_flatRow (σ : sg_S) (a1 : Int) (a2 : Int) (a3 : Int) (Q : Int → sg_S → Prop) : Prop := (∃ (I5 : Nat → Int → Int → Prop) (X7 : Int → Prop), (∃ n, I5 n (a3) (0)) ∧ (∀ (n16 : Nat) (v1 : Int) (v2 : Int), sg_RL v1 → sg_R v2 → I5 n16 v1 v2 → (0 ≤ a1 ∧ a1 < 210) ∧ (((sg_g σ 96 (a1)) ≤ v2 → X7 (v1)) ∧ (v2 < (sg_g σ 96 (a1)) → sg_R (a2 + v2) ∧ (0 ≤ (a2 + v2) ∧ (a2 + v2) < 12000) ∧ V_extentOf σ ((sg_g σ 133 ((a2 + v2)))) (fun q105 _ => sg_R q105 → sg_RL (v1 + q105) ∧ sg_R (v2 + 1) ∧ (∃ m, m < n16 ∧ I5 m ((v1 + q105)) ((v2 + 1))))))) ∧ (∀ (v1 : Int), sg_RL v1 → X7 v1 → V_stepped σ (v1) (fun q18 σ19 => (q18 = 0 ∨ q18 = 1) → sg_F [74088, 85088, 86088] σ σ19 → ((¬ q18 = 0 → (0 ≤ a1 ∧ a1 < 210) ∧ V_joined σ19 (a2) ((sg_g σ 96 (a1))) (fun q26 σ27 => sg_R q26 → sg_F [139, 140, 141, 142, 88088, 92088] σ19 σ27 → ∀ σ32, σ32 = (sg_w σ27 88 93 (0)) → (∃ (I38 : Nat → Int → sg_S → Prop) (X40 : sg_S → Prop), (∃ n, I38 n (0) σ32) ∧ (∀ (n48 : Nat) (v35 : Int) (σ36 : sg_S), sg_R v35 → sg_F [143, 150, 94088] σ32 σ36 → I38 n48 v35 σ36 → ((a3 ≤ v35 → X40 σ36) ∧ (v35 < a3 → (0 ≤ v35 ∧ v35 < 13000) ∧ ∀ σ70, σ70 = (sg_w σ36 150 (v35) ((sg_g σ 96 (a1)))) → (∃ (I76 : Nat → Int → sg_S → Prop) (X78 : sg_S → Prop), (∃ n, I76 n (0) σ70) ∧ (∀ (n86 : Nat) (v73 : Int) (σ74 : sg_S), sg_R v73 → sg_F [143, 94088] σ70 σ74 → I76 n86 v73 σ74 → (((sg_g σ 96 (a1)) ≤ v73 → X78 σ74) ∧ (v73 < (sg_g σ 96 (a1)) → sg_R (a3 * v73) ∧ sg_R ((a3 * v73) + v35) ∧ V_list σ74 (((a3 * v73) + v35)) (fun σ94 => sg_F [143, 94088] σ74 σ94 → sg_R (v73 + 1) ∧ (∃ m, m < n86 ∧ I76 m ((v73 + 1)) σ94))))) ∧ (∀ (σ74 : sg_S), sg_F [143, 94088] σ70 σ74 → X78 σ74 → sg_R (v35 + 1) ∧ (∃ m, m < n48 ∧ I38 m ((v35 + 1)) σ74)))))) ∧ (∀ (σ36 : sg_S), sg_F [143, 150, 94088] σ32 σ36 → X40 σ36 → V_gathered σ36 (q26) (fun q50 σ51 => sg_R q50 → sg_F [139, 140, 141, 142, 144, 88088, 92088] σ36 σ51 → V_putLens σ51 (a3) (fun q56 σ57 => sg_R q56 → sg_F [142, 92088] σ51 σ57 → V_outer σ57 (q56) (a3) (q50) (fun q62 σ63 => sg_R q62 → sg_F [139, 140, 141, 88088] σ57 σ63 → Q (q62) σ63))))))) ∧ (q18 = 0 → Q (0) σ19)))))
set_option maxHeartbeats 4000000 in
set_option maxRecDepth 8000 in
theorem w_flatRow (z : Value) (σ : sg_S) (a1 : Int) (a2 : Int) (a3 : Int) (Q : Int → sg_S → Prop) (ra1 : sg_R a1) (ra2 : sg_R a2) (ra3 : sg_R a3) (w : V_flatRow σ a1 a2 a3 Q) : wx z 3 245 0 [(0, .inr (.inr (.ref 88))), (1, .inl (a1)), (2, .inl (a2)), (3, .inl (a3))] [] σ (fun v σ' => ∃ q, v = some (.inl q) ∧ sg_R q ∧ sg_F [139, 140, 141, 142, 143, 144, 150, 74088, 85088, 86088, 88088, 92088, 94088] σ σ' ∧ Q q σ') := by
  unfold V_flatRow at w
  refine wk_b tt_245 5 (pc' := 7) (ls' := [(6, .inl (0)), (4, .inr (.inl ((sg_n (a3))))), (0, .inr (.inr (.ref 88))), (1, .inl (a1)), (2, .inl (a2)), (3, .inl (a3))]) (st' := []) (σ' := σ) rfl ?_
  rw [show (sg_n (a3)) = a3 from by rw [sg_id ra3]]
  obtain ⟨I5, X7, ⟨μ6, w13⟩, w14, w15⟩ := w
  have ex17 : ∀ (v1 : Int), sg_RL v1 → X7 v1 → wx z 3 245 43 [(0, .inr (.inr (.ref 88))), (1, .inl (a1)), (2, .inl (a2)), (3, .inl (a3)), (4, .inr (.inl (v1)))] [] σ (fun v σ' => ∃ q, v = some (.inl q) ∧ sg_R q ∧ sg_F [139, 140, 141, 142, 143, 144, 150, 74088, 85088, 86088, 88088, 92088, 94088] σ σ' ∧ Q q σ') := by
    intro v1 r8 w
    have w := w15 v1 r8 w
    refine wk_b tt_245 2 (pc' := 46) (ls' := [(0, .inr (.inr (.ref 88))), (1, .inl (a1)), (2, .inl (a2)), (3, .inl (a3)), (4, .inr (.inl (v1)))]) (st' := [.inr (.inl (v1)), .inr (.inr (.ref 88))]) (σ' := σ) rfl ?_
    refine wk_call tt_245 rfl rfl rfl rfl rfl tt_329 rfl (by decide) (w_stepped z σ (v1) _ r8 w) (fun u23 σ19 hq21 => ?_)
    obtain ⟨q18, rfl, r22, hF20, w⟩ := hq21
    have w := w r22 hF20
    refine wk_if tt_245 (tgt := 54) rfl rfl (sg_Rz r22) (fun (h24 : ¬ q18 = 0) => ?_) (fun (h24 : q18 = 0) => ?_)
    ·
      have w := w.1 h24
      refine wk_b tt_245 5 (pc' := 61) (ls' := [(0, .inr (.inr (.ref 88))), (1, .inl (a1)), (2, .inl (a2)), (3, .inl (a3)), (4, .inr (.inl (v1)))]) (st' := [.inl (a1), .inr (.inr (.ref 96)), .inl (a2), .inr (.inr (.ref 88))]) (σ' := σ19) rfl ?_
      obtain ⟨c25, w⟩ := w
      refine wk_ia tt_245 rfl rfl c25.1 c25.2 ra1 ?_
      rw [show (sg_g σ19 96 (a1)) = (sg_g σ 96 (a1)) from by rw [sg_F_ga hF20 rfl]]
      refine wk_call tt_245 rfl rfl rfl rfl rfl tt_271 rfl (by decide) (w_joined z σ19 (a2) ((sg_g σ 96 (a1))) _ ra2 (sg_Rg _ _ _) w) (fun u31 σ27 hq29 => ?_)
      obtain ⟨q26, rfl, r30, hF28, w⟩ := hq29
      have w := w r30 hF28
      refine wk_b tt_245 4 (pc' := 72) (ls' := [(6, .inl (q26)), (0, .inr (.inr (.ref 88))), (1, .inl (a1)), (2, .inl (a2)), (3, .inl (a3)), (4, .inr (.inl (v1)))]) (st' := []) (σ' := (sg_w σ27 88 93 (0))) rfl ?_
      generalize hs33 : (sg_w σ27 88 93 (0)) = σ32
      have w := w σ32 hs33.symm
      have hF34 : sg_F [94088] σ27 σ32 := by rw [← hs33]; exact sg_F_w (sg_F_r _ _) rfl _
      refine wk_b tt_245 2 (pc' := 75) (ls' := [(7, .inl (0)), (6, .inl (q26)), (0, .inr (.inr (.ref 88))), (1, .inl (a1)), (2, .inl (a2)), (3, .inl (a3)), (4, .inr (.inl (v1)))]) (st' := []) (σ' := σ32) rfl ?_
      obtain ⟨I38, X40, ⟨μ39, w45⟩, w46, w47⟩ := w
      have ex49 : ∀ (σ36 : sg_S), sg_F [143, 150, 94088] σ32 σ36 → X40 σ36 → wx z 3 245 131 [(0, .inr (.inr (.ref 88))), (3, .inl (a3)), (6, .inl (q26))] [] σ36 (fun v σ' => ∃ q, v = some (.inl q) ∧ sg_R q ∧ sg_F [139, 140, 141, 142, 143, 144, 150, 74088, 85088, 86088, 88088, 92088, 94088] σ σ' ∧ Q q σ') := by
        intro σ36 hF37 w
        have w := w47 σ36 hF37 w
        refine wk_b tt_245 2 (pc' := 134) (ls' := [(0, .inr (.inr (.ref 88))), (3, .inl (a3)), (6, .inl (q26))]) (st' := [.inl (q26), .inr (.inr (.ref 88))]) (σ' := σ36) rfl ?_
        refine wk_call tt_245 rfl rfl rfl rfl rfl tt_249 rfl (by decide) (w_gathered z σ36 (q26) _ r30 w) (fun u55 σ51 hq53 => ?_)
        obtain ⟨q50, rfl, r54, hF52, w⟩ := hq53
        have w := w r54 hF52
        refine wk_b tt_245 3 (pc' := 141) (ls' := [(7, .inl (q50)), (0, .inr (.inr (.ref 88))), (3, .inl (a3)), (6, .inl (q26))]) (st' := [.inl (a3), .inr (.inr (.ref 88))]) (σ' := σ51) rfl ?_
        refine wk_call tt_245 rfl rfl rfl rfl rfl tt_309 rfl (by decide) (w_putLens z σ51 (a3) _ ra3 w) (fun u61 σ57 hq59 => ?_)
        obtain ⟨q56, rfl, r60, hF58, w⟩ := hq59
        have w := w r60 hF58
        refine wk_b tt_245 5 (pc' := 152) (ls' := [(8, .inl (q56)), (7, .inl (q50)), (0, .inr (.inr (.ref 88))), (3, .inl (a3)), (6, .inl (q26))]) (st' := [.inl (q50), .inl (a3), .inl (q56), .inr (.inr (.ref 88))]) (σ' := σ57) rfl ?_
        refine wk_call tt_245 rfl rfl rfl rfl rfl tt_300 rfl (by decide) (w_outer z σ57 (q56) (a3) (q50) _ r60 ra3 r54 w) (fun u67 σ63 hq65 => ?_)
        obtain ⟨q62, rfl, r66, hF64, w⟩ := hq65
        have w := w r66 hF64
        exact wk_rI tt_245 rfl rfl ⟨_, rfl, r66, (sg_F_t (sg_F_t (sg_F_t (sg_F_t (sg_F_t (sg_F_t (sg_F_t (sg_F_r [139, 140, 141, 142, 143, 144, 150, 74088, 85088, 86088, 88088, 92088, 94088] σ) (sg_F_m (L := [139, 140, 141, 142, 143, 144, 150, 74088, 85088, 86088, 88088, 92088, 94088]) hF20 rfl)) (sg_F_m (L := [139, 140, 141, 142, 143, 144, 150, 74088, 85088, 86088, 88088, 92088, 94088]) hF28 rfl)) (sg_F_m (L := [139, 140, 141, 142, 143, 144, 150, 74088, 85088, 86088, 88088, 92088, 94088]) hF34 rfl)) (sg_F_m (L := [139, 140, 141, 142, 143, 144, 150, 74088, 85088, 86088, 88088, 92088, 94088]) hF37 rfl)) (sg_F_m (L := [139, 140, 141, 142, 143, 144, 150, 74088, 85088, 86088, 88088, 92088, 94088]) hF52 rfl)) (sg_F_m (L := [139, 140, 141, 142, 143, 144, 150, 74088, 85088, 86088, 88088, 92088, 94088]) hF58 rfl)) (sg_F_m (L := [139, 140, 141, 142, 143, 144, 150, 74088, 85088, 86088, 88088, 92088, 94088]) hF64 rfl)), w⟩
      have lp44 : ∀ (n48 : Nat) (v35 : Int) (σ36 : sg_S), sg_R v35 → sg_F [143, 150, 94088] σ32 σ36 → I38 n48 v35 σ36 → wx z 3 245 75 [(0, .inr (.inr (.ref 88))), (1, .inl (a1)), (3, .inl (a3)), (6, .inl (q26)), (7, .inl (v35))] [] σ36 (fun v σ' => ∃ q, v = some (.inl q) ∧ sg_R q ∧ sg_F [139, 140, 141, 142, 143, 144, 150, 74088, 85088, 86088, 88088, 92088, 94088] σ σ' ∧ Q q σ') := by
        intro n48
        induction n48 using Nat.strongRecOn with
        | _ n48 ih42 =>
          intro v35 σ36 r41 hF37 w
          have w := w46 n48 v35 σ36 r41 hF37 w
          refine wk_b tt_245 2 (pc' := 78) (ls' := [(0, .inr (.inr (.ref 88))), (1, .inl (a1)), (3, .inl (a3)), (6, .inl (q26)), (7, .inl (v35))]) (st' := [.inl (a3), .inl (v35)]) (σ' := σ36) rfl ?_
          refine wk_if2 tt_245 (tgt := 131) rfl rfl r41 ra3 (fun (h68 : a3 ≤ v35) => ?_) (fun (h68 : v35 < a3) => ?_)
          ·
            have w := w.1 h68
            exact wk_ls [(0, .inr (.inr (.ref 88))), (3, .inl (a3)), (6, .inl (q26))] rfl ⟨rfl, rfl, rfl, trivial⟩ (ex49  σ36  (sg_F_t (sg_F_r [143, 150, 94088] σ32) (sg_F_m (L := [143, 150, 94088]) hF37 rfl)) w)
          ·
            have w := w.2 h68
            refine wk_b tt_245 6 (pc' := 92) (ls' := [(0, .inr (.inr (.ref 88))), (1, .inl (a1)), (3, .inl (a3)), (6, .inl (q26)), (7, .inl (v35))]) (st' := [.inl (a1), .inr (.inr (.ref 96)), .inl (v35), .inr (.inr (.ref 150))]) (σ' := σ36) rfl ?_
            refine wk_ia tt_245 rfl rfl c25.1 c25.2 ra1 ?_
            rw [show (sg_g σ36 96 (a1)) = (sg_g σ 96 (a1)) from by rw [sg_F_ga hF37 rfl, sg_F_ga hF34 rfl, sg_F_ga hF28 rfl, sg_F_ga hF20 rfl]]
            obtain ⟨c69, w⟩ := w
            refine wk_is tt_245 rfl rfl c69.1 c69.2 r41 ?_
            generalize hs71 : (sg_w σ36 150 (v35) ((sg_g σ 96 (a1)))) = σ70
            have w := w σ70 hs71.symm
            have hF72 : sg_F [150] σ36 σ70 := by rw [← hs71]; exact sg_F_w (sg_F_r _ _) rfl _
            refine wk_b tt_245 2 (pc' := 97) (ls' := [(8, .inl (0)), (0, .inr (.inr (.ref 88))), (1, .inl (a1)), (3, .inl (a3)), (6, .inl (q26)), (7, .inl (v35))]) (st' := []) (σ' := σ70) rfl ?_
            obtain ⟨I76, X78, ⟨μ77, w83⟩, w84, w85⟩ := w
            have ex87 : ∀ (σ74 : sg_S), sg_F [143, 94088] σ70 σ74 → X78 σ74 → wx z 3 245 125 [(0, .inr (.inr (.ref 88))), (1, .inl (a1)), (3, .inl (a3)), (6, .inl (q26)), (7, .inl (v35))] [] σ74 (fun v σ' => ∃ q, v = some (.inl q) ∧ sg_R q ∧ sg_F [139, 140, 141, 142, 143, 144, 150, 74088, 85088, 86088, 88088, 92088, 94088] σ σ' ∧ Q q σ') := by
              intro σ74 hF75 w
              have w := w85 σ74 hF75 w
              obtain ⟨c88, w⟩ := w
              refine wk_b tt_245 2 (pc' := 75) (ls' := [(7, .inl ((v35 + 1))), (0, .inr (.inr (.ref 88))), (1, .inl (a1)), (3, .inl (a3)), (6, .inl (q26))]) (st' := []) (σ' := σ74) rfl ?_
              obtain ⟨m89, hm89, w⟩ := w
              exact wk_ls [(0, .inr (.inr (.ref 88))), (1, .inl (a1)), (3, .inl (a3)), (6, .inl (q26)), (7, .inl ((v35 + 1)))] rfl ⟨rfl, rfl, rfl, rfl, rfl, trivial⟩ (ih42 m89 hm89 ((v35 + 1)) σ74 c88 (sg_F_t (sg_F_t (sg_F_t (sg_F_r [143, 150, 94088] σ32) (sg_F_m (L := [143, 150, 94088]) hF37 rfl)) (sg_F_m (L := [143, 150, 94088]) hF72 rfl)) (sg_F_m (L := [143, 150, 94088]) hF75 rfl)) w)
            have lp82 : ∀ (n86 : Nat) (v73 : Int) (σ74 : sg_S), sg_R v73 → sg_F [143, 94088] σ70 σ74 → I76 n86 v73 σ74 → wx z 3 245 97 [(0, .inr (.inr (.ref 88))), (1, .inl (a1)), (3, .inl (a3)), (6, .inl (q26)), (7, .inl (v35)), (8, .inl (v73))] [] σ74 (fun v σ' => ∃ q, v = some (.inl q) ∧ sg_R q ∧ sg_F [139, 140, 141, 142, 143, 144, 150, 74088, 85088, 86088, 88088, 92088, 94088] σ σ' ∧ Q q σ') := by
              intro n86
              induction n86 using Nat.strongRecOn with
              | _ n86 ih80 =>
                intro v73 σ74 r79 hF75 w
                have w := w84 n86 v73 σ74 r79 hF75 w
                refine wk_b tt_245 4 (pc' := 104) (ls' := [(0, .inr (.inr (.ref 88))), (1, .inl (a1)), (3, .inl (a3)), (6, .inl (q26)), (7, .inl (v35)), (8, .inl (v73))]) (st' := [.inl (a1), .inr (.inr (.ref 96)), .inl (v73)]) (σ' := σ74) rfl ?_
                refine wk_ia tt_245 rfl rfl c25.1 c25.2 ra1 ?_
                rw [show (sg_g σ74 96 (a1)) = (sg_g σ 96 (a1)) from by rw [sg_F_ga hF75 rfl, sg_F_ga hF72 rfl, sg_F_ga hF37 rfl, sg_F_ga hF34 rfl, sg_F_ga hF28 rfl, sg_F_ga hF20 rfl]]
                refine wk_if2 tt_245 (tgt := 125) rfl rfl r79 (sg_Rg _ _ _) (fun (h90 : (sg_g σ 96 (a1)) ≤ v73) => ?_) (fun (h90 : v73 < (sg_g σ 96 (a1))) => ?_)
                ·
                  have w := w.1 h90
                  exact wk_ls [(0, .inr (.inr (.ref 88))), (1, .inl (a1)), (3, .inl (a3)), (6, .inl (q26)), (7, .inl (v35))] rfl ⟨rfl, rfl, rfl, rfl, rfl, trivial⟩ (ex87  σ74  (sg_F_t (sg_F_r [143, 94088] σ70) (sg_F_m (L := [143, 94088]) hF75 rfl)) w)
                ·
                  have w := w.2 h90
                  obtain ⟨c91, w⟩ := w
                  obtain ⟨c92, w⟩ := w
                  refine wk_b tt_245 6 (pc' := 116) (ls' := [(0, .inr (.inr (.ref 88))), (1, .inl (a1)), (3, .inl (a3)), (6, .inl (q26)), (7, .inl (v35)), (8, .inl (v73))]) (st' := [.inl (((a3 * v73) + v35)), .inr (.inr (.ref 88))]) (σ' := σ74) rfl ?_
                  refine wk_call tt_245 rfl rfl rfl rfl rfl tt_280 rfl (by decide) (w_list z σ74 (((a3 * v73) + v35)) _ c92 w) (fun u98 σ94 hq96 => ?_)
                  obtain ⟨rfl, hF95, w⟩ := hq96
                  have w := w hF95
                  obtain ⟨c99, w⟩ := w
                  refine wk_b tt_245 2 (pc' := 97) (ls' := [(8, .inl ((v73 + 1))), (0, .inr (.inr (.ref 88))), (1, .inl (a1)), (3, .inl (a3)), (6, .inl (q26)), (7, .inl (v35))]) (st' := []) (σ' := σ94) rfl ?_
                  obtain ⟨m100, hm100, w⟩ := w
                  exact wk_ls [(0, .inr (.inr (.ref 88))), (1, .inl (a1)), (3, .inl (a3)), (6, .inl (q26)), (7, .inl (v35)), (8, .inl ((v73 + 1)))] rfl ⟨rfl, rfl, rfl, rfl, rfl, rfl, trivial⟩ (ih80 m100 hm100 ((v73 + 1)) σ94 c99 (sg_F_t (sg_F_t (sg_F_r [143, 94088] σ70) (sg_F_m (L := [143, 94088]) hF75 rfl)) (sg_F_m (L := [143, 94088]) hF95 rfl)) w)
            exact wk_ls [(0, .inr (.inr (.ref 88))), (1, .inl (a1)), (3, .inl (a3)), (6, .inl (q26)), (7, .inl (v35)), (8, .inl (0))] rfl ⟨rfl, rfl, rfl, rfl, rfl, rfl, trivial⟩ (lp82 μ77 (0) σ70 (by decide) (sg_F_r _ _) w83)
      exact wk_ls [(0, .inr (.inr (.ref 88))), (1, .inl (a1)), (3, .inl (a3)), (6, .inl (q26)), (7, .inl (0))] rfl ⟨rfl, rfl, rfl, rfl, rfl, trivial⟩ (lp44 μ39 (0) σ32 (by decide) (sg_F_r _ _) w45)
    ·
      have w := w.2 h24
      refine wk_b tt_245 1 (pc' := 53) (ls' := [(0, .inr (.inr (.ref 88))), (1, .inl (a1)), (2, .inl (a2)), (3, .inl (a3)), (4, .inr (.inl (v1)))]) (st' := [.inl (0)]) (σ' := σ19) rfl ?_
      exact wk_rI tt_245 rfl rfl ⟨_, rfl, (by decide), (sg_F_t (sg_F_r [139, 140, 141, 142, 143, 144, 150, 74088, 85088, 86088, 88088, 92088, 94088] σ) (sg_F_m (L := [139, 140, 141, 142, 143, 144, 150, 74088, 85088, 86088, 88088, 92088, 94088]) hF20 rfl)), w⟩
  have lp12 : ∀ (n16 : Nat) (v1 : Int) (v2 : Int), sg_RL v1 → sg_R v2 → I5 n16 v1 v2 → wx z 3 245 7 [(0, .inr (.inr (.ref 88))), (1, .inl (a1)), (2, .inl (a2)), (3, .inl (a3)), (4, .inr (.inl (v1))), (6, .inl (v2))] [] σ (fun v σ' => ∃ q, v = some (.inl q) ∧ sg_R q ∧ sg_F [139, 140, 141, 142, 143, 144, 150, 74088, 85088, 86088, 88088, 92088, 94088] σ σ' ∧ Q q σ') := by
    intro n16
    induction n16 using Nat.strongRecOn with
    | _ n16 ih10 =>
      intro v1 v2 r8 r9 w
      have w := w14 n16 v1 v2 r8 r9 w
      refine wk_b tt_245 4 (pc' := 14) (ls' := [(0, .inr (.inr (.ref 88))), (1, .inl (a1)), (2, .inl (a2)), (3, .inl (a3)), (4, .inr (.inl (v1))), (6, .inl (v2))]) (st' := [.inl (a1), .inr (.inr (.ref 96)), .inl (v2)]) (σ' := σ) rfl ?_
      obtain ⟨c101, w⟩ := w
      refine wk_ia tt_245 rfl rfl c101.1 c101.2 ra1 ?_
      refine wk_if2 tt_245 (tgt := 43) rfl rfl r9 (sg_Rg _ _ _) (fun (h102 : (sg_g σ 96 (a1)) ≤ v2) => ?_) (fun (h102 : v2 < (sg_g σ 96 (a1))) => ?_)
      ·
        have w := w.1 h102
        exact wk_ls [(0, .inr (.inr (.ref 88))), (1, .inl (a1)), (2, .inl (a2)), (3, .inl (a3)), (4, .inr (.inl (v1)))] rfl ⟨rfl, rfl, rfl, rfl, rfl, trivial⟩ (ex17 (v1)  r8  w)
      ·
        have w := w.2 h102
        obtain ⟨c103, w⟩ := w
        refine wk_b tt_245 7 (pc' := 29) (ls' := [(0, .inr (.inr (.ref 88))), (1, .inl (a1)), (2, .inl (a2)), (3, .inl (a3)), (4, .inr (.inl (v1))), (6, .inl (v2))]) (st' := [.inl ((a2 + v2)), .inr (.inr (.ref 133)), .inr (.inr (.ref 88)), .inr (.inl (v1))]) (σ' := σ) rfl ?_
        obtain ⟨c104, w⟩ := w
        refine wk_ia tt_245 rfl rfl c104.1 c104.2 c103 ?_
        refine wk_call tt_245 rfl rfl rfl rfl rfl tt_226 rfl (by decide) (w_extentOf z σ ((sg_g σ 133 ((a2 + v2)))) _ (sg_Rg _ _ _) w) (fun u110 σ106 hq108 => ?_)
        obtain ⟨q105, rfl, r109, rfl, w⟩ := hq108
        have w := w r109
        obtain ⟨c111, w⟩ := w
        obtain ⟨c112, w⟩ := w
        refine wk_b tt_245 5 (pc' := 7) (ls' := [(6, .inl ((v2 + 1))), (4, .inr (.inl ((v1 + (sg_n (q105)))))), (0, .inr (.inr (.ref 88))), (1, .inl (a1)), (2, .inl (a2)), (3, .inl (a3))]) (st' := []) (σ' := σ) rfl ?_
        rw [show (sg_n (q105)) = q105 from by rw [sg_id r109]]
        obtain ⟨m113, hm113, w⟩ := w
        exact wk_ls [(0, .inr (.inr (.ref 88))), (1, .inl (a1)), (2, .inl (a2)), (3, .inl (a3)), (4, .inr (.inl ((v1 + q105)))), (6, .inl ((v2 + 1)))] rfl ⟨rfl, rfl, rfl, rfl, rfl, rfl, trivial⟩ (ih10 m113 hm113 ((v1 + q105)) ((v2 + 1))  c111 c112  w)
  exact wk_ls [(0, .inr (.inr (.ref 88))), (1, .inl (a1)), (2, .inl (a2)), (3, .inl (a3)), (4, .inr (.inl (a3))), (6, .inl (0))] rfl ⟨rfl, rfl, rfl, rfl, rfl, rfl, trivial⟩ (lp12 μ6 (a3) (0)  (sg_Rgl2 ra3) (by decide)  w13)
