/-! Conditions of the reference's methods, by program (15). -/
-- NestedVectorsModel.flatWorked
def V_flatWorked_14 (σ : sg_S) (b1 : Int) (b2 : Int) (b3 : Int) (Q : Int → sg_S → Prop) : Prop := V_flatRow σ (b1) (b2) (b3) (fun q1 σ2 => sg_R q1 → sg_F [139, 140, 141, 142, 143, 144, 150, 74088, 85088, 86088, 88088, 92088, 94088] σ σ2 → Q (q1) σ2)
set_option maxHeartbeats 4000000 in
set_option maxRecDepth 8000 in
theorem w_flatWorked_14 (z : Value) (σ : sg_S) (b1 : Int) (b2 : Int) (b3 : Int) (Q : Int → sg_S → Prop) (rb1 : sg_R b1) (rb2 : sg_R b2) (rb3 : sg_R b3) (w : V_flatWorked_14 σ b1 b2 b3 Q) : wx z 4 246 263 [(0, .inr (.inr (.ref 88))), (1, .inl (b1)), (2, .inl (b2)), (3, .inl (b3))] [] σ (fun v σ' => ∃ q, v = some (.inl q) ∧ sg_R q ∧ sg_F [139, 140, 141, 142, 143, 144, 150, 74088, 85088, 86088, 88088, 92088, 94088] σ σ' ∧ Q q σ') := by
  unfold V_flatWorked_14 at w
  refine wk_b tt_246 4 (pc' := 267) (ls' := [(0, .inr (.inr (.ref 88))), (1, .inl (b1)), (2, .inl (b2)), (3, .inl (b3))]) (st' := [.inl (b3), .inl (b2), .inl (b1), .inr (.inr (.ref 88))]) (σ' := σ) rfl ?_
  refine wk_call tt_246 rfl rfl rfl rfl rfl tt_245 rfl (by decide) (w_flatRow z σ (b1) (b2) (b3) _ rb1 rb2 rb3 w) (fun u6 σ2 hq4 => ?_)
  obtain ⟨q1, rfl, r5, hF3, w⟩ := hq4
  have w := w r5 hF3
  exact wk_rI tt_246 rfl rfl ⟨_, rfl, r5, (sg_F_t (sg_F_r [139, 140, 141, 142, 143, 144, 150, 74088, 85088, 86088, 88088, 92088, 94088] σ) (sg_F_m (L := [139, 140, 141, 142, 143, 144, 150, 74088, 85088, 86088, 88088, 92088, 94088]) hF3 rfl)), w⟩
-- NestedVectorsModel.flatIota
def V_flatIota (σ : sg_S) (a1 : Int) (a2 : Int) (Q : Int → sg_S → Prop) : Prop := (∃ (I5 : Nat → Int → Int → sg_S → Prop) (X7 : Int → sg_S → Prop), (∃ n, I5 n (a2) (0) σ) ∧ (∀ (n16 : Nat) (v1 : Int) (v2 : Int) (σ3 : sg_S), sg_RL v1 → sg_R v2 → sg_F [150, 103088, 104088] σ σ3 → I5 n16 v1 v2 σ3 → ((a2 ≤ v2 → X7 (v1) σ3) ∧ (v2 < a2 → p_rowAt σ (a1) (v2) ∧ (∃ P91 : sg_S → Prop, ((¬ (v_in ((v_rowAt σ (a1) (v2))) (0) (200)) = 0 → P91 σ3) ∧ ((v_in ((v_rowAt σ (a1) (v2))) (0) (200)) = 0 → V_lacks σ3 (v2) (5) (fun σ110 => sg_F [103088, 104088] σ3 σ110 → P91 σ110))) ∧ (∀ (σ92 : sg_S), sg_F [103088, 104088] σ3 σ92 → P91 σ92 → (((v_in ((v_rowAt σ (a1) (v2))) (0) (200)) = 0 → True) ∧ (¬ (v_in ((v_rowAt σ (a1) (v2))) (0) (200)) = 0 → p_rowAt σ (a1) (v2) ∧ True)) ∧ ∀ v97 : Int, v97 = (if (v_in ((v_rowAt σ (a1) (v2))) (0) (200)) = 0 then (0 : Int) else (v_rowAt σ (a1) (v2))) → sg_R v97 → (0 ≤ v2 ∧ v2 < 13000) ∧ ∀ σ101, σ101 = (sg_w σ92 150 (v2) (v97)) → sg_RL (v1 + (sg_g σ101 150 (v2))) ∧ sg_R (v2 + 1) ∧ (∃ m, m < n16 ∧ I5 m ((v1 + (sg_g σ101 150 (v2)))) ((v2 + 1)) σ101)))))) ∧ (∀ (v1 : Int) (σ3 : sg_S), sg_RL v1 → sg_F [150, 103088, 104088] σ σ3 → X7 v1 σ3 → V_stepped σ3 (v1) (fun q18 σ19 => (q18 = 0 ∨ q18 = 1) → sg_F [74088, 85088, 86088] σ3 σ19 → ((¬ q18 = 0 → V_putLens σ19 (a2) (fun q25 σ26 => sg_R q25 → sg_F [142, 92088] σ19 σ26 → (∃ (I34 : Nat → Int → sg_S → Prop) (X36 : sg_S → Prop), (∃ n, I34 n (0) σ26) ∧ (∀ (n44 : Nat) (v31 : Int) (σ32 : sg_S), sg_R v31 → sg_F [142, 92088] σ26 σ32 → I34 n44 v31 σ32 → ((a2 ≤ v31 → X36 σ32) ∧ (v31 < a2 → (∃ (I62 : Nat → Int → sg_S → Prop) (X64 : sg_S → Prop), (∃ n, I62 n (0) σ32) ∧ (∀ (n72 : Nat) (v59 : Int) (σ60 : sg_S), sg_R v59 → sg_F [142, 92088] σ32 σ60 → I62 n72 v59 σ60 → (0 ≤ v31 ∧ v31 < 13000) ∧ (((sg_g σ3 150 (v31)) ≤ v59 → X64 σ60) ∧ (v59 < (sg_g σ3 150 (v31)) → V_put σ60 (v59) (fun σ79 => sg_F [142, 92088] σ60 σ79 → sg_R (v59 + 1) ∧ (∃ m, m < n72 ∧ I62 m ((v59 + 1)) σ79))))) ∧ (∀ (σ60 : sg_S), sg_F [142, 92088] σ32 σ60 → X64 σ60 → sg_R (v31 + 1) ∧ (∃ m, m < n44 ∧ I34 m ((v31 + 1)) σ60)))))) ∧ (∀ (σ32 : sg_S), sg_F [142, 92088] σ26 σ32 → X36 σ32 → V_numbers σ32 ((sg_g σ26 88 91)) (fun q46 σ47 => sg_R q46 → sg_F [139, 140, 141, 88088] σ32 σ47 → V_outer σ47 (q25) (a2) (q46) (fun q52 σ53 => sg_R q52 → sg_F [139, 140, 141, 88088] σ47 σ53 → Q (q52) σ53)))))) ∧ (q18 = 0 → Q (0) σ19)))))
set_option maxHeartbeats 4000000 in
set_option maxRecDepth 8000 in
theorem w_flatIota (z : Value) (σ : sg_S) (a1 : Int) (a2 : Int) (Q : Int → sg_S → Prop) (ra1 : sg_R a1) (ra2 : sg_R a2) (w : V_flatIota σ a1 a2 Q) : wx z 2 241 0 [(0, .inr (.inr (.ref 88))), (1, .inl (a1)), (2, .inl (a2))] [] σ (fun v σ' => ∃ q, v = some (.inl q) ∧ sg_R q ∧ sg_F [139, 140, 141, 142, 150, 74088, 85088, 86088, 88088, 92088, 103088, 104088] σ σ' ∧ Q q σ') := by
  unfold V_flatIota at w
  refine wk_b tt_241 5 (pc' := 6) (ls' := [(5, .inl (0)), (3, .inr (.inl ((sg_n (a2))))), (0, .inr (.inr (.ref 88))), (1, .inl (a1)), (2, .inl (a2))]) (st' := []) (σ' := σ) rfl ?_
  rw [show (sg_n (a2)) = a2 from by rw [sg_id ra2]]
  obtain ⟨I5, X7, ⟨μ6, w13⟩, w14, w15⟩ := w
  have ex17 : ∀ (v1 : Int) (σ3 : sg_S), sg_RL v1 → sg_F [150, 103088, 104088] σ σ3 → X7 v1 σ3 → wx z 2 241 81 [(0, .inr (.inr (.ref 88))), (2, .inl (a2)), (3, .inr (.inl (v1)))] [] σ3 (fun v σ' => ∃ q, v = some (.inl q) ∧ sg_R q ∧ sg_F [139, 140, 141, 142, 150, 74088, 85088, 86088, 88088, 92088, 103088, 104088] σ σ' ∧ Q q σ') := by
    intro v1 σ3 r8 hF4 w
    have w := w15 v1 σ3 r8 hF4 w
    refine wk_b tt_241 2 (pc' := 83) (ls' := [(0, .inr (.inr (.ref 88))), (2, .inl (a2)), (3, .inr (.inl (v1)))]) (st' := [.inr (.inl (v1)), .inr (.inr (.ref 88))]) (σ' := σ3) rfl ?_
    refine wk_call tt_241 rfl rfl rfl rfl rfl tt_329 rfl (by decide) (w_stepped z σ3 (v1) _ r8 w) (fun u23 σ19 hq21 => ?_)
    obtain ⟨q18, rfl, r22, hF20, w⟩ := hq21
    have w := w r22 hF20
    refine wk_if tt_241 (tgt := 91) rfl rfl (sg_Rz r22) (fun (h24 : ¬ q18 = 0) => ?_) (fun (h24 : q18 = 0) => ?_)
    ·
      have w := w.1 h24
      refine wk_b tt_241 2 (pc' := 93) (ls' := [(0, .inr (.inr (.ref 88))), (2, .inl (a2)), (3, .inr (.inl (v1)))]) (st' := [.inl (a2), .inr (.inr (.ref 88))]) (σ' := σ19) rfl ?_
      refine wk_call tt_241 rfl rfl rfl rfl rfl tt_309 rfl (by decide) (w_putLens z σ19 (a2) _ ra2 w) (fun u30 σ26 hq28 => ?_)
      obtain ⟨q25, rfl, r29, hF27, w⟩ := hq28
      have w := w r29 hF27
      refine wk_b tt_241 6 (pc' := 107) (ls' := [(7, .inl (0)), (6, .inl ((sg_g σ26 88 91))), (5, .inl (q25)), (0, .inr (.inr (.ref 88))), (2, .inl (a2)), (3, .inr (.inl (v1)))]) (st' := []) (σ' := σ26) rfl ?_
      obtain ⟨I34, X36, ⟨μ35, w41⟩, w42, w43⟩ := w
      have ex45 : ∀ (σ32 : sg_S), sg_F [142, 92088] σ26 σ32 → X36 σ32 → wx z 2 241 146 [(0, .inr (.inr (.ref 88))), (2, .inl (a2)), (5, .inl (q25)), (6, .inl ((sg_g σ26 88 91)))] [] σ32 (fun v σ' => ∃ q, v = some (.inl q) ∧ sg_R q ∧ sg_F [139, 140, 141, 142, 150, 74088, 85088, 86088, 88088, 92088, 103088, 104088] σ σ' ∧ Q q σ') := by
        intro σ32 hF33 w
        have w := w43 σ32 hF33 w
        refine wk_b tt_241 5 (pc' := 153) (ls' := [(0, .inr (.inr (.ref 88))), (2, .inl (a2)), (5, .inl (q25)), (6, .inl ((sg_g σ26 88 91)))]) (st' := [.inl ((sg_g σ26 88 91)), .inr (.inr (.ref 88)), .inl (a2), .inl (q25), .inr (.inr (.ref 88))]) (σ' := σ32) rfl ?_
        refine wk_call tt_241 rfl rfl rfl rfl rfl tt_296 rfl (by decide) (w_numbers z σ32 ((sg_g σ26 88 91)) _ (sg_Rg _ _ _) w) (fun u51 σ47 hq49 => ?_)
        obtain ⟨q46, rfl, r50, hF48, w⟩ := hq49
        have w := w r50 hF48
        refine wk_call tt_241 rfl rfl rfl rfl rfl tt_300 rfl (by decide) (w_outer z σ47 (q25) (a2) (q46) _ r29 ra2 r50 w) (fun u57 σ53 hq55 => ?_)
        obtain ⟨q52, rfl, r56, hF54, w⟩ := hq55
        have w := w r56 hF54
        exact wk_rI tt_241 rfl rfl ⟨_, rfl, r56, (sg_F_t (sg_F_t (sg_F_t (sg_F_t (sg_F_t (sg_F_t (sg_F_r [139, 140, 141, 142, 150, 74088, 85088, 86088, 88088, 92088, 103088, 104088] σ) (sg_F_m (L := [139, 140, 141, 142, 150, 74088, 85088, 86088, 88088, 92088, 103088, 104088]) hF4 rfl)) (sg_F_m (L := [139, 140, 141, 142, 150, 74088, 85088, 86088, 88088, 92088, 103088, 104088]) hF20 rfl)) (sg_F_m (L := [139, 140, 141, 142, 150, 74088, 85088, 86088, 88088, 92088, 103088, 104088]) hF27 rfl)) (sg_F_m (L := [139, 140, 141, 142, 150, 74088, 85088, 86088, 88088, 92088, 103088, 104088]) hF33 rfl)) (sg_F_m (L := [139, 140, 141, 142, 150, 74088, 85088, 86088, 88088, 92088, 103088, 104088]) hF48 rfl)) (sg_F_m (L := [139, 140, 141, 142, 150, 74088, 85088, 86088, 88088, 92088, 103088, 104088]) hF54 rfl)), w⟩
      have lp40 : ∀ (n44 : Nat) (v31 : Int) (σ32 : sg_S), sg_R v31 → sg_F [142, 92088] σ26 σ32 → I34 n44 v31 σ32 → wx z 2 241 107 [(0, .inr (.inr (.ref 88))), (2, .inl (a2)), (5, .inl (q25)), (6, .inl ((sg_g σ26 88 91))), (7, .inl (v31))] [] σ32 (fun v σ' => ∃ q, v = some (.inl q) ∧ sg_R q ∧ sg_F [139, 140, 141, 142, 150, 74088, 85088, 86088, 88088, 92088, 103088, 104088] σ σ' ∧ Q q σ') := by
        intro n44
        induction n44 using Nat.strongRecOn with
        | _ n44 ih38 =>
          intro v31 σ32 r37 hF33 w
          have w := w42 n44 v31 σ32 r37 hF33 w
          refine wk_b tt_241 2 (pc' := 110) (ls' := [(0, .inr (.inr (.ref 88))), (2, .inl (a2)), (5, .inl (q25)), (6, .inl ((sg_g σ26 88 91))), (7, .inl (v31))]) (st' := [.inl (a2), .inl (v31)]) (σ' := σ32) rfl ?_
          refine wk_if2 tt_241 (tgt := 146) rfl rfl r37 ra2 (fun (h58 : a2 ≤ v31) => ?_) (fun (h58 : v31 < a2) => ?_)
          ·
            have w := w.1 h58
            exact wk_ls [(0, .inr (.inr (.ref 88))), (2, .inl (a2)), (5, .inl (q25)), (6, .inl ((sg_g σ26 88 91)))] rfl ⟨rfl, rfl, rfl, rfl, trivial⟩ (ex45  σ32  (sg_F_t (sg_F_r [142, 92088] σ26) (sg_F_m (L := [142, 92088]) hF33 rfl)) w)
          ·
            have w := w.2 h58
            refine wk_b tt_241 2 (pc' := 116) (ls' := [(8, .inl (0)), (0, .inr (.inr (.ref 88))), (2, .inl (a2)), (5, .inl (q25)), (6, .inl ((sg_g σ26 88 91))), (7, .inl (v31))]) (st' := []) (σ' := σ32) rfl ?_
            obtain ⟨I62, X64, ⟨μ63, w69⟩, w70, w71⟩ := w
            have ex73 : ∀ (σ60 : sg_S), sg_F [142, 92088] σ32 σ60 → X64 σ60 → wx z 2 241 140 [(0, .inr (.inr (.ref 88))), (2, .inl (a2)), (5, .inl (q25)), (6, .inl ((sg_g σ26 88 91))), (7, .inl (v31))] [] σ60 (fun v σ' => ∃ q, v = some (.inl q) ∧ sg_R q ∧ sg_F [139, 140, 141, 142, 150, 74088, 85088, 86088, 88088, 92088, 103088, 104088] σ σ' ∧ Q q σ') := by
              intro σ60 hF61 w
              have w := w71 σ60 hF61 w
              obtain ⟨c74, w⟩ := w
              refine wk_b tt_241 2 (pc' := 107) (ls' := [(7, .inl ((v31 + 1))), (0, .inr (.inr (.ref 88))), (2, .inl (a2)), (5, .inl (q25)), (6, .inl ((sg_g σ26 88 91)))]) (st' := []) (σ' := σ60) rfl ?_
              obtain ⟨m75, hm75, w⟩ := w
              exact wk_ls [(0, .inr (.inr (.ref 88))), (2, .inl (a2)), (5, .inl (q25)), (6, .inl ((sg_g σ26 88 91))), (7, .inl ((v31 + 1)))] rfl ⟨rfl, rfl, rfl, rfl, rfl, trivial⟩ (ih38 m75 hm75 ((v31 + 1)) σ60 c74 (sg_F_t (sg_F_t (sg_F_r [142, 92088] σ26) (sg_F_m (L := [142, 92088]) hF33 rfl)) (sg_F_m (L := [142, 92088]) hF61 rfl)) w)
            have lp68 : ∀ (n72 : Nat) (v59 : Int) (σ60 : sg_S), sg_R v59 → sg_F [142, 92088] σ32 σ60 → I62 n72 v59 σ60 → wx z 2 241 116 [(0, .inr (.inr (.ref 88))), (2, .inl (a2)), (5, .inl (q25)), (6, .inl ((sg_g σ26 88 91))), (7, .inl (v31)), (8, .inl (v59))] [] σ60 (fun v σ' => ∃ q, v = some (.inl q) ∧ sg_R q ∧ sg_F [139, 140, 141, 142, 150, 74088, 85088, 86088, 88088, 92088, 103088, 104088] σ σ' ∧ Q q σ') := by
              intro n72
              induction n72 using Nat.strongRecOn with
              | _ n72 ih66 =>
                intro v59 σ60 r65 hF61 w
                have w := w70 n72 v59 σ60 r65 hF61 w
                refine wk_b tt_241 4 (pc' := 124) (ls' := [(0, .inr (.inr (.ref 88))), (2, .inl (a2)), (5, .inl (q25)), (6, .inl ((sg_g σ26 88 91))), (7, .inl (v31)), (8, .inl (v59))]) (st' := [.inl (v31), .inr (.inr (.ref 150)), .inl (v59)]) (σ' := σ60) rfl ?_
                obtain ⟨c76, w⟩ := w
                refine wk_ia tt_241 rfl rfl c76.1 c76.2 r37 ?_
                rw [show (sg_g σ60 150 (v31)) = (sg_g σ3 150 (v31)) from by rw [sg_F_ga hF61 rfl, sg_F_ga hF33 rfl, sg_F_ga hF27 rfl, sg_F_ga hF20 rfl]]
                refine wk_if2 tt_241 (tgt := 140) rfl rfl r65 (sg_Rg _ _ _) (fun (h77 : (sg_g σ3 150 (v31)) ≤ v59) => ?_) (fun (h77 : v59 < (sg_g σ3 150 (v31))) => ?_)
                ·
                  have w := w.1 h77
                  exact wk_ls [(0, .inr (.inr (.ref 88))), (2, .inl (a2)), (5, .inl (q25)), (6, .inl ((sg_g σ26 88 91))), (7, .inl (v31))] rfl ⟨rfl, rfl, rfl, rfl, rfl, trivial⟩ (ex73  σ60  (sg_F_t (sg_F_r [142, 92088] σ32) (sg_F_m (L := [142, 92088]) hF61 rfl)) w)
                ·
                  have w := w.2 h77
                  refine wk_b tt_241 2 (pc' := 131) (ls' := [(0, .inr (.inr (.ref 88))), (2, .inl (a2)), (5, .inl (q25)), (6, .inl ((sg_g σ26 88 91))), (7, .inl (v31)), (8, .inl (v59))]) (st' := [.inl (v59), .inr (.inr (.ref 88))]) (σ' := σ60) rfl ?_
                  refine wk_call tt_241 rfl rfl rfl rfl rfl tt_308 rfl (by decide) (w_put z σ60 (v59) _ r65 w) (fun u83 σ79 hq81 => ?_)
                  obtain ⟨rfl, hF80, w⟩ := hq81
                  have w := w hF80
                  obtain ⟨c84, w⟩ := w
                  refine wk_b tt_241 2 (pc' := 116) (ls' := [(8, .inl ((v59 + 1))), (0, .inr (.inr (.ref 88))), (2, .inl (a2)), (5, .inl (q25)), (6, .inl ((sg_g σ26 88 91))), (7, .inl (v31))]) (st' := []) (σ' := σ79) rfl ?_
                  obtain ⟨m85, hm85, w⟩ := w
                  exact wk_ls [(0, .inr (.inr (.ref 88))), (2, .inl (a2)), (5, .inl (q25)), (6, .inl ((sg_g σ26 88 91))), (7, .inl (v31)), (8, .inl ((v59 + 1)))] rfl ⟨rfl, rfl, rfl, rfl, rfl, rfl, trivial⟩ (ih66 m85 hm85 ((v59 + 1)) σ79 c84 (sg_F_t (sg_F_t (sg_F_r [142, 92088] σ32) (sg_F_m (L := [142, 92088]) hF61 rfl)) (sg_F_m (L := [142, 92088]) hF80 rfl)) w)
            exact wk_ls [(0, .inr (.inr (.ref 88))), (2, .inl (a2)), (5, .inl (q25)), (6, .inl ((sg_g σ26 88 91))), (7, .inl (v31)), (8, .inl (0))] rfl ⟨rfl, rfl, rfl, rfl, rfl, rfl, trivial⟩ (lp68 μ63 (0) σ32 (by decide) (sg_F_r _ _) w69)
      exact wk_ls [(0, .inr (.inr (.ref 88))), (2, .inl (a2)), (5, .inl (q25)), (6, .inl ((sg_g σ26 88 91))), (7, .inl (0))] rfl ⟨rfl, rfl, rfl, rfl, rfl, trivial⟩ (lp40 μ35 (0) σ26 (by decide) (sg_F_r _ _) w41)
    ·
      have w := w.2 h24
      refine wk_b tt_241 1 (pc' := 90) (ls' := [(0, .inr (.inr (.ref 88))), (2, .inl (a2)), (3, .inr (.inl (v1)))]) (st' := [.inl (0)]) (σ' := σ19) rfl ?_
      exact wk_rI tt_241 rfl rfl ⟨_, rfl, (by decide), (sg_F_t (sg_F_t (sg_F_r [139, 140, 141, 142, 150, 74088, 85088, 86088, 88088, 92088, 103088, 104088] σ) (sg_F_m (L := [139, 140, 141, 142, 150, 74088, 85088, 86088, 88088, 92088, 103088, 104088]) hF4 rfl)) (sg_F_m (L := [139, 140, 141, 142, 150, 74088, 85088, 86088, 88088, 92088, 103088, 104088]) hF20 rfl)), w⟩
  have lp12 : ∀ (n16 : Nat) (v1 : Int) (v2 : Int) (σ3 : sg_S), sg_RL v1 → sg_R v2 → sg_F [150, 103088, 104088] σ σ3 → I5 n16 v1 v2 σ3 → wx z 2 241 6 [(0, .inr (.inr (.ref 88))), (1, .inl (a1)), (2, .inl (a2)), (3, .inr (.inl (v1))), (5, .inl (v2))] [] σ3 (fun v σ' => ∃ q, v = some (.inl q) ∧ sg_R q ∧ sg_F [139, 140, 141, 142, 150, 74088, 85088, 86088, 88088, 92088, 103088, 104088] σ σ' ∧ Q q σ') := by
    intro n16
    induction n16 using Nat.strongRecOn with
    | _ n16 ih10 =>
      intro v1 v2 σ3 r8 r9 hF4 w
      have w := w14 n16 v1 v2 σ3 r8 r9 hF4 w
      refine wk_b tt_241 2 (pc' := 9) (ls' := [(0, .inr (.inr (.ref 88))), (1, .inl (a1)), (2, .inl (a2)), (3, .inr (.inl (v1))), (5, .inl (v2))]) (st' := [.inl (a2), .inl (v2)]) (σ' := σ3) rfl ?_
      refine wk_if2 tt_241 (tgt := 81) rfl rfl r9 ra2 (fun (h86 : a2 ≤ v2) => ?_) (fun (h86 : v2 < a2) => ?_)
      ·
        have w := w.1 h86
        exact wk_ls [(0, .inr (.inr (.ref 88))), (2, .inl (a2)), (3, .inr (.inl (v1)))] rfl ⟨rfl, rfl, rfl, trivial⟩ (ex17 (v1) σ3 r8 (sg_F_t (sg_F_r [150, 103088, 104088] σ) (sg_F_m (L := [150, 103088, 104088]) hF4 rfl)) w)
      ·
        have w := w.2 h86
        refine wk_b tt_241 3 (pc' := 16) (ls' := [(0, .inr (.inr (.ref 88))), (1, .inl (a1)), (2, .inl (a2)), (3, .inr (.inl (v1))), (5, .inl (v2))]) (st' := [.inl (v2), .inl (a1), .inr (.inr (.ref 88))]) (σ' := σ3) rfl ?_
        obtain ⟨c87, w⟩ := w
        have c87 : p_rowAt σ3 (a1) (v2) := by
          rw [pF_rowAt hF4 rfl rfl]; exact c87
        refine wk_callp tt_241 rfl rfl rfl rfl rfl tt_322 rfl (by decide) (w_rowAt z σ3 (a1) (v2) ra1 r9 c87) ?_
        rw [vF_rowAt hF4 rfl rfl]
        have r88 := vr_rowAt σ  (a1) (v2) ra1 r9 (by have q := c87; rw [pF_rowAt hF4 rfl rfl] at q; exact q)
        refine wk_b tt_241 3 (pc' := 24) (ls' := [(0, .inr (.inr (.ref 88))), (1, .inl (a1)), (2, .inl (a2)), (3, .inr (.inl (v1))), (5, .inl (v2))]) (st' := [.inr (.inl (200)), .inr (.inl (0)), .inr (.inl ((sg_n ((v_rowAt σ (a1) (v2))))))]) (σ' := σ3) rfl ?_
        rw [show (sg_n ((v_rowAt σ (a1) (v2)))) = (v_rowAt σ (a1) (v2)) from by rw [sg_id r88]]
        refine wk_callp tt_241 rfl rfl rfl rfl rfl tt_258 rfl (by decide) (w_in z σ3 ((v_rowAt σ (a1) (v2))) (0) (200) (sg_Rgl2 r88) (by decide) (by decide) ) ?_
        refine wk_b tt_241 2 (pc' := 31) (ls' := [(6, .inl ((v_in ((v_rowAt σ (a1) (v2))) (0) (200)))), (0, .inr (.inr (.ref 88))), (1, .inl (a1)), (2, .inl (a2)), (3, .inr (.inl (v1))), (5, .inl (v2))]) (st' := [.inl ((v_in ((v_rowAt σ (a1) (v2))) (0) (200)))]) (σ' := σ3) rfl ?_
        obtain ⟨P91, w, w94⟩ := w
        have jn90 : ∀ (σ92 : sg_S), sg_F [103088, 104088] σ3 σ92 → P91 σ92 → wx z 2 241 41 [(0, .inr (.inr (.ref 88))), (1, .inl (a1)), (2, .inl (a2)), (3, .inr (.inl (v1))), (5, .inl (v2)), (6, .inl ((v_in ((v_rowAt σ (a1) (v2))) (0) (200))))] [] σ92 (fun v σ' => ∃ q, v = some (.inl q) ∧ sg_R q ∧ sg_F [139, 140, 141, 142, 150, 74088, 85088, 86088, 88088, 92088, 103088, 104088] σ σ' ∧ Q q σ') := by
          intro σ92 hF93 w
          have w := w94 σ92 hF93 w
          refine wk_b tt_241 4 (pc' := 49) (ls' := [(0, .inr (.inr (.ref 88))), (1, .inl (a1)), (2, .inl (a2)), (3, .inr (.inl (v1))), (5, .inl (v2)), (6, .inl ((v_in ((v_rowAt σ (a1) (v2))) (0) (200))))]) (st' := [.inl ((v_in ((v_rowAt σ (a1) (v2))) (0) (200))), .inl (v2), .inr (.inr (.ref 150))]) (σ' := σ92) rfl ?_
          obtain ⟨wp, w⟩ := w
          have jn96 : ∀ v97 : Int, v97 = (if (v_in ((v_rowAt σ (a1) (v2))) (0) (200)) = 0 then (0 : Int) else (v_rowAt σ (a1) (v2))) → sg_R v97 → wx z 2 241 63 [(0, .inr (.inr (.ref 88))), (1, .inl (a1)), (2, .inl (a2)), (3, .inr (.inl (v1))), (5, .inl (v2))] [.inl (v97), .inl (v2), .inr (.inr (.ref 150))] σ92 (fun v σ' => ∃ q, v = some (.inl q) ∧ sg_R q ∧ sg_F [139, 140, 141, 142, 150, 74088, 85088, 86088, 88088, 92088, 103088, 104088] σ σ' ∧ Q q σ') := by
            intro v97 e99 r98
            have w := w v97 e99 r98
            obtain ⟨c100, w⟩ := w
            refine wk_is tt_241 rfl rfl c100.1 c100.2 r9 ?_
            generalize hs102 : (sg_w σ92 150 (v2) (v97)) = σ101
            have w := w σ101 hs102.symm
            have hF103 : sg_F [150] σ92 σ101 := by rw [← hs102]; exact sg_F_w (sg_F_r _ _) rfl _
            refine wk_b tt_241 4 (pc' := 71) (ls' := [(0, .inr (.inr (.ref 88))), (1, .inl (a1)), (2, .inl (a2)), (3, .inr (.inl (v1))), (5, .inl (v2))]) (st' := [.inl (v2), .inr (.inr (.ref 150)), .inr (.inl (v1))]) (σ' := σ101) rfl ?_
            refine wk_ia tt_241 rfl rfl c100.1 c100.2 r9 ?_
            obtain ⟨c104, w⟩ := w
            obtain ⟨c105, w⟩ := w
            refine wk_b tt_241 5 (pc' := 6) (ls' := [(5, .inl ((v2 + 1))), (3, .inr (.inl ((v1 + (sg_n ((sg_g σ101 150 (v2)))))))), (0, .inr (.inr (.ref 88))), (1, .inl (a1)), (2, .inl (a2))]) (st' := []) (σ' := σ101) rfl ?_
            rw [show (sg_n ((sg_g σ101 150 (v2)))) = (sg_g σ101 150 (v2)) from by rw [sg_id (sg_Rg _ _ _)]]
            obtain ⟨m106, hm106, w⟩ := w
            exact wk_ls [(0, .inr (.inr (.ref 88))), (1, .inl (a1)), (2, .inl (a2)), (3, .inr (.inl ((v1 + (sg_g σ101 150 (v2)))))), (5, .inl ((v2 + 1)))] rfl ⟨rfl, rfl, rfl, rfl, rfl, trivial⟩ (ih10 m106 hm106 ((v1 + (sg_g σ101 150 (v2)))) ((v2 + 1)) σ101 c104 c105 (sg_F_t (sg_F_t (sg_F_t (sg_F_r [150, 103088, 104088] σ) (sg_F_m (L := [150, 103088, 104088]) hF4 rfl)) (sg_F_m (L := [150, 103088, 104088]) hF93 rfl)) (sg_F_m (L := [150, 103088, 104088]) hF103 rfl)) w)
          have w := wp
          refine wk_if tt_241 (tgt := 62) rfl rfl (sg_Rz (vz_in ..)) (fun (h95 : (v_in ((v_rowAt σ (a1) (v2))) (0) (200)) = 0) => ?_) (fun (h95 : ¬ (v_in ((v_rowAt σ (a1) (v2))) (0) (200)) = 0) => ?_)
          ·
            have w := w.1 h95
            refine wk_b tt_241 1 (pc' := 63) (ls' := [(0, .inr (.inr (.ref 88))), (1, .inl (a1)), (2, .inl (a2)), (3, .inr (.inl (v1))), (5, .inl (v2)), (6, .inl ((v_in ((v_rowAt σ (a1) (v2))) (0) (200))))]) (st' := [.inl (0), .inl (v2), .inr (.inr (.ref 150))]) (σ' := σ92) rfl ?_
            exact wk_ls [(0, .inr (.inr (.ref 88))), (1, .inl (a1)), (2, .inl (a2)), (3, .inr (.inl (v1))), (5, .inl (v2))] rfl ⟨rfl, rfl, rfl, rfl, rfl, trivial⟩ (jn96 (0) (by simp only [if_pos h95]) (by decide))
          ·
            have w := w.2 h95
            refine wk_b tt_241 3 (pc' := 56) (ls' := [(0, .inr (.inr (.ref 88))), (1, .inl (a1)), (2, .inl (a2)), (3, .inr (.inl (v1))), (5, .inl (v2)), (6, .inl ((v_in ((v_rowAt σ (a1) (v2))) (0) (200))))]) (st' := [.inl (v2), .inl (a1), .inr (.inr (.ref 88)), .inl (v2), .inr (.inr (.ref 150))]) (σ' := σ92) rfl ?_
            obtain ⟨c107, w⟩ := w
            have c107 : p_rowAt σ92 (a1) (v2) := by
              rw [pF_rowAt hF93 rfl rfl, pF_rowAt hF4 rfl rfl]; exact c107
            refine wk_callp tt_241 rfl rfl rfl rfl rfl tt_322 rfl (by decide) (w_rowAt z σ92 (a1) (v2) ra1 r9 c107) ?_
            rw [vF_rowAt hF93 rfl rfl, vF_rowAt hF4 rfl rfl]
            have r108 := vr_rowAt σ  (a1) (v2) ra1 r9 (by have q := c107; rw [pF_rowAt hF93 rfl rfl, pF_rowAt hF4 rfl rfl] at q; exact q)
            refine wk_b tt_241 1 (pc' := 63) (ls' := [(0, .inr (.inr (.ref 88))), (1, .inl (a1)), (2, .inl (a2)), (3, .inr (.inl (v1))), (5, .inl (v2)), (6, .inl ((v_in ((v_rowAt σ (a1) (v2))) (0) (200))))]) (st' := [.inl ((v_rowAt σ (a1) (v2))), .inl (v2), .inr (.inr (.ref 150))]) (σ' := σ92) rfl ?_
            exact wk_ls [(0, .inr (.inr (.ref 88))), (1, .inl (a1)), (2, .inl (a2)), (3, .inr (.inl (v1))), (5, .inl (v2))] rfl ⟨rfl, rfl, rfl, rfl, rfl, trivial⟩ (jn96 ((v_rowAt σ (a1) (v2))) (by simp only [if_neg (show ¬ ((v_in ((v_rowAt σ (a1) (v2))) (0) (200)) = 0) by omega)]) r108)
        refine wk_if tt_241 (tgt := 41) rfl rfl (sg_Rz (vz_in ..)) (fun (h89 : ¬ (v_in ((v_rowAt σ (a1) (v2))) (0) (200)) = 0) => ?_) (fun (h89 : (v_in ((v_rowAt σ (a1) (v2))) (0) (200)) = 0) => ?_)
        ·
          have w := w.1 h89
          exact wk_ls [(0, .inr (.inr (.ref 88))), (1, .inl (a1)), (2, .inl (a2)), (3, .inr (.inl (v1))), (5, .inl (v2)), (6, .inl ((v_in ((v_rowAt σ (a1) (v2))) (0) (200))))] rfl ⟨rfl, rfl, rfl, rfl, rfl, rfl, trivial⟩ (jn90 σ3 (sg_F_r [103088, 104088] σ3) w)
        ·
          have w := w.2 h89
          refine wk_b tt_241 3 (pc' := 38) (ls' := [(6, .inl ((v_in ((v_rowAt σ (a1) (v2))) (0) (200)))), (0, .inr (.inr (.ref 88))), (1, .inl (a1)), (2, .inl (a2)), (3, .inr (.inl (v1))), (5, .inl (v2))]) (st' := [.inl (5), .inl (v2), .inr (.inr (.ref 88))]) (σ' := σ3) rfl ?_
          refine wk_call tt_241 rfl rfl rfl rfl rfl tt_276 rfl (by decide) (w_lacks z σ3 (v2) (5) _ r9 (by decide) w) (fun u114 σ110 hq112 => ?_)
          obtain ⟨rfl, hF111, w⟩ := hq112
          have w := w hF111
          exact wk_ls [(0, .inr (.inr (.ref 88))), (1, .inl (a1)), (2, .inl (a2)), (3, .inr (.inl (v1))), (5, .inl (v2)), (6, .inl ((v_in ((v_rowAt σ (a1) (v2))) (0) (200))))] rfl ⟨rfl, rfl, rfl, rfl, rfl, rfl, trivial⟩ (jn90 σ110 (sg_F_t (sg_F_r [103088, 104088] σ3) (sg_F_m (L := [103088, 104088]) hF111 rfl)) w)
  exact wk_ls [(0, .inr (.inr (.ref 88))), (1, .inl (a1)), (2, .inl (a2)), (3, .inr (.inl (a2))), (5, .inl (0))] rfl ⟨rfl, rfl, rfl, rfl, rfl, trivial⟩ (lp12 μ6 (a2) (0) σ (sg_Rgl2 ra2) (by decide) (sg_F_r _ _) w13)
-- NestedVectorsModel.flatWorked
def V_flatWorked_16 (σ : sg_S) (b3 : Int) (b4 : Int) (Q : Int → sg_S → Prop) : Prop := V_flatIota σ (b4) (b3) (fun q1 σ2 => sg_R q1 → sg_F [139, 140, 141, 142, 150, 74088, 85088, 86088, 88088, 92088, 103088, 104088] σ σ2 → Q (q1) σ2)
set_option maxHeartbeats 4000000 in
set_option maxRecDepth 8000 in
theorem w_flatWorked_16 (z : Value) (σ : sg_S) (b3 : Int) (b4 : Int) (Q : Int → sg_S → Prop) (rb3 : sg_R b3) (rb4 : sg_R b4) (w : V_flatWorked_16 σ b3 b4 Q) : wx z 3 246 271 [(0, .inr (.inr (.ref 88))), (3, .inl (b3)), (4, .inl (b4))] [] σ (fun v σ' => ∃ q, v = some (.inl q) ∧ sg_R q ∧ sg_F [139, 140, 141, 142, 150, 74088, 85088, 86088, 88088, 92088, 103088, 104088] σ σ' ∧ Q q σ') := by
  unfold V_flatWorked_16 at w
  refine wk_b tt_246 3 (pc' := 275) (ls' := [(0, .inr (.inr (.ref 88))), (3, .inl (b3)), (4, .inl (b4))]) (st' := [.inl (b3), .inl (b4), .inr (.inr (.ref 88))]) (σ' := σ) rfl ?_
  refine wk_call tt_246 rfl rfl rfl rfl rfl tt_241 rfl (by decide) (w_flatIota z σ (b4) (b3) _ rb4 rb3 w) (fun u6 σ2 hq4 => ?_)
  obtain ⟨q1, rfl, r5, hF3, w⟩ := hq4
  have w := w r5 hF3
  exact wk_rI tt_246 rfl rfl ⟨_, rfl, r5, (sg_F_t (sg_F_r [139, 140, 141, 142, 150, 74088, 85088, 86088, 88088, 92088, 103088, 104088] σ) (sg_F_m (L := [139, 140, 141, 142, 150, 74088, 85088, 86088, 88088, 92088, 103088, 104088]) hF3 rfl)), w⟩
-- NestedVectorsModel.flatDist
def V_flatDist (σ : sg_S) (a1 : Int) (a2 : Int) (a3 : Int) (Q : Int → sg_S → Prop) : Prop := (∃ (I5 : Nat → Int → Int → sg_S → Prop) (X7 : Int → sg_S → Prop), (∃ n, I5 n (a3) (0) σ) ∧ (∀ (n16 : Nat) (v1 : Int) (v2 : Int) (σ3 : sg_S), sg_RL v1 → sg_R v2 → sg_F [150, 103088, 104088] σ σ3 → I5 n16 v1 v2 σ3 → ((a3 ≤ v2 → X7 (v1) σ3) ∧ (v2 < a3 → p_rowAt σ (a2) (v2) ∧ (∃ P108 : sg_S → Prop, ((¬ (v_in ((v_rowAt σ (a2) (v2))) (0) (200)) = 0 → P108 σ3) ∧ ((v_in ((v_rowAt σ (a2) (v2))) (0) (200)) = 0 → V_lacks σ3 (v2) (5) (fun σ127 => sg_F [103088, 104088] σ3 σ127 → P108 σ127))) ∧ (∀ (σ109 : sg_S), sg_F [103088, 104088] σ3 σ109 → P108 σ109 → (((v_in ((v_rowAt σ (a2) (v2))) (0) (200)) = 0 → True) ∧ (¬ (v_in ((v_rowAt σ (a2) (v2))) (0) (200)) = 0 → p_rowAt σ (a2) (v2) ∧ True)) ∧ ∀ v114 : Int, v114 = (if (v_in ((v_rowAt σ (a2) (v2))) (0) (200)) = 0 then (0 : Int) else (v_rowAt σ (a2) (v2))) → sg_R v114 → (0 ≤ v2 ∧ v2 < 13000) ∧ ∀ σ118, σ118 = (sg_w σ109 150 (v2) (v114)) → sg_RL (v1 + (sg_g σ118 150 (v2))) ∧ sg_R (v2 + 1) ∧ (∃ m, m < n16 ∧ I5 m ((v1 + (sg_g σ118 150 (v2)))) ((v2 + 1)) σ118)))))) ∧ (∀ (v1 : Int) (σ3 : sg_S), sg_RL v1 → sg_F [150, 103088, 104088] σ σ3 → X7 v1 σ3 → ((v1 ≤ 6000 → ∀ σ19, σ19 = (sg_w σ3 88 93 (0)) → (∃ (I25 : Nat → Int → sg_S → Prop) (X27 : sg_S → Prop), (∃ n, I25 n (0) σ19) ∧ (∀ (n35 : Nat) (v22 : Int) (σ23 : sg_S), sg_R v22 → sg_F [143, 94088] σ19 σ23 → I25 n35 v22 σ23 → ((a3 ≤ v22 → X27 σ23) ∧ (v22 < a3 → (∃ (I73 : Nat → Int → sg_S → Prop) (X75 : sg_S → Prop), (∃ n, I73 n (0) σ23) ∧ (∀ (n83 : Nat) (v70 : Int) (σ71 : sg_S), sg_R v70 → sg_F [143, 94088] σ23 σ71 → I73 n83 v70 σ71 → (0 ≤ v22 ∧ v22 < 13000) ∧ (((sg_g σ3 150 (v22)) ≤ v70 → X75 σ71) ∧ (v70 < (sg_g σ3 150 (v22)) → V_list σ71 (v22) (fun σ90 => sg_F [143, 94088] σ71 σ90 → sg_R (v70 + 1) ∧ (∃ m, m < n83 ∧ I73 m ((v70 + 1)) σ90))))) ∧ (∀ (σ71 : sg_S), sg_F [143, 94088] σ23 σ71 → X75 σ71 → sg_R (v22 + 1) ∧ (∃ m, m < n35 ∧ I25 m ((v22 + 1)) σ71)))))) ∧ (∀ (σ23 : sg_S), sg_F [143, 94088] σ19 σ23 → X27 σ23 → V_extentOfLanes σ23 (a1) (fun q37 σ38 => sg_RL q37 → sg_F [144] σ23 σ38 → sg_RL (a3 + q37) ∧ V_stepped σ38 ((a3 + q37)) (fun q44 σ45 => (q44 = 0 ∨ q44 = 1) → sg_F [74088, 85088, 86088] σ38 σ45 → ((¬ q44 = 0 → V_gathered σ45 (a1) (fun q51 σ52 => sg_R q51 → sg_F [139, 140, 141, 142, 144, 88088, 92088] σ45 σ52 → V_putLens σ52 (a3) (fun q57 σ58 => sg_R q57 → sg_F [142, 92088] σ52 σ58 → V_outer σ58 (q57) (a3) (q51) (fun q63 σ64 => sg_R q63 → sg_F [139, 140, 141, 88088] σ58 σ64 → Q (q63) σ64)))) ∧ (q44 = 0 → Q (0) σ45))))))) ∧ (6000 < v1 → V_stepped σ3 (v1) (fun q97 σ98 => (q97 = 0 ∨ q97 = 1) → sg_F [74088, 85088, 86088] σ3 σ98 → Q (0) σ98)))))
set_option maxHeartbeats 4000000 in
set_option maxRecDepth 8000 in
theorem w_flatDist (z : Value) (σ : sg_S) (a1 : Int) (a2 : Int) (a3 : Int) (Q : Int → sg_S → Prop) (ra1 : sg_R a1) (ra2 : sg_R a2) (ra3 : sg_R a3) (w : V_flatDist σ a1 a2 a3 Q) : wx z 3 235 0 [(0, .inr (.inr (.ref 88))), (1, .inl (a1)), (2, .inl (a2)), (3, .inl (a3))] [] σ (fun v σ' => ∃ q, v = some (.inl q) ∧ sg_R q ∧ sg_F [139, 140, 141, 142, 143, 144, 150, 74088, 85088, 86088, 88088, 92088, 94088, 103088, 104088] σ σ' ∧ Q q σ') := by
  unfold V_flatDist at w
  refine wk_b tt_235 5 (pc' := 7) (ls' := [(6, .inl (0)), (4, .inr (.inl ((sg_n (a3))))), (0, .inr (.inr (.ref 88))), (1, .inl (a1)), (2, .inl (a2)), (3, .inl (a3))]) (st' := []) (σ' := σ) rfl ?_
  rw [show (sg_n (a3)) = a3 from by rw [sg_id ra3]]
  obtain ⟨I5, X7, ⟨μ6, w13⟩, w14, w15⟩ := w
  have ex17 : ∀ (v1 : Int) (σ3 : sg_S), sg_RL v1 → sg_F [150, 103088, 104088] σ σ3 → X7 v1 σ3 → wx z 3 235 84 [(0, .inr (.inr (.ref 88))), (1, .inl (a1)), (3, .inl (a3)), (4, .inr (.inl (v1)))] [] σ3 (fun v σ' => ∃ q, v = some (.inl q) ∧ sg_R q ∧ sg_F [139, 140, 141, 142, 143, 144, 150, 74088, 85088, 86088, 88088, 92088, 94088, 103088, 104088] σ σ' ∧ Q q σ') := by
    intro v1 σ3 r8 hF4 w
    have w := w15 v1 σ3 r8 hF4 w
    refine wk_b tt_235 2 (pc' := 89) (ls' := [(0, .inr (.inr (.ref 88))), (1, .inl (a1)), (3, .inl (a3)), (4, .inr (.inl (v1)))]) (st' := [.inr (.inl (6000)), .inr (.inl (v1))]) (σ' := σ3) rfl ?_
    refine wk_lcif tt_235 (tgt := 103) rfl rfl rfl r8 (by decide) (fun (h18 : v1 ≤ 6000) => ?_) (fun (h18 : 6000 < v1) => ?_)
    ·
      have w := w.1 h18
      refine wk_b tt_235 3 (pc' := 108) (ls' := [(0, .inr (.inr (.ref 88))), (1, .inl (a1)), (3, .inl (a3)), (4, .inr (.inl (v1)))]) (st' := []) (σ' := (sg_w σ3 88 93 (0))) rfl ?_
      generalize hs20 : (sg_w σ3 88 93 (0)) = σ19
      have w := w σ19 hs20.symm
      have hF21 : sg_F [94088] σ3 σ19 := by rw [← hs20]; exact sg_F_w (sg_F_r _ _) rfl _
      refine wk_b tt_235 2 (pc' := 111) (ls' := [(6, .inl (0)), (0, .inr (.inr (.ref 88))), (1, .inl (a1)), (3, .inl (a3)), (4, .inr (.inl (v1)))]) (st' := []) (σ' := σ19) rfl ?_
      obtain ⟨I25, X27, ⟨μ26, w32⟩, w33, w34⟩ := w
      have ex36 : ∀ (σ23 : sg_S), sg_F [143, 94088] σ19 σ23 → X27 σ23 → wx z 3 235 150 [(0, .inr (.inr (.ref 88))), (1, .inl (a1)), (3, .inl (a3))] [] σ23 (fun v σ' => ∃ q, v = some (.inl q) ∧ sg_R q ∧ sg_F [139, 140, 141, 142, 143, 144, 150, 74088, 85088, 86088, 88088, 92088, 94088, 103088, 104088] σ σ' ∧ Q q σ') := by
        intro σ23 hF24 w
        have w := w34 σ23 hF24 w
        refine wk_b tt_235 5 (pc' := 155) (ls' := [(0, .inr (.inr (.ref 88))), (1, .inl (a1)), (3, .inl (a3))]) (st' := [.inl (a1), .inr (.inr (.ref 88)), .inr (.inl ((sg_n (a3)))), .inr (.inr (.ref 88))]) (σ' := σ23) rfl ?_
        rw [show (sg_n (a3)) = a3 from by rw [sg_id ra3]]
        refine wk_call tt_235 rfl rfl rfl rfl rfl tt_227 rfl (by decide) (w_extentOfLanes z σ23 (a1) _ ra1 w) (fun u42 σ38 hq40 => ?_)
        obtain ⟨q37, rfl, r41, hF39, w⟩ := hq40
        have w := w r41 hF39
        obtain ⟨c43, w⟩ := w
        refine wk_b tt_235 1 (pc' := 159) (ls' := [(0, .inr (.inr (.ref 88))), (1, .inl (a1)), (3, .inl (a3))]) (st' := [.inr (.inl ((a3 + q37))), .inr (.inr (.ref 88))]) (σ' := σ38) rfl ?_
        refine wk_call tt_235 rfl rfl rfl rfl rfl tt_329 rfl (by decide) (w_stepped z σ38 ((a3 + q37)) _ c43 w) (fun u49 σ45 hq47 => ?_)
        obtain ⟨q44, rfl, r48, hF46, w⟩ := hq47
        have w := w r48 hF46
        refine wk_if tt_235 (tgt := 167) rfl rfl (sg_Rz r48) (fun (h50 : ¬ q44 = 0) => ?_) (fun (h50 : q44 = 0) => ?_)
        ·
          have w := w.1 h50
          refine wk_b tt_235 2 (pc' := 169) (ls' := [(0, .inr (.inr (.ref 88))), (1, .inl (a1)), (3, .inl (a3))]) (st' := [.inl (a1), .inr (.inr (.ref 88))]) (σ' := σ45) rfl ?_
          refine wk_call tt_235 rfl rfl rfl rfl rfl tt_249 rfl (by decide) (w_gathered z σ45 (a1) _ ra1 w) (fun u56 σ52 hq54 => ?_)
          obtain ⟨q51, rfl, r55, hF53, w⟩ := hq54
          have w := w r55 hF53
          refine wk_b tt_235 3 (pc' := 176) (ls' := [(6, .inl (q51)), (0, .inr (.inr (.ref 88))), (1, .inl (a1)), (3, .inl (a3))]) (st' := [.inl (a3), .inr (.inr (.ref 88))]) (σ' := σ52) rfl ?_
          refine wk_call tt_235 rfl rfl rfl rfl rfl tt_309 rfl (by decide) (w_putLens z σ52 (a3) _ ra3 w) (fun u62 σ58 hq60 => ?_)
          obtain ⟨q57, rfl, r61, hF59, w⟩ := hq60
          have w := w r61 hF59
          refine wk_b tt_235 5 (pc' := 187) (ls' := [(7, .inl (q57)), (6, .inl (q51)), (0, .inr (.inr (.ref 88))), (1, .inl (a1)), (3, .inl (a3))]) (st' := [.inl (q51), .inl (a3), .inl (q57), .inr (.inr (.ref 88))]) (σ' := σ58) rfl ?_
          refine wk_call tt_235 rfl rfl rfl rfl rfl tt_300 rfl (by decide) (w_outer z σ58 (q57) (a3) (q51) _ r61 ra3 r55 w) (fun u68 σ64 hq66 => ?_)
          obtain ⟨q63, rfl, r67, hF65, w⟩ := hq66
          have w := w r67 hF65
          exact wk_rI tt_235 rfl rfl ⟨_, rfl, r67, (sg_F_t (sg_F_t (sg_F_t (sg_F_t (sg_F_t (sg_F_t (sg_F_t (sg_F_t (sg_F_r [139, 140, 141, 142, 143, 144, 150, 74088, 85088, 86088, 88088, 92088, 94088, 103088, 104088] σ) (sg_F_m (L := [139, 140, 141, 142, 143, 144, 150, 74088, 85088, 86088, 88088, 92088, 94088, 103088, 104088]) hF4 rfl)) (sg_F_m (L := [139, 140, 141, 142, 143, 144, 150, 74088, 85088, 86088, 88088, 92088, 94088, 103088, 104088]) hF21 rfl)) (sg_F_m (L := [139, 140, 141, 142, 143, 144, 150, 74088, 85088, 86088, 88088, 92088, 94088, 103088, 104088]) hF24 rfl)) (sg_F_m (L := [139, 140, 141, 142, 143, 144, 150, 74088, 85088, 86088, 88088, 92088, 94088, 103088, 104088]) hF39 rfl)) (sg_F_m (L := [139, 140, 141, 142, 143, 144, 150, 74088, 85088, 86088, 88088, 92088, 94088, 103088, 104088]) hF46 rfl)) (sg_F_m (L := [139, 140, 141, 142, 143, 144, 150, 74088, 85088, 86088, 88088, 92088, 94088, 103088, 104088]) hF53 rfl)) (sg_F_m (L := [139, 140, 141, 142, 143, 144, 150, 74088, 85088, 86088, 88088, 92088, 94088, 103088, 104088]) hF59 rfl)) (sg_F_m (L := [139, 140, 141, 142, 143, 144, 150, 74088, 85088, 86088, 88088, 92088, 94088, 103088, 104088]) hF65 rfl)), w⟩
        ·
          have w := w.2 h50
          refine wk_b tt_235 1 (pc' := 166) (ls' := [(0, .inr (.inr (.ref 88))), (1, .inl (a1)), (3, .inl (a3))]) (st' := [.inl (0)]) (σ' := σ45) rfl ?_
          exact wk_rI tt_235 rfl rfl ⟨_, rfl, (by decide), (sg_F_t (sg_F_t (sg_F_t (sg_F_t (sg_F_t (sg_F_r [139, 140, 141, 142, 143, 144, 150, 74088, 85088, 86088, 88088, 92088, 94088, 103088, 104088] σ) (sg_F_m (L := [139, 140, 141, 142, 143, 144, 150, 74088, 85088, 86088, 88088, 92088, 94088, 103088, 104088]) hF4 rfl)) (sg_F_m (L := [139, 140, 141, 142, 143, 144, 150, 74088, 85088, 86088, 88088, 92088, 94088, 103088, 104088]) hF21 rfl)) (sg_F_m (L := [139, 140, 141, 142, 143, 144, 150, 74088, 85088, 86088, 88088, 92088, 94088, 103088, 104088]) hF24 rfl)) (sg_F_m (L := [139, 140, 141, 142, 143, 144, 150, 74088, 85088, 86088, 88088, 92088, 94088, 103088, 104088]) hF39 rfl)) (sg_F_m (L := [139, 140, 141, 142, 143, 144, 150, 74088, 85088, 86088, 88088, 92088, 94088, 103088, 104088]) hF46 rfl)), w⟩
      have lp31 : ∀ (n35 : Nat) (v22 : Int) (σ23 : sg_S), sg_R v22 → sg_F [143, 94088] σ19 σ23 → I25 n35 v22 σ23 → wx z 3 235 111 [(0, .inr (.inr (.ref 88))), (1, .inl (a1)), (3, .inl (a3)), (6, .inl (v22))] [] σ23 (fun v σ' => ∃ q, v = some (.inl q) ∧ sg_R q ∧ sg_F [139, 140, 141, 142, 143, 144, 150, 74088, 85088, 86088, 88088, 92088, 94088, 103088, 104088] σ σ' ∧ Q q σ') := by
        intro n35
        induction n35 using Nat.strongRecOn with
        | _ n35 ih29 =>
          intro v22 σ23 r28 hF24 w
          have w := w33 n35 v22 σ23 r28 hF24 w
          refine wk_b tt_235 2 (pc' := 114) (ls' := [(0, .inr (.inr (.ref 88))), (1, .inl (a1)), (3, .inl (a3)), (6, .inl (v22))]) (st' := [.inl (a3), .inl (v22)]) (σ' := σ23) rfl ?_
          refine wk_if2 tt_235 (tgt := 150) rfl rfl r28 ra3 (fun (h69 : a3 ≤ v22) => ?_) (fun (h69 : v22 < a3) => ?_)
          ·
            have w := w.1 h69
            exact wk_ls [(0, .inr (.inr (.ref 88))), (1, .inl (a1)), (3, .inl (a3))] rfl ⟨rfl, rfl, rfl, trivial⟩ (ex36  σ23  (sg_F_t (sg_F_r [143, 94088] σ19) (sg_F_m (L := [143, 94088]) hF24 rfl)) w)
          ·
            have w := w.2 h69
            refine wk_b tt_235 2 (pc' := 120) (ls' := [(7, .inl (0)), (0, .inr (.inr (.ref 88))), (1, .inl (a1)), (3, .inl (a3)), (6, .inl (v22))]) (st' := []) (σ' := σ23) rfl ?_
            obtain ⟨I73, X75, ⟨μ74, w80⟩, w81, w82⟩ := w
            have ex84 : ∀ (σ71 : sg_S), sg_F [143, 94088] σ23 σ71 → X75 σ71 → wx z 3 235 144 [(0, .inr (.inr (.ref 88))), (1, .inl (a1)), (3, .inl (a3)), (6, .inl (v22))] [] σ71 (fun v σ' => ∃ q, v = some (.inl q) ∧ sg_R q ∧ sg_F [139, 140, 141, 142, 143, 144, 150, 74088, 85088, 86088, 88088, 92088, 94088, 103088, 104088] σ σ' ∧ Q q σ') := by
              intro σ71 hF72 w
              have w := w82 σ71 hF72 w
              obtain ⟨c85, w⟩ := w
              refine wk_b tt_235 2 (pc' := 111) (ls' := [(6, .inl ((v22 + 1))), (0, .inr (.inr (.ref 88))), (1, .inl (a1)), (3, .inl (a3))]) (st' := []) (σ' := σ71) rfl ?_
              obtain ⟨m86, hm86, w⟩ := w
              exact wk_ls [(0, .inr (.inr (.ref 88))), (1, .inl (a1)), (3, .inl (a3)), (6, .inl ((v22 + 1)))] rfl ⟨rfl, rfl, rfl, rfl, trivial⟩ (ih29 m86 hm86 ((v22 + 1)) σ71 c85 (sg_F_t (sg_F_t (sg_F_r [143, 94088] σ19) (sg_F_m (L := [143, 94088]) hF24 rfl)) (sg_F_m (L := [143, 94088]) hF72 rfl)) w)
            have lp79 : ∀ (n83 : Nat) (v70 : Int) (σ71 : sg_S), sg_R v70 → sg_F [143, 94088] σ23 σ71 → I73 n83 v70 σ71 → wx z 3 235 120 [(0, .inr (.inr (.ref 88))), (1, .inl (a1)), (3, .inl (a3)), (6, .inl (v22)), (7, .inl (v70))] [] σ71 (fun v σ' => ∃ q, v = some (.inl q) ∧ sg_R q ∧ sg_F [139, 140, 141, 142, 143, 144, 150, 74088, 85088, 86088, 88088, 92088, 94088, 103088, 104088] σ σ' ∧ Q q σ') := by
              intro n83
              induction n83 using Nat.strongRecOn with
              | _ n83 ih77 =>
                intro v70 σ71 r76 hF72 w
                have w := w81 n83 v70 σ71 r76 hF72 w
                refine wk_b tt_235 4 (pc' := 128) (ls' := [(0, .inr (.inr (.ref 88))), (1, .inl (a1)), (3, .inl (a3)), (6, .inl (v22)), (7, .inl (v70))]) (st' := [.inl (v22), .inr (.inr (.ref 150)), .inl (v70)]) (σ' := σ71) rfl ?_
                obtain ⟨c87, w⟩ := w
                refine wk_ia tt_235 rfl rfl c87.1 c87.2 r28 ?_
                rw [show (sg_g σ71 150 (v22)) = (sg_g σ3 150 (v22)) from by rw [sg_F_ga hF72 rfl, sg_F_ga hF24 rfl, sg_F_ga hF21 rfl]]
                refine wk_if2 tt_235 (tgt := 144) rfl rfl r76 (sg_Rg _ _ _) (fun (h88 : (sg_g σ3 150 (v22)) ≤ v70) => ?_) (fun (h88 : v70 < (sg_g σ3 150 (v22))) => ?_)
                ·
                  have w := w.1 h88
                  exact wk_ls [(0, .inr (.inr (.ref 88))), (1, .inl (a1)), (3, .inl (a3)), (6, .inl (v22))] rfl ⟨rfl, rfl, rfl, rfl, trivial⟩ (ex84  σ71  (sg_F_t (sg_F_r [143, 94088] σ23) (sg_F_m (L := [143, 94088]) hF72 rfl)) w)
                ·
                  have w := w.2 h88
                  refine wk_b tt_235 2 (pc' := 135) (ls' := [(0, .inr (.inr (.ref 88))), (1, .inl (a1)), (3, .inl (a3)), (6, .inl (v22)), (7, .inl (v70))]) (st' := [.inl (v22), .inr (.inr (.ref 88))]) (σ' := σ71) rfl ?_
                  refine wk_call tt_235 rfl rfl rfl rfl rfl tt_280 rfl (by decide) (w_list z σ71 (v22) _ r28 w) (fun u94 σ90 hq92 => ?_)
                  obtain ⟨rfl, hF91, w⟩ := hq92
                  have w := w hF91
                  obtain ⟨c95, w⟩ := w
                  refine wk_b tt_235 2 (pc' := 120) (ls' := [(7, .inl ((v70 + 1))), (0, .inr (.inr (.ref 88))), (1, .inl (a1)), (3, .inl (a3)), (6, .inl (v22))]) (st' := []) (σ' := σ90) rfl ?_
                  obtain ⟨m96, hm96, w⟩ := w
                  exact wk_ls [(0, .inr (.inr (.ref 88))), (1, .inl (a1)), (3, .inl (a3)), (6, .inl (v22)), (7, .inl ((v70 + 1)))] rfl ⟨rfl, rfl, rfl, rfl, rfl, trivial⟩ (ih77 m96 hm96 ((v70 + 1)) σ90 c95 (sg_F_t (sg_F_t (sg_F_r [143, 94088] σ23) (sg_F_m (L := [143, 94088]) hF72 rfl)) (sg_F_m (L := [143, 94088]) hF91 rfl)) w)
            exact wk_ls [(0, .inr (.inr (.ref 88))), (1, .inl (a1)), (3, .inl (a3)), (6, .inl (v22)), (7, .inl (0))] rfl ⟨rfl, rfl, rfl, rfl, rfl, trivial⟩ (lp79 μ74 (0) σ23 (by decide) (sg_F_r _ _) w80)
      exact wk_ls [(0, .inr (.inr (.ref 88))), (1, .inl (a1)), (3, .inl (a3)), (6, .inl (0))] rfl ⟨rfl, rfl, rfl, rfl, trivial⟩ (lp31 μ26 (0) σ19 (by decide) (sg_F_r _ _) w32)
    ·
      have w := w.2 h18
      refine wk_b tt_235 2 (pc' := 96) (ls' := [(0, .inr (.inr (.ref 88))), (1, .inl (a1)), (3, .inl (a3)), (4, .inr (.inl (v1)))]) (st' := [.inr (.inl (v1)), .inr (.inr (.ref 88))]) (σ' := σ3) rfl ?_
      refine wk_call tt_235 rfl rfl rfl rfl rfl tt_329 rfl (by decide) (w_stepped z σ3 (v1) _ r8 w) (fun u102 σ98 hq100 => ?_)
      obtain ⟨q97, rfl, r101, hF99, w⟩ := hq100
      have w := w r101 hF99
      refine wk_b tt_235 2 (pc' := 102) (ls' := [(6, .inl (q97)), (0, .inr (.inr (.ref 88))), (1, .inl (a1)), (3, .inl (a3)), (4, .inr (.inl (v1)))]) (st' := [.inl (0)]) (σ' := σ98) rfl ?_
      exact wk_rI tt_235 rfl rfl ⟨_, rfl, (by decide), (sg_F_t (sg_F_t (sg_F_r [139, 140, 141, 142, 143, 144, 150, 74088, 85088, 86088, 88088, 92088, 94088, 103088, 104088] σ) (sg_F_m (L := [139, 140, 141, 142, 143, 144, 150, 74088, 85088, 86088, 88088, 92088, 94088, 103088, 104088]) hF4 rfl)) (sg_F_m (L := [139, 140, 141, 142, 143, 144, 150, 74088, 85088, 86088, 88088, 92088, 94088, 103088, 104088]) hF99 rfl)), w⟩
  have lp12 : ∀ (n16 : Nat) (v1 : Int) (v2 : Int) (σ3 : sg_S), sg_RL v1 → sg_R v2 → sg_F [150, 103088, 104088] σ σ3 → I5 n16 v1 v2 σ3 → wx z 3 235 7 [(0, .inr (.inr (.ref 88))), (1, .inl (a1)), (2, .inl (a2)), (3, .inl (a3)), (4, .inr (.inl (v1))), (6, .inl (v2))] [] σ3 (fun v σ' => ∃ q, v = some (.inl q) ∧ sg_R q ∧ sg_F [139, 140, 141, 142, 143, 144, 150, 74088, 85088, 86088, 88088, 92088, 94088, 103088, 104088] σ σ' ∧ Q q σ') := by
    intro n16
    induction n16 using Nat.strongRecOn with
    | _ n16 ih10 =>
      intro v1 v2 σ3 r8 r9 hF4 w
      have w := w14 n16 v1 v2 σ3 r8 r9 hF4 w
      refine wk_b tt_235 2 (pc' := 10) (ls' := [(0, .inr (.inr (.ref 88))), (1, .inl (a1)), (2, .inl (a2)), (3, .inl (a3)), (4, .inr (.inl (v1))), (6, .inl (v2))]) (st' := [.inl (a3), .inl (v2)]) (σ' := σ3) rfl ?_
      refine wk_if2 tt_235 (tgt := 84) rfl rfl r9 ra3 (fun (h103 : a3 ≤ v2) => ?_) (fun (h103 : v2 < a3) => ?_)
      ·
        have w := w.1 h103
        exact wk_ls [(0, .inr (.inr (.ref 88))), (1, .inl (a1)), (3, .inl (a3)), (4, .inr (.inl (v1)))] rfl ⟨rfl, rfl, rfl, rfl, trivial⟩ (ex17 (v1) σ3 r8 (sg_F_t (sg_F_r [150, 103088, 104088] σ) (sg_F_m (L := [150, 103088, 104088]) hF4 rfl)) w)
      ·
        have w := w.2 h103
        refine wk_b tt_235 3 (pc' := 17) (ls' := [(0, .inr (.inr (.ref 88))), (1, .inl (a1)), (2, .inl (a2)), (3, .inl (a3)), (4, .inr (.inl (v1))), (6, .inl (v2))]) (st' := [.inl (v2), .inl (a2), .inr (.inr (.ref 88))]) (σ' := σ3) rfl ?_
        obtain ⟨c104, w⟩ := w
        have c104 : p_rowAt σ3 (a2) (v2) := by
          rw [pF_rowAt hF4 rfl rfl]; exact c104
        refine wk_callp tt_235 rfl rfl rfl rfl rfl tt_322 rfl (by decide) (w_rowAt z σ3 (a2) (v2) ra2 r9 c104) ?_
        rw [vF_rowAt hF4 rfl rfl]
        have r105 := vr_rowAt σ  (a2) (v2) ra2 r9 (by have q := c104; rw [pF_rowAt hF4 rfl rfl] at q; exact q)
        refine wk_b tt_235 3 (pc' := 25) (ls' := [(0, .inr (.inr (.ref 88))), (1, .inl (a1)), (2, .inl (a2)), (3, .inl (a3)), (4, .inr (.inl (v1))), (6, .inl (v2))]) (st' := [.inr (.inl (200)), .inr (.inl (0)), .inr (.inl ((sg_n ((v_rowAt σ (a2) (v2))))))]) (σ' := σ3) rfl ?_
        rw [show (sg_n ((v_rowAt σ (a2) (v2)))) = (v_rowAt σ (a2) (v2)) from by rw [sg_id r105]]
        refine wk_callp tt_235 rfl rfl rfl rfl rfl tt_258 rfl (by decide) (w_in z σ3 ((v_rowAt σ (a2) (v2))) (0) (200) (sg_Rgl2 r105) (by decide) (by decide) ) ?_
        refine wk_b tt_235 2 (pc' := 32) (ls' := [(7, .inl ((v_in ((v_rowAt σ (a2) (v2))) (0) (200)))), (0, .inr (.inr (.ref 88))), (1, .inl (a1)), (2, .inl (a2)), (3, .inl (a3)), (4, .inr (.inl (v1))), (6, .inl (v2))]) (st' := [.inl ((v_in ((v_rowAt σ (a2) (v2))) (0) (200)))]) (σ' := σ3) rfl ?_
        obtain ⟨P108, w, w111⟩ := w
        have jn107 : ∀ (σ109 : sg_S), sg_F [103088, 104088] σ3 σ109 → P108 σ109 → wx z 3 235 42 [(0, .inr (.inr (.ref 88))), (1, .inl (a1)), (2, .inl (a2)), (3, .inl (a3)), (4, .inr (.inl (v1))), (6, .inl (v2)), (7, .inl ((v_in ((v_rowAt σ (a2) (v2))) (0) (200))))] [] σ109 (fun v σ' => ∃ q, v = some (.inl q) ∧ sg_R q ∧ sg_F [139, 140, 141, 142, 143, 144, 150, 74088, 85088, 86088, 88088, 92088, 94088, 103088, 104088] σ σ' ∧ Q q σ') := by
          intro σ109 hF110 w
          have w := w111 σ109 hF110 w
          refine wk_b tt_235 4 (pc' := 50) (ls' := [(0, .inr (.inr (.ref 88))), (1, .inl (a1)), (2, .inl (a2)), (3, .inl (a3)), (4, .inr (.inl (v1))), (6, .inl (v2)), (7, .inl ((v_in ((v_rowAt σ (a2) (v2))) (0) (200))))]) (st' := [.inl ((v_in ((v_rowAt σ (a2) (v2))) (0) (200))), .inl (v2), .inr (.inr (.ref 150))]) (σ' := σ109) rfl ?_
          obtain ⟨wp, w⟩ := w
          have jn113 : ∀ v114 : Int, v114 = (if (v_in ((v_rowAt σ (a2) (v2))) (0) (200)) = 0 then (0 : Int) else (v_rowAt σ (a2) (v2))) → sg_R v114 → wx z 3 235 64 [(0, .inr (.inr (.ref 88))), (1, .inl (a1)), (2, .inl (a2)), (3, .inl (a3)), (4, .inr (.inl (v1))), (6, .inl (v2))] [.inl (v114), .inl (v2), .inr (.inr (.ref 150))] σ109 (fun v σ' => ∃ q, v = some (.inl q) ∧ sg_R q ∧ sg_F [139, 140, 141, 142, 143, 144, 150, 74088, 85088, 86088, 88088, 92088, 94088, 103088, 104088] σ σ' ∧ Q q σ') := by
            intro v114 e116 r115
            have w := w v114 e116 r115
            obtain ⟨c117, w⟩ := w
            refine wk_is tt_235 rfl rfl c117.1 c117.2 r9 ?_
            generalize hs119 : (sg_w σ109 150 (v2) (v114)) = σ118
            have w := w σ118 hs119.symm
            have hF120 : sg_F [150] σ109 σ118 := by rw [← hs119]; exact sg_F_w (sg_F_r _ _) rfl _
            refine wk_b tt_235 4 (pc' := 73) (ls' := [(0, .inr (.inr (.ref 88))), (1, .inl (a1)), (2, .inl (a2)), (3, .inl (a3)), (4, .inr (.inl (v1))), (6, .inl (v2))]) (st' := [.inl (v2), .inr (.inr (.ref 150)), .inr (.inl (v1))]) (σ' := σ118) rfl ?_
            refine wk_ia tt_235 rfl rfl c117.1 c117.2 r9 ?_
            obtain ⟨c121, w⟩ := w
            obtain ⟨c122, w⟩ := w
            refine wk_b tt_235 5 (pc' := 7) (ls' := [(6, .inl ((v2 + 1))), (4, .inr (.inl ((v1 + (sg_n ((sg_g σ118 150 (v2)))))))), (0, .inr (.inr (.ref 88))), (1, .inl (a1)), (2, .inl (a2)), (3, .inl (a3))]) (st' := []) (σ' := σ118) rfl ?_
            rw [show (sg_n ((sg_g σ118 150 (v2)))) = (sg_g σ118 150 (v2)) from by rw [sg_id (sg_Rg _ _ _)]]
            obtain ⟨m123, hm123, w⟩ := w
            exact wk_ls [(0, .inr (.inr (.ref 88))), (1, .inl (a1)), (2, .inl (a2)), (3, .inl (a3)), (4, .inr (.inl ((v1 + (sg_g σ118 150 (v2)))))), (6, .inl ((v2 + 1)))] rfl ⟨rfl, rfl, rfl, rfl, rfl, rfl, trivial⟩ (ih10 m123 hm123 ((v1 + (sg_g σ118 150 (v2)))) ((v2 + 1)) σ118 c121 c122 (sg_F_t (sg_F_t (sg_F_t (sg_F_r [150, 103088, 104088] σ) (sg_F_m (L := [150, 103088, 104088]) hF4 rfl)) (sg_F_m (L := [150, 103088, 104088]) hF110 rfl)) (sg_F_m (L := [150, 103088, 104088]) hF120 rfl)) w)
          have w := wp
          refine wk_if tt_235 (tgt := 63) rfl rfl (sg_Rz (vz_in ..)) (fun (h112 : (v_in ((v_rowAt σ (a2) (v2))) (0) (200)) = 0) => ?_) (fun (h112 : ¬ (v_in ((v_rowAt σ (a2) (v2))) (0) (200)) = 0) => ?_)
          ·
            have w := w.1 h112
            refine wk_b tt_235 1 (pc' := 64) (ls' := [(0, .inr (.inr (.ref 88))), (1, .inl (a1)), (2, .inl (a2)), (3, .inl (a3)), (4, .inr (.inl (v1))), (6, .inl (v2)), (7, .inl ((v_in ((v_rowAt σ (a2) (v2))) (0) (200))))]) (st' := [.inl (0), .inl (v2), .inr (.inr (.ref 150))]) (σ' := σ109) rfl ?_
            exact wk_ls [(0, .inr (.inr (.ref 88))), (1, .inl (a1)), (2, .inl (a2)), (3, .inl (a3)), (4, .inr (.inl (v1))), (6, .inl (v2))] rfl ⟨rfl, rfl, rfl, rfl, rfl, rfl, trivial⟩ (jn113 (0) (by simp only [if_pos h112]) (by decide))
          ·
            have w := w.2 h112
            refine wk_b tt_235 3 (pc' := 57) (ls' := [(0, .inr (.inr (.ref 88))), (1, .inl (a1)), (2, .inl (a2)), (3, .inl (a3)), (4, .inr (.inl (v1))), (6, .inl (v2)), (7, .inl ((v_in ((v_rowAt σ (a2) (v2))) (0) (200))))]) (st' := [.inl (v2), .inl (a2), .inr (.inr (.ref 88)), .inl (v2), .inr (.inr (.ref 150))]) (σ' := σ109) rfl ?_
            obtain ⟨c124, w⟩ := w
            have c124 : p_rowAt σ109 (a2) (v2) := by
              rw [pF_rowAt hF110 rfl rfl, pF_rowAt hF4 rfl rfl]; exact c124
            refine wk_callp tt_235 rfl rfl rfl rfl rfl tt_322 rfl (by decide) (w_rowAt z σ109 (a2) (v2) ra2 r9 c124) ?_
            rw [vF_rowAt hF110 rfl rfl, vF_rowAt hF4 rfl rfl]
            have r125 := vr_rowAt σ  (a2) (v2) ra2 r9 (by have q := c124; rw [pF_rowAt hF110 rfl rfl, pF_rowAt hF4 rfl rfl] at q; exact q)
            refine wk_b tt_235 1 (pc' := 64) (ls' := [(0, .inr (.inr (.ref 88))), (1, .inl (a1)), (2, .inl (a2)), (3, .inl (a3)), (4, .inr (.inl (v1))), (6, .inl (v2)), (7, .inl ((v_in ((v_rowAt σ (a2) (v2))) (0) (200))))]) (st' := [.inl ((v_rowAt σ (a2) (v2))), .inl (v2), .inr (.inr (.ref 150))]) (σ' := σ109) rfl ?_
            exact wk_ls [(0, .inr (.inr (.ref 88))), (1, .inl (a1)), (2, .inl (a2)), (3, .inl (a3)), (4, .inr (.inl (v1))), (6, .inl (v2))] rfl ⟨rfl, rfl, rfl, rfl, rfl, rfl, trivial⟩ (jn113 ((v_rowAt σ (a2) (v2))) (by simp only [if_neg (show ¬ ((v_in ((v_rowAt σ (a2) (v2))) (0) (200)) = 0) by omega)]) r125)
        refine wk_if tt_235 (tgt := 42) rfl rfl (sg_Rz (vz_in ..)) (fun (h106 : ¬ (v_in ((v_rowAt σ (a2) (v2))) (0) (200)) = 0) => ?_) (fun (h106 : (v_in ((v_rowAt σ (a2) (v2))) (0) (200)) = 0) => ?_)
        ·
          have w := w.1 h106
          exact wk_ls [(0, .inr (.inr (.ref 88))), (1, .inl (a1)), (2, .inl (a2)), (3, .inl (a3)), (4, .inr (.inl (v1))), (6, .inl (v2)), (7, .inl ((v_in ((v_rowAt σ (a2) (v2))) (0) (200))))] rfl ⟨rfl, rfl, rfl, rfl, rfl, rfl, rfl, trivial⟩ (jn107 σ3 (sg_F_r [103088, 104088] σ3) w)
        ·
          have w := w.2 h106
          refine wk_b tt_235 3 (pc' := 39) (ls' := [(7, .inl ((v_in ((v_rowAt σ (a2) (v2))) (0) (200)))), (0, .inr (.inr (.ref 88))), (1, .inl (a1)), (2, .inl (a2)), (3, .inl (a3)), (4, .inr (.inl (v1))), (6, .inl (v2))]) (st' := [.inl (5), .inl (v2), .inr (.inr (.ref 88))]) (σ' := σ3) rfl ?_
          refine wk_call tt_235 rfl rfl rfl rfl rfl tt_276 rfl (by decide) (w_lacks z σ3 (v2) (5) _ r9 (by decide) w) (fun u131 σ127 hq129 => ?_)
          obtain ⟨rfl, hF128, w⟩ := hq129
          have w := w hF128
          exact wk_ls [(0, .inr (.inr (.ref 88))), (1, .inl (a1)), (2, .inl (a2)), (3, .inl (a3)), (4, .inr (.inl (v1))), (6, .inl (v2)), (7, .inl ((v_in ((v_rowAt σ (a2) (v2))) (0) (200))))] rfl ⟨rfl, rfl, rfl, rfl, rfl, rfl, rfl, trivial⟩ (jn107 σ127 (sg_F_t (sg_F_r [103088, 104088] σ3) (sg_F_m (L := [103088, 104088]) hF128 rfl)) w)
  exact wk_ls [(0, .inr (.inr (.ref 88))), (1, .inl (a1)), (2, .inl (a2)), (3, .inl (a3)), (4, .inr (.inl (a3))), (6, .inl (0))] rfl ⟨rfl, rfl, rfl, rfl, rfl, rfl, trivial⟩ (lp12 μ6 (a3) (0) σ (sg_Rgl2 ra3) (by decide) (sg_F_r _ _) w13)
