/-! Conditions of the reference's methods, by program (26). -/
-- NestedVectorsModel.goNested
def V_goNested (σ : sg_S) (Q : sg_S → Prop) : Prop := sg_R ((sg_g σ 88 62) - 1) ∧ (0 ≤ ((sg_g σ 88 62) - 1) ∧ ((sg_g σ 88 62) - 1) < 4000) ∧ (0 ≤ (sg_g σ 126 (((sg_g σ 88 62) - 1))) ∧ (sg_g σ 126 (((sg_g σ 88 62) - 1))) < 210) ∧ ((¬ (sg_g σ 93 ((sg_g σ 126 (((sg_g σ 88 62) - 1))))) = 15 → ((¬ (sg_g σ 93 ((sg_g σ 126 (((sg_g σ 88 62) - 1))))) = 3 → (∃ P8 : sg_S → Prop, ((¬ (sg_g σ 93 ((sg_g σ 126 (((sg_g σ 88 62) - 1))))) = 2 → P8 σ) ∧ ((sg_g σ 93 ((sg_g σ 126 (((sg_g σ 88 62) - 1))))) = 2 → ((¬ (sg_g σ 127 (((sg_g σ 88 62) - 1))) = 1 → P8 σ) ∧ ((sg_g σ 127 (((sg_g σ 88 62) - 1))) = 1 → sg_R ((sg_g σ 88 70) - 1) ∧ ∀ σ75, σ75 = (sg_w σ 88 70 (((sg_g σ 88 70) - 1))) → (0 ≤ ((sg_g σ 88 70) - 1) ∧ ((sg_g σ 88 70) - 1) < 12000) ∧ ∀ σ79, σ79 = (sg_w σ75 134 ((sg_g σ 126 (((sg_g σ 88 62) - 1)))) ((sg_g σ 133 (((sg_g σ 88 70) - 1))))) → P8 σ79)))) ∧ (∀ (σ9 : sg_S), sg_F [134, 71088] σ σ9 → P8 σ9 → (((sg_g σ 96 ((sg_g σ 126 (((sg_g σ 88 62) - 1))))) ≤ (sg_g σ 127 (((sg_g σ 88 62) - 1))) → ((¬ (sg_g σ 93 ((sg_g σ 126 (((sg_g σ 88 62) - 1))))) = 13 → V_endNested σ9 ((sg_g σ 126 (((sg_g σ 88 62) - 1)))) ((sg_g σ 128 (((sg_g σ 88 62) - 1)))) (fun σ15 => sg_F [122, 123, 124, 125, 129, 131, 133, 135, 55088, 56088, 57088, 61088, 63088, 71088, 74088] σ9 σ15 → Q σ15)) ∧ ((sg_g σ 93 ((sg_g σ 126 (((sg_g σ 88 62) - 1))))) = 13 → ((¬ (sg_g σ 127 (((sg_g σ 88 62) - 1))) = (sg_g σ 96 ((sg_g σ 126 (((sg_g σ 88 62) - 1))))) → V_endNested σ9 ((sg_g σ 126 (((sg_g σ 88 62) - 1)))) ((sg_g σ 128 (((sg_g σ 88 62) - 1)))) (fun σ22 => sg_F [122, 123, 124, 125, 129, 131, 133, 135, 55088, 56088, 57088, 61088, 63088, 71088, 74088] σ9 σ22 → Q σ22)) ∧ ((sg_g σ 127 (((sg_g σ 88 62) - 1))) = (sg_g σ 96 ((sg_g σ 126 (((sg_g σ 88 62) - 1))))) → (∃ (I30 : Nat → Int → sg_S → Prop) (X32 : sg_S → Prop), (∃ n, I30 n (0) σ9) ∧ (∀ (n40 : Nat) (v27 : Int) (σ28 : sg_S), sg_R v27 → sg_F [134] σ9 σ28 → I30 n40 v27 σ28 → (((sg_g σ 96 ((sg_g σ 126 (((sg_g σ 88 62) - 1))))) ≤ v27 → X32 σ28) ∧ (v27 < (sg_g σ 96 ((sg_g σ 126 (((sg_g σ 88 62) - 1))))) → p_ofParam ((sg_g σ 102 ((sg_g σ 126 (((sg_g σ 88 62) - 1)))))) (v27) ∧ sg_R ((sg_g σ 128 (((sg_g σ 88 62) - 1))) + v27) ∧ (0 ≤ ((sg_g σ 128 (((sg_g σ 88 62) - 1))) + v27) ∧ ((sg_g σ 128 (((sg_g σ 88 62) - 1))) + v27) < 12000) ∧ (0 ≤ (v_ofParam ((sg_g σ 102 ((sg_g σ 126 (((sg_g σ 88 62) - 1)))))) (v27)) ∧ (v_ofParam ((sg_g σ 102 ((sg_g σ 126 (((sg_g σ 88 62) - 1)))))) (v27)) < 1200) ∧ ∀ σ62, σ62 = (sg_w σ28 134 ((v_ofParam ((sg_g σ 102 ((sg_g σ 126 (((sg_g σ 88 62) - 1)))))) (v27))) ((sg_g σ 133 (((sg_g σ 128 (((sg_g σ 88 62) - 1))) + v27))))) → sg_R (v27 + 1) ∧ (∃ m, m < n40 ∧ I30 m ((v27 + 1)) σ62)))) ∧ (∀ (σ28 : sg_S), sg_F [134] σ9 σ28 → X32 σ28 → sg_R ((sg_g σ 127 (((sg_g σ 88 62) - 1))) + 1) ∧ ∀ σ43, σ43 = (sg_w σ28 127 (((sg_g σ 88 62) - 1)) (((sg_g σ 127 (((sg_g σ 88 62) - 1))) + 1))) → ∀ σ46, σ46 = (sg_w σ43 88 70 ((sg_g σ 128 (((sg_g σ 88 62) - 1))))) → (0 ≤ (sg_g σ 102 ((sg_g σ 126 (((sg_g σ 88 62) - 1))))) ∧ (sg_g σ 102 ((sg_g σ 126 (((sg_g σ 88 62) - 1))))) < 12) ∧ V_begin σ46 ((sg_g σ 105 ((sg_g σ 102 ((sg_g σ 126 (((sg_g σ 88 62) - 1)))))))) (fun σ51 => sg_F [126, 127, 128, 129, 130, 131, 132, 55088, 63088, 74088] σ46 σ51 → Q σ51)))))))) ∧ ((sg_g σ 127 (((sg_g σ 88 62) - 1))) < (sg_g σ 96 ((sg_g σ 126 (((sg_g σ 88 62) - 1))))) → V_goPart σ9 (((sg_g σ 88 62) - 1)) ((sg_g σ 127 (((sg_g σ 88 62) - 1)))) (fun σ68 => sg_F [126, 127, 128, 129, 130, 131, 132, 55088, 63088, 74088] σ9 σ68 → Q σ68)))))) ∧ ((sg_g σ 93 ((sg_g σ 126 (((sg_g σ 88 62) - 1))))) = 3 → (((sg_g σ 127 (((sg_g σ 88 62) - 1))) ≤ 0 → (∃ P85 : sg_S → Prop, ((¬ (sg_g σ 93 ((sg_g σ 126 (((sg_g σ 88 62) - 1))))) = 2 → P85 σ) ∧ ((sg_g σ 93 ((sg_g σ 126 (((sg_g σ 88 62) - 1))))) = 2 → ((¬ (sg_g σ 127 (((sg_g σ 88 62) - 1))) = 1 → P85 σ) ∧ ((sg_g σ 127 (((sg_g σ 88 62) - 1))) = 1 → sg_R ((sg_g σ 88 70) - 1) ∧ ∀ σ152, σ152 = (sg_w σ 88 70 (((sg_g σ 88 70) - 1))) → (0 ≤ ((sg_g σ 88 70) - 1) ∧ ((sg_g σ 88 70) - 1) < 12000) ∧ ∀ σ156, σ156 = (sg_w σ152 134 ((sg_g σ 126 (((sg_g σ 88 62) - 1)))) ((sg_g σ 133 (((sg_g σ 88 70) - 1))))) → P85 σ156)))) ∧ (∀ (σ86 : sg_S), sg_F [134, 71088] σ σ86 → P85 σ86 → (((sg_g σ 96 ((sg_g σ 126 (((sg_g σ 88 62) - 1))))) ≤ (sg_g σ 127 (((sg_g σ 88 62) - 1))) → ((¬ (sg_g σ 93 ((sg_g σ 126 (((sg_g σ 88 62) - 1))))) = 13 → V_endNested σ86 ((sg_g σ 126 (((sg_g σ 88 62) - 1)))) ((sg_g σ 128 (((sg_g σ 88 62) - 1)))) (fun σ92 => sg_F [122, 123, 124, 125, 129, 131, 133, 135, 55088, 56088, 57088, 61088, 63088, 71088, 74088] σ86 σ92 → Q σ92)) ∧ ((sg_g σ 93 ((sg_g σ 126 (((sg_g σ 88 62) - 1))))) = 13 → ((¬ (sg_g σ 127 (((sg_g σ 88 62) - 1))) = (sg_g σ 96 ((sg_g σ 126 (((sg_g σ 88 62) - 1))))) → V_endNested σ86 ((sg_g σ 126 (((sg_g σ 88 62) - 1)))) ((sg_g σ 128 (((sg_g σ 88 62) - 1)))) (fun σ99 => sg_F [122, 123, 124, 125, 129, 131, 133, 135, 55088, 56088, 57088, 61088, 63088, 71088, 74088] σ86 σ99 → Q σ99)) ∧ ((sg_g σ 127 (((sg_g σ 88 62) - 1))) = (sg_g σ 96 ((sg_g σ 126 (((sg_g σ 88 62) - 1))))) → (∃ (I107 : Nat → Int → sg_S → Prop) (X109 : sg_S → Prop), (∃ n, I107 n (0) σ86) ∧ (∀ (n117 : Nat) (v104 : Int) (σ105 : sg_S), sg_R v104 → sg_F [134] σ86 σ105 → I107 n117 v104 σ105 → (((sg_g σ 96 ((sg_g σ 126 (((sg_g σ 88 62) - 1))))) ≤ v104 → X109 σ105) ∧ (v104 < (sg_g σ 96 ((sg_g σ 126 (((sg_g σ 88 62) - 1))))) → p_ofParam ((sg_g σ 102 ((sg_g σ 126 (((sg_g σ 88 62) - 1)))))) (v104) ∧ sg_R ((sg_g σ 128 (((sg_g σ 88 62) - 1))) + v104) ∧ (0 ≤ ((sg_g σ 128 (((sg_g σ 88 62) - 1))) + v104) ∧ ((sg_g σ 128 (((sg_g σ 88 62) - 1))) + v104) < 12000) ∧ (0 ≤ (v_ofParam ((sg_g σ 102 ((sg_g σ 126 (((sg_g σ 88 62) - 1)))))) (v104)) ∧ (v_ofParam ((sg_g σ 102 ((sg_g σ 126 (((sg_g σ 88 62) - 1)))))) (v104)) < 1200) ∧ ∀ σ139, σ139 = (sg_w σ105 134 ((v_ofParam ((sg_g σ 102 ((sg_g σ 126 (((sg_g σ 88 62) - 1)))))) (v104))) ((sg_g σ 133 (((sg_g σ 128 (((sg_g σ 88 62) - 1))) + v104))))) → sg_R (v104 + 1) ∧ (∃ m, m < n117 ∧ I107 m ((v104 + 1)) σ139)))) ∧ (∀ (σ105 : sg_S), sg_F [134] σ86 σ105 → X109 σ105 → sg_R ((sg_g σ 127 (((sg_g σ 88 62) - 1))) + 1) ∧ ∀ σ120, σ120 = (sg_w σ105 127 (((sg_g σ 88 62) - 1)) (((sg_g σ 127 (((sg_g σ 88 62) - 1))) + 1))) → ∀ σ123, σ123 = (sg_w σ120 88 70 ((sg_g σ 128 (((sg_g σ 88 62) - 1))))) → (0 ≤ (sg_g σ 102 ((sg_g σ 126 (((sg_g σ 88 62) - 1))))) ∧ (sg_g σ 102 ((sg_g σ 126 (((sg_g σ 88 62) - 1))))) < 12) ∧ V_begin σ123 ((sg_g σ 105 ((sg_g σ 102 ((sg_g σ 126 (((sg_g σ 88 62) - 1)))))))) (fun σ128 => sg_F [126, 127, 128, 129, 130, 131, 132, 55088, 63088, 74088] σ123 σ128 → Q σ128)))))))) ∧ ((sg_g σ 127 (((sg_g σ 88 62) - 1))) < (sg_g σ 96 ((sg_g σ 126 (((sg_g σ 88 62) - 1))))) → V_goPart σ86 (((sg_g σ 88 62) - 1)) ((sg_g σ 127 (((sg_g σ 88 62) - 1)))) (fun σ145 => sg_F [126, 127, 128, 129, 130, 131, 132, 55088, 63088, 74088] σ86 σ145 → Q σ145)))))) ∧ (0 < (sg_g σ 127 (((sg_g σ 88 62) - 1))) → ((¬ (sg_g σ 127 (((sg_g σ 88 62) - 1))) = 1 → (0 ≤ (sg_g σ 128 (((sg_g σ 88 62) - 1))) ∧ (sg_g σ 128 (((sg_g σ 88 62) - 1))) < 12000) ∧ V_leave σ ((sg_g σ 133 ((sg_g σ 128 (((sg_g σ 88 62) - 1)))))) (fun σ162 => sg_F [129, 131, 133, 55088, 56088, 63088, 71088, 74088] σ σ162 → Q σ162)) ∧ ((sg_g σ 127 (((sg_g σ 88 62) - 1))) = 1 → sg_R ((sg_g σ 88 70) - 1) ∧ ∀ σ168, σ168 = (sg_w σ 88 70 (((sg_g σ 88 70) - 1))) → (0 ≤ ((sg_g σ 88 70) - 1) ∧ ((sg_g σ 88 70) - 1) < 12000) ∧ ∀ v174 : Int, v174 = (if (sg_g σ 133 (((sg_g σ 88 70) - 1))) = 0 then (2 : Int) else (1 : Int)) → sg_R v174 → V_goPart σ168 (((sg_g σ 88 62) - 1)) (v174) (fun σ178 => sg_F [126, 127, 128, 129, 130, 131, 132, 55088, 63088, 74088] σ168 σ178 → Q σ178)))))))) ∧ ((sg_g σ 93 ((sg_g σ 126 (((sg_g σ 88 62) - 1))))) = 15 → V_goEach σ (((sg_g σ 88 62) - 1)) (fun σ184 => sg_F [122, 123, 124, 125, 126, 127, 128, 129, 130, 131, 132, 133, 134, 55088, 56088, 57088, 61088, 63088, 71088, 74088] σ σ184 → Q σ184)))
set_option maxHeartbeats 4000000 in
set_option maxRecDepth 8000 in
theorem w_goNested (z : Value) (σ : sg_S) (Q : sg_S → Prop)  (w : V_goNested σ  Q) : wx z 5 252 0 [(0, .inr (.inr (.ref 88)))] [] σ (fun v σ' => v = none ∧ sg_F [122, 123, 124, 125, 126, 127, 128, 129, 130, 131, 132, 133, 134, 135, 55088, 56088, 57088, 61088, 63088, 71088, 74088] σ σ' ∧ Q σ') := by
  unfold V_goNested at w
  obtain ⟨c1, w⟩ := w
  refine wk_b tt_252 8 (pc' := 12) (ls' := [(1, .inl (((sg_g σ 88 62) - 1))), (0, .inr (.inr (.ref 88)))]) (st' := [.inl (((sg_g σ 88 62) - 1)), .inr (.inr (.ref 126))]) (σ' := σ) rfl ?_
  obtain ⟨c2, w⟩ := w
  refine wk_ia tt_252 rfl rfl c2.1 c2.2 c1 ?_
  refine wk_b tt_252 4 (pc' := 19) (ls' := [(2, .inl ((sg_g σ 126 (((sg_g σ 88 62) - 1))))), (1, .inl (((sg_g σ 88 62) - 1))), (0, .inr (.inr (.ref 88)))]) (st' := [.inl (((sg_g σ 88 62) - 1)), .inr (.inr (.ref 127))]) (σ' := σ) rfl ?_
  refine wk_ia tt_252 rfl rfl c2.1 c2.2 c1 ?_
  refine wk_b tt_252 4 (pc' := 26) (ls' := [(3, .inl ((sg_g σ 127 (((sg_g σ 88 62) - 1))))), (2, .inl ((sg_g σ 126 (((sg_g σ 88 62) - 1))))), (1, .inl (((sg_g σ 88 62) - 1))), (0, .inr (.inr (.ref 88)))]) (st' := [.inl (((sg_g σ 88 62) - 1)), .inr (.inr (.ref 128))]) (σ' := σ) rfl ?_
  refine wk_ia tt_252 rfl rfl c2.1 c2.2 c1 ?_
  refine wk_b tt_252 4 (pc' := 34) (ls' := [(4, .inl ((sg_g σ 128 (((sg_g σ 88 62) - 1))))), (3, .inl ((sg_g σ 127 (((sg_g σ 88 62) - 1))))), (2, .inl ((sg_g σ 126 (((sg_g σ 88 62) - 1))))), (1, .inl (((sg_g σ 88 62) - 1))), (0, .inr (.inr (.ref 88)))]) (st' := [.inl ((sg_g σ 126 (((sg_g σ 88 62) - 1)))), .inr (.inr (.ref 93))]) (σ' := σ) rfl ?_
  obtain ⟨c3, w⟩ := w
  refine wk_ia tt_252 rfl rfl c3.1 c3.2 (sg_Rg _ _ _) ?_
  refine wk_b tt_252 1 (pc' := 37) (ls' := [(4, .inl ((sg_g σ 128 (((sg_g σ 88 62) - 1))))), (3, .inl ((sg_g σ 127 (((sg_g σ 88 62) - 1))))), (2, .inl ((sg_g σ 126 (((sg_g σ 88 62) - 1))))), (1, .inl (((sg_g σ 88 62) - 1))), (0, .inr (.inr (.ref 88)))]) (st' := [.inl (15), .inl ((sg_g σ 93 ((sg_g σ 126 (((sg_g σ 88 62) - 1))))))]) (σ' := σ) rfl ?_
  refine wk_if2 tt_252 (tgt := 46) rfl rfl (sg_Rg _ _ _) (by decide) (fun (h4 : ¬ (sg_g σ 93 ((sg_g σ 126 (((sg_g σ 88 62) - 1))))) = 15) => ?_) (fun (h4 : (sg_g σ 93 ((sg_g σ 126 (((sg_g σ 88 62) - 1))))) = 15) => ?_)
  ·
    have w := w.1 h4
    refine wk_b tt_252 3 (pc' := 51) (ls' := [(4, .inl ((sg_g σ 128 (((sg_g σ 88 62) - 1))))), (3, .inl ((sg_g σ 127 (((sg_g σ 88 62) - 1))))), (2, .inl ((sg_g σ 126 (((sg_g σ 88 62) - 1))))), (1, .inl (((sg_g σ 88 62) - 1))), (0, .inr (.inr (.ref 88)))]) (st' := [.inl ((sg_g σ 126 (((sg_g σ 88 62) - 1)))), .inr (.inr (.ref 93))]) (σ' := σ) rfl ?_
    refine wk_ia tt_252 rfl rfl c3.1 c3.2 (sg_Rg _ _ _) ?_
    refine wk_b tt_252 1 (pc' := 53) (ls' := [(4, .inl ((sg_g σ 128 (((sg_g σ 88 62) - 1))))), (3, .inl ((sg_g σ 127 (((sg_g σ 88 62) - 1))))), (2, .inl ((sg_g σ 126 (((sg_g σ 88 62) - 1))))), (1, .inl (((sg_g σ 88 62) - 1))), (0, .inr (.inr (.ref 88)))]) (st' := [.inl (3), .inl ((sg_g σ 93 ((sg_g σ 126 (((sg_g σ 88 62) - 1))))))]) (σ' := σ) rfl ?_
    refine wk_if2 tt_252 (tgt := 112) rfl rfl (sg_Rg _ _ _) (by decide) (fun (h5 : ¬ (sg_g σ 93 ((sg_g σ 126 (((sg_g σ 88 62) - 1))))) = 3) => ?_) (fun (h5 : (sg_g σ 93 ((sg_g σ 126 (((sg_g σ 88 62) - 1))))) = 3) => ?_)
    ·
      have w := w.1 h5
      refine wk_b tt_252 3 (pc' := 117) (ls' := [(4, .inl ((sg_g σ 128 (((sg_g σ 88 62) - 1))))), (3, .inl ((sg_g σ 127 (((sg_g σ 88 62) - 1))))), (2, .inl ((sg_g σ 126 (((sg_g σ 88 62) - 1))))), (1, .inl (((sg_g σ 88 62) - 1))), (0, .inr (.inr (.ref 88)))]) (st' := [.inl ((sg_g σ 126 (((sg_g σ 88 62) - 1)))), .inr (.inr (.ref 93))]) (σ' := σ) rfl ?_
      refine wk_ia tt_252 rfl rfl c3.1 c3.2 (sg_Rg _ _ _) ?_
      refine wk_b tt_252 1 (pc' := 119) (ls' := [(4, .inl ((sg_g σ 128 (((sg_g σ 88 62) - 1))))), (3, .inl ((sg_g σ 127 (((sg_g σ 88 62) - 1))))), (2, .inl ((sg_g σ 126 (((sg_g σ 88 62) - 1))))), (1, .inl (((sg_g σ 88 62) - 1))), (0, .inr (.inr (.ref 88)))]) (st' := [.inl (2), .inl ((sg_g σ 93 ((sg_g σ 126 (((sg_g σ 88 62) - 1))))))]) (σ' := σ) rfl ?_
      obtain ⟨P8, w, w11⟩ := w
      have jn7 : ∀ (σ9 : sg_S), sg_F [134, 71088] σ σ9 → P8 σ9 → wx z 5 252 152 [(0, .inr (.inr (.ref 88))), (1, .inl (((sg_g σ 88 62) - 1))), (2, .inl ((sg_g σ 126 (((sg_g σ 88 62) - 1))))), (3, .inl ((sg_g σ 127 (((sg_g σ 88 62) - 1))))), (4, .inl ((sg_g σ 128 (((sg_g σ 88 62) - 1)))))] [] σ9 (fun v σ' => v = none ∧ sg_F [122, 123, 124, 125, 126, 127, 128, 129, 130, 131, 132, 133, 134, 135, 55088, 56088, 57088, 61088, 63088, 71088, 74088] σ σ' ∧ Q σ') := by
        intro σ9 hF10 w
        have w := w11 σ9 hF10 w
        refine wk_b tt_252 4 (pc' := 158) (ls' := [(0, .inr (.inr (.ref 88))), (1, .inl (((sg_g σ 88 62) - 1))), (2, .inl ((sg_g σ 126 (((sg_g σ 88 62) - 1))))), (3, .inl ((sg_g σ 127 (((sg_g σ 88 62) - 1))))), (4, .inl ((sg_g σ 128 (((sg_g σ 88 62) - 1)))))]) (st' := [.inl ((sg_g σ 126 (((sg_g σ 88 62) - 1)))), .inr (.inr (.ref 96)), .inl ((sg_g σ 127 (((sg_g σ 88 62) - 1))))]) (σ' := σ9) rfl ?_
        refine wk_ia tt_252 rfl rfl c3.1 c3.2 (sg_Rg _ _ _) ?_
        rw [show (sg_g σ9 96 ((sg_g σ 126 (((sg_g σ 88 62) - 1))))) = (sg_g σ 96 ((sg_g σ 126 (((sg_g σ 88 62) - 1))))) from by rw [sg_F_ga hF10 rfl]]
        refine wk_if2 tt_252 (tgt := 169) rfl rfl (sg_Rg _ _ _) (sg_Rg _ _ _) (fun (h12 : (sg_g σ 96 ((sg_g σ 126 (((sg_g σ 88 62) - 1))))) ≤ (sg_g σ 127 (((sg_g σ 88 62) - 1)))) => ?_) (fun (h12 : (sg_g σ 127 (((sg_g σ 88 62) - 1))) < (sg_g σ 96 ((sg_g σ 126 (((sg_g σ 88 62) - 1)))))) => ?_)
        ·
          have w := w.1 h12
          refine wk_b tt_252 3 (pc' := 174) (ls' := [(0, .inr (.inr (.ref 88))), (1, .inl (((sg_g σ 88 62) - 1))), (2, .inl ((sg_g σ 126 (((sg_g σ 88 62) - 1))))), (3, .inl ((sg_g σ 127 (((sg_g σ 88 62) - 1))))), (4, .inl ((sg_g σ 128 (((sg_g σ 88 62) - 1)))))]) (st' := [.inl ((sg_g σ 126 (((sg_g σ 88 62) - 1)))), .inr (.inr (.ref 93))]) (σ' := σ9) rfl ?_
          refine wk_ia tt_252 rfl rfl c3.1 c3.2 (sg_Rg _ _ _) ?_
          rw [show (sg_g σ9 93 ((sg_g σ 126 (((sg_g σ 88 62) - 1))))) = (sg_g σ 93 ((sg_g σ 126 (((sg_g σ 88 62) - 1))))) from by rw [sg_F_ga hF10 rfl]]
          refine wk_b tt_252 1 (pc' := 177) (ls' := [(0, .inr (.inr (.ref 88))), (1, .inl (((sg_g σ 88 62) - 1))), (2, .inl ((sg_g σ 126 (((sg_g σ 88 62) - 1))))), (3, .inl ((sg_g σ 127 (((sg_g σ 88 62) - 1))))), (4, .inl ((sg_g σ 128 (((sg_g σ 88 62) - 1)))))]) (st' := [.inl (13), .inl ((sg_g σ 93 ((sg_g σ 126 (((sg_g σ 88 62) - 1))))))]) (σ' := σ9) rfl ?_
          refine wk_if2 tt_252 (tgt := 268) rfl rfl (sg_Rg _ _ _) (by decide) (fun (h13 : ¬ (sg_g σ 93 ((sg_g σ 126 (((sg_g σ 88 62) - 1))))) = 13) => ?_) (fun (h13 : (sg_g σ 93 ((sg_g σ 126 (((sg_g σ 88 62) - 1))))) = 13) => ?_)
          ·
            have w := w.1 h13
            refine wk_b tt_252 3 (pc' := 272) (ls' := [(0, .inr (.inr (.ref 88))), (1, .inl (((sg_g σ 88 62) - 1))), (2, .inl ((sg_g σ 126 (((sg_g σ 88 62) - 1))))), (3, .inl ((sg_g σ 127 (((sg_g σ 88 62) - 1))))), (4, .inl ((sg_g σ 128 (((sg_g σ 88 62) - 1)))))]) (st' := [.inl ((sg_g σ 128 (((sg_g σ 88 62) - 1)))), .inl ((sg_g σ 126 (((sg_g σ 88 62) - 1)))), .inr (.inr (.ref 88))]) (σ' := σ9) rfl ?_
            refine wk_call tt_252 rfl rfl rfl rfl rfl tt_223 rfl (by decide) (w_endNested z σ9 ((sg_g σ 126 (((sg_g σ 88 62) - 1)))) ((sg_g σ 128 (((sg_g σ 88 62) - 1)))) _ (sg_Rg _ _ _) (sg_Rg _ _ _) w) (fun u19 σ15 hq17 => ?_)
            obtain ⟨rfl, hF16, w⟩ := hq17
            have w := w hF16
            exact wk_rV tt_252 rfl rfl ⟨rfl, (sg_F_t (sg_F_t (sg_F_r [122, 123, 124, 125, 126, 127, 128, 129, 130, 131, 132, 133, 134, 135, 55088, 56088, 57088, 61088, 63088, 71088, 74088] σ) (sg_F_m (L := [122, 123, 124, 125, 126, 127, 128, 129, 130, 131, 132, 133, 134, 135, 55088, 56088, 57088, 61088, 63088, 71088, 74088]) hF10 rfl)) (sg_F_m (L := [122, 123, 124, 125, 126, 127, 128, 129, 130, 131, 132, 133, 134, 135, 55088, 56088, 57088, 61088, 63088, 71088, 74088]) hF16 rfl)), w⟩
          ·
            have w := w.2 h13
            refine wk_b tt_252 4 (pc' := 186) (ls' := [(0, .inr (.inr (.ref 88))), (1, .inl (((sg_g σ 88 62) - 1))), (2, .inl ((sg_g σ 126 (((sg_g σ 88 62) - 1))))), (3, .inl ((sg_g σ 127 (((sg_g σ 88 62) - 1))))), (4, .inl ((sg_g σ 128 (((sg_g σ 88 62) - 1)))))]) (st' := [.inl ((sg_g σ 126 (((sg_g σ 88 62) - 1)))), .inr (.inr (.ref 96)), .inl ((sg_g σ 127 (((sg_g σ 88 62) - 1))))]) (σ' := σ9) rfl ?_
            refine wk_ia tt_252 rfl rfl c3.1 c3.2 (sg_Rg _ _ _) ?_
            rw [show (sg_g σ9 96 ((sg_g σ 126 (((sg_g σ 88 62) - 1))))) = (sg_g σ 96 ((sg_g σ 126 (((sg_g σ 88 62) - 1))))) from by rw [sg_F_ga hF10 rfl]]
            refine wk_if2 tt_252 (tgt := 268) rfl rfl (sg_Rg _ _ _) (sg_Rg _ _ _) (fun (h20 : ¬ (sg_g σ 127 (((sg_g σ 88 62) - 1))) = (sg_g σ 96 ((sg_g σ 126 (((sg_g σ 88 62) - 1)))))) => ?_) (fun (h20 : (sg_g σ 127 (((sg_g σ 88 62) - 1))) = (sg_g σ 96 ((sg_g σ 126 (((sg_g σ 88 62) - 1)))))) => ?_)
            ·
              have w := w.1 h20
              refine wk_b tt_252 3 (pc' := 272) (ls' := [(0, .inr (.inr (.ref 88))), (1, .inl (((sg_g σ 88 62) - 1))), (2, .inl ((sg_g σ 126 (((sg_g σ 88 62) - 1))))), (3, .inl ((sg_g σ 127 (((sg_g σ 88 62) - 1))))), (4, .inl ((sg_g σ 128 (((sg_g σ 88 62) - 1)))))]) (st' := [.inl ((sg_g σ 128 (((sg_g σ 88 62) - 1)))), .inl ((sg_g σ 126 (((sg_g σ 88 62) - 1)))), .inr (.inr (.ref 88))]) (σ' := σ9) rfl ?_
              refine wk_call tt_252 rfl rfl rfl rfl rfl tt_223 rfl (by decide) (w_endNested z σ9 ((sg_g σ 126 (((sg_g σ 88 62) - 1)))) ((sg_g σ 128 (((sg_g σ 88 62) - 1)))) _ (sg_Rg _ _ _) (sg_Rg _ _ _) w) (fun u26 σ22 hq24 => ?_)
              obtain ⟨rfl, hF23, w⟩ := hq24
              have w := w hF23
              exact wk_rV tt_252 rfl rfl ⟨rfl, (sg_F_t (sg_F_t (sg_F_r [122, 123, 124, 125, 126, 127, 128, 129, 130, 131, 132, 133, 134, 135, 55088, 56088, 57088, 61088, 63088, 71088, 74088] σ) (sg_F_m (L := [122, 123, 124, 125, 126, 127, 128, 129, 130, 131, 132, 133, 134, 135, 55088, 56088, 57088, 61088, 63088, 71088, 74088]) hF10 rfl)) (sg_F_m (L := [122, 123, 124, 125, 126, 127, 128, 129, 130, 131, 132, 133, 134, 135, 55088, 56088, 57088, 61088, 63088, 71088, 74088]) hF23 rfl)), w⟩
            ·
              have w := w.2 h20
              refine wk_b tt_252 2 (pc' := 193) (ls' := [(5, .inl (0)), (0, .inr (.inr (.ref 88))), (1, .inl (((sg_g σ 88 62) - 1))), (2, .inl ((sg_g σ 126 (((sg_g σ 88 62) - 1))))), (3, .inl ((sg_g σ 127 (((sg_g σ 88 62) - 1))))), (4, .inl ((sg_g σ 128 (((sg_g σ 88 62) - 1)))))]) (st' := []) (σ' := σ9) rfl ?_
              obtain ⟨I30, X32, ⟨μ31, w37⟩, w38, w39⟩ := w
              have ex41 : ∀ (σ28 : sg_S), sg_F [134] σ9 σ28 → X32 σ28 → wx z 5 252 236 [(0, .inr (.inr (.ref 88))), (1, .inl (((sg_g σ 88 62) - 1))), (2, .inl ((sg_g σ 126 (((sg_g σ 88 62) - 1))))), (4, .inl ((sg_g σ 128 (((sg_g σ 88 62) - 1)))))] [] σ28 (fun v σ' => v = none ∧ sg_F [122, 123, 124, 125, 126, 127, 128, 129, 130, 131, 132, 133, 134, 135, 55088, 56088, 57088, 61088, 63088, 71088, 74088] σ σ' ∧ Q σ') := by
                intro σ28 hF29 w
                have w := w39 σ28 hF29 w
                refine wk_b tt_252 4 (pc' := 242) (ls' := [(0, .inr (.inr (.ref 88))), (1, .inl (((sg_g σ 88 62) - 1))), (2, .inl ((sg_g σ 126 (((sg_g σ 88 62) - 1))))), (4, .inl ((sg_g σ 128 (((sg_g σ 88 62) - 1)))))]) (st' := [.inl (((sg_g σ 88 62) - 1)), .inr (.inr (.ref 127)), .inl (((sg_g σ 88 62) - 1)), .inr (.inr (.ref 127))]) (σ' := σ28) rfl ?_
                refine wk_ia tt_252 rfl rfl c2.1 c2.2 c1 ?_
                rw [show (sg_g σ28 127 (((sg_g σ 88 62) - 1))) = (sg_g σ 127 (((sg_g σ 88 62) - 1))) from by rw [sg_F_ga hF29 rfl, sg_F_ga hF10 rfl]]
                obtain ⟨c42, w⟩ := w
                refine wk_b tt_252 2 (pc' := 245) (ls' := [(0, .inr (.inr (.ref 88))), (1, .inl (((sg_g σ 88 62) - 1))), (2, .inl ((sg_g σ 126 (((sg_g σ 88 62) - 1))))), (4, .inl ((sg_g σ 128 (((sg_g σ 88 62) - 1)))))]) (st' := [.inl (((sg_g σ 127 (((sg_g σ 88 62) - 1))) + 1)), .inl (((sg_g σ 88 62) - 1)), .inr (.inr (.ref 127))]) (σ' := σ28) rfl ?_
                refine wk_is tt_252 rfl rfl c2.1 c2.2 c1 ?_
                generalize hs44 : (sg_w σ28 127 (((sg_g σ 88 62) - 1)) (((sg_g σ 127 (((sg_g σ 88 62) - 1))) + 1))) = σ43
                have w := w σ43 hs44.symm
                have hF45 : sg_F [127] σ28 σ43 := by rw [← hs44]; exact sg_F_w (sg_F_r _ _) rfl _
                refine wk_b tt_252 3 (pc' := 252) (ls' := [(0, .inr (.inr (.ref 88))), (1, .inl (((sg_g σ 88 62) - 1))), (2, .inl ((sg_g σ 126 (((sg_g σ 88 62) - 1))))), (4, .inl ((sg_g σ 128 (((sg_g σ 88 62) - 1)))))]) (st' := []) (σ' := (sg_w σ43 88 70 ((sg_g σ 128 (((sg_g σ 88 62) - 1)))))) rfl ?_
                generalize hs47 : (sg_w σ43 88 70 ((sg_g σ 128 (((sg_g σ 88 62) - 1))))) = σ46
                have w := w σ46 hs47.symm
                have hF48 : sg_F [71088] σ43 σ46 := by rw [← hs47]; exact sg_F_w (sg_F_r _ _) rfl _
                refine wk_b tt_252 6 (pc' := 262) (ls' := [(0, .inr (.inr (.ref 88))), (1, .inl (((sg_g σ 88 62) - 1))), (2, .inl ((sg_g σ 126 (((sg_g σ 88 62) - 1))))), (4, .inl ((sg_g σ 128 (((sg_g σ 88 62) - 1)))))]) (st' := [.inl ((sg_g σ 126 (((sg_g σ 88 62) - 1)))), .inr (.inr (.ref 102)), .inr (.inr (.ref 105)), .inr (.inr (.ref 88))]) (σ' := σ46) rfl ?_
                refine wk_ia tt_252 rfl rfl c3.1 c3.2 (sg_Rg _ _ _) ?_
                rw [show (sg_g σ46 102 ((sg_g σ 126 (((sg_g σ 88 62) - 1))))) = (sg_g σ 102 ((sg_g σ 126 (((sg_g σ 88 62) - 1))))) from by rw [sg_F_ga hF48 rfl, sg_F_ga hF45 rfl, sg_F_ga hF29 rfl, sg_F_ga hF10 rfl]]
                obtain ⟨c49, w⟩ := w
                refine wk_ia tt_252 rfl rfl c49.1 c49.2 (sg_Rg _ _ _) ?_
                rw [show (sg_g σ46 105 ((sg_g σ 102 ((sg_g σ 126 (((sg_g σ 88 62) - 1))))))) = (sg_g σ 105 ((sg_g σ 102 ((sg_g σ 126 (((sg_g σ 88 62) - 1))))))) from by rw [sg_F_ga hF48 rfl, sg_F_ga hF45 rfl, sg_F_ga hF29 rfl, sg_F_ga hF10 rfl]]
                refine wk_call tt_252 rfl rfl rfl rfl rfl tt_214 rfl (by decide) (w_begin z σ46 ((sg_g σ 105 ((sg_g σ 102 ((sg_g σ 126 (((sg_g σ 88 62) - 1)))))))) _ (sg_Rg _ _ _) w) (fun u55 σ51 hq53 => ?_)
                obtain ⟨rfl, hF52, w⟩ := hq53
                have w := w hF52
                exact wk_rV tt_252 rfl rfl ⟨rfl, (sg_F_t (sg_F_t (sg_F_t (sg_F_t (sg_F_t (sg_F_r [122, 123, 124, 125, 126, 127, 128, 129, 130, 131, 132, 133, 134, 135, 55088, 56088, 57088, 61088, 63088, 71088, 74088] σ) (sg_F_m (L := [122, 123, 124, 125, 126, 127, 128, 129, 130, 131, 132, 133, 134, 135, 55088, 56088, 57088, 61088, 63088, 71088, 74088]) hF10 rfl)) (sg_F_m (L := [122, 123, 124, 125, 126, 127, 128, 129, 130, 131, 132, 133, 134, 135, 55088, 56088, 57088, 61088, 63088, 71088, 74088]) hF29 rfl)) (sg_F_m (L := [122, 123, 124, 125, 126, 127, 128, 129, 130, 131, 132, 133, 134, 135, 55088, 56088, 57088, 61088, 63088, 71088, 74088]) hF45 rfl)) (sg_F_m (L := [122, 123, 124, 125, 126, 127, 128, 129, 130, 131, 132, 133, 134, 135, 55088, 56088, 57088, 61088, 63088, 71088, 74088]) hF48 rfl)) (sg_F_m (L := [122, 123, 124, 125, 126, 127, 128, 129, 130, 131, 132, 133, 134, 135, 55088, 56088, 57088, 61088, 63088, 71088, 74088]) hF52 rfl)), w⟩
              have lp36 : ∀ (n40 : Nat) (v27 : Int) (σ28 : sg_S), sg_R v27 → sg_F [134] σ9 σ28 → I30 n40 v27 σ28 → wx z 5 252 193 [(0, .inr (.inr (.ref 88))), (1, .inl (((sg_g σ 88 62) - 1))), (2, .inl ((sg_g σ 126 (((sg_g σ 88 62) - 1))))), (4, .inl ((sg_g σ 128 (((sg_g σ 88 62) - 1))))), (5, .inl (v27))] [] σ28 (fun v σ' => v = none ∧ sg_F [122, 123, 124, 125, 126, 127, 128, 129, 130, 131, 132, 133, 134, 135, 55088, 56088, 57088, 61088, 63088, 71088, 74088] σ σ' ∧ Q σ') := by
                intro n40
                induction n40 using Nat.strongRecOn with
                | _ n40 ih34 =>
                  intro v27 σ28 r33 hF29 w
                  have w := w38 n40 v27 σ28 r33 hF29 w
                  refine wk_b tt_252 4 (pc' := 200) (ls' := [(0, .inr (.inr (.ref 88))), (1, .inl (((sg_g σ 88 62) - 1))), (2, .inl ((sg_g σ 126 (((sg_g σ 88 62) - 1))))), (4, .inl ((sg_g σ 128 (((sg_g σ 88 62) - 1))))), (5, .inl (v27))]) (st' := [.inl ((sg_g σ 126 (((sg_g σ 88 62) - 1)))), .inr (.inr (.ref 96)), .inl (v27)]) (σ' := σ28) rfl ?_
                  refine wk_ia tt_252 rfl rfl c3.1 c3.2 (sg_Rg _ _ _) ?_
                  rw [show (sg_g σ28 96 ((sg_g σ 126 (((sg_g σ 88 62) - 1))))) = (sg_g σ 96 ((sg_g σ 126 (((sg_g σ 88 62) - 1))))) from by rw [sg_F_ga hF29 rfl, sg_F_ga hF10 rfl]]
                  refine wk_if2 tt_252 (tgt := 236) rfl rfl r33 (sg_Rg _ _ _) (fun (h56 : (sg_g σ 96 ((sg_g σ 126 (((sg_g σ 88 62) - 1))))) ≤ v27) => ?_) (fun (h56 : v27 < (sg_g σ 96 ((sg_g σ 126 (((sg_g σ 88 62) - 1)))))) => ?_)
                  ·
                    have w := w.1 h56
                    exact wk_ls [(0, .inr (.inr (.ref 88))), (1, .inl (((sg_g σ 88 62) - 1))), (2, .inl ((sg_g σ 126 (((sg_g σ 88 62) - 1))))), (4, .inl ((sg_g σ 128 (((sg_g σ 88 62) - 1)))))] rfl ⟨rfl, rfl, rfl, rfl, trivial⟩ (ex41  σ28  (sg_F_t (sg_F_r [134] σ9) (sg_F_m (L := [134]) hF29 rfl)) w)
                  ·
                    have w := w.2 h56
                    refine wk_b tt_252 5 (pc' := 213) (ls' := [(0, .inr (.inr (.ref 88))), (1, .inl (((sg_g σ 88 62) - 1))), (2, .inl ((sg_g σ 126 (((sg_g σ 88 62) - 1))))), (4, .inl ((sg_g σ 128 (((sg_g σ 88 62) - 1))))), (5, .inl (v27))]) (st' := [.inl ((sg_g σ 126 (((sg_g σ 88 62) - 1)))), .inr (.inr (.ref 102)), .inr (.inr (.ref 134))]) (σ' := σ28) rfl ?_
                    refine wk_ia tt_252 rfl rfl c3.1 c3.2 (sg_Rg _ _ _) ?_
                    rw [show (sg_g σ28 102 ((sg_g σ 126 (((sg_g σ 88 62) - 1))))) = (sg_g σ 102 ((sg_g σ 126 (((sg_g σ 88 62) - 1))))) from by rw [sg_F_ga hF29 rfl, sg_F_ga hF10 rfl]]
                    refine wk_b tt_252 1 (pc' := 216) (ls' := [(0, .inr (.inr (.ref 88))), (1, .inl (((sg_g σ 88 62) - 1))), (2, .inl ((sg_g σ 126 (((sg_g σ 88 62) - 1))))), (4, .inl ((sg_g σ 128 (((sg_g σ 88 62) - 1))))), (5, .inl (v27))]) (st' := [.inl (v27), .inl ((sg_g σ 102 ((sg_g σ 126 (((sg_g σ 88 62) - 1)))))), .inr (.inr (.ref 134))]) (σ' := σ28) rfl ?_
                    obtain ⟨c57, w⟩ := w
                    refine wk_callp tt_252 rfl rfl rfl rfl rfl tt_298 rfl (by decide) (w_ofParam z σ28 ((sg_g σ 102 ((sg_g σ 126 (((sg_g σ 88 62) - 1)))))) (v27) (sg_Rg _ _ _) r33 c57) ?_
                    have r58 := vr_ofParam  ((sg_g σ 102 ((sg_g σ 126 (((sg_g σ 88 62) - 1)))))) (v27) (sg_Rg _ _ _) r33 c57
                    obtain ⟨c59, w⟩ := w
                    refine wk_b tt_252 5 (pc' := 228) (ls' := [(0, .inr (.inr (.ref 88))), (1, .inl (((sg_g σ 88 62) - 1))), (2, .inl ((sg_g σ 126 (((sg_g σ 88 62) - 1))))), (4, .inl ((sg_g σ 128 (((sg_g σ 88 62) - 1))))), (5, .inl (v27))]) (st' := [.inl (((sg_g σ 128 (((sg_g σ 88 62) - 1))) + v27)), .inr (.inr (.ref 133)), .inl ((v_ofParam ((sg_g σ 102 ((sg_g σ 126 (((sg_g σ 88 62) - 1)))))) (v27))), .inr (.inr (.ref 134))]) (σ' := σ28) rfl ?_
                    obtain ⟨c60, w⟩ := w
                    refine wk_ia tt_252 rfl rfl c60.1 c60.2 c59 ?_
                    rw [show (sg_g σ28 133 (((sg_g σ 128 (((sg_g σ 88 62) - 1))) + v27))) = (sg_g σ 133 (((sg_g σ 128 (((sg_g σ 88 62) - 1))) + v27))) from by rw [sg_F_ga hF29 rfl, sg_F_ga hF10 rfl]]
                    obtain ⟨c61, w⟩ := w
                    refine wk_is tt_252 rfl rfl c61.1 c61.2 r58 ?_
                    generalize hs63 : (sg_w σ28 134 ((v_ofParam ((sg_g σ 102 ((sg_g σ 126 (((sg_g σ 88 62) - 1)))))) (v27))) ((sg_g σ 133 (((sg_g σ 128 (((sg_g σ 88 62) - 1))) + v27))))) = σ62
                    have w := w σ62 hs63.symm
                    have hF64 : sg_F [134] σ28 σ62 := by rw [← hs63]; exact sg_F_w (sg_F_r _ _) rfl _
                    obtain ⟨c65, w⟩ := w
                    refine wk_b tt_252 2 (pc' := 193) (ls' := [(5, .inl ((v27 + 1))), (0, .inr (.inr (.ref 88))), (1, .inl (((sg_g σ 88 62) - 1))), (2, .inl ((sg_g σ 126 (((sg_g σ 88 62) - 1))))), (4, .inl ((sg_g σ 128 (((sg_g σ 88 62) - 1)))))]) (st' := []) (σ' := σ62) rfl ?_
                    obtain ⟨m66, hm66, w⟩ := w
                    exact wk_ls [(0, .inr (.inr (.ref 88))), (1, .inl (((sg_g σ 88 62) - 1))), (2, .inl ((sg_g σ 126 (((sg_g σ 88 62) - 1))))), (4, .inl ((sg_g σ 128 (((sg_g σ 88 62) - 1))))), (5, .inl ((v27 + 1)))] rfl ⟨rfl, rfl, rfl, rfl, rfl, trivial⟩ (ih34 m66 hm66 ((v27 + 1)) σ62 c65 (sg_F_t (sg_F_t (sg_F_r [134] σ9) (sg_F_m (L := [134]) hF29 rfl)) (sg_F_m (L := [134]) hF64 rfl)) w)
              exact wk_ls [(0, .inr (.inr (.ref 88))), (1, .inl (((sg_g σ 88 62) - 1))), (2, .inl ((sg_g σ 126 (((sg_g σ 88 62) - 1))))), (4, .inl ((sg_g σ 128 (((sg_g σ 88 62) - 1))))), (5, .inl (0))] rfl ⟨rfl, rfl, rfl, rfl, rfl, trivial⟩ (lp36 μ31 (0) σ9 (by decide) (sg_F_r _ _) w37)
        ·
          have w := w.2 h12
          refine wk_b tt_252 3 (pc' := 165) (ls' := [(0, .inr (.inr (.ref 88))), (1, .inl (((sg_g σ 88 62) - 1))), (2, .inl ((sg_g σ 126 (((sg_g σ 88 62) - 1))))), (3, .inl ((sg_g σ 127 (((sg_g σ 88 62) - 1))))), (4, .inl ((sg_g σ 128 (((sg_g σ 88 62) - 1)))))]) (st' := [.inl ((sg_g σ 127 (((sg_g σ 88 62) - 1)))), .inl (((sg_g σ 88 62) - 1)), .inr (.inr (.ref 88))]) (σ' := σ9) rfl ?_
          refine wk_call tt_252 rfl rfl rfl rfl rfl tt_254 rfl (by decide) (w_goPart z σ9 (((sg_g σ 88 62) - 1)) ((sg_g σ 127 (((sg_g σ 88 62) - 1)))) _ c1 (sg_Rg _ _ _) w) (fun u72 σ68 hq70 => ?_)
          obtain ⟨rfl, hF69, w⟩ := hq70
          have w := w hF69
          exact wk_rV tt_252 rfl rfl ⟨rfl, (sg_F_t (sg_F_t (sg_F_r [122, 123, 124, 125, 126, 127, 128, 129, 130, 131, 132, 133, 134, 135, 55088, 56088, 57088, 61088, 63088, 71088, 74088] σ) (sg_F_m (L := [122, 123, 124, 125, 126, 127, 128, 129, 130, 131, 132, 133, 134, 135, 55088, 56088, 57088, 61088, 63088, 71088, 74088]) hF10 rfl)) (sg_F_m (L := [122, 123, 124, 125, 126, 127, 128, 129, 130, 131, 132, 133, 134, 135, 55088, 56088, 57088, 61088, 63088, 71088, 74088]) hF69 rfl)), w⟩
      refine wk_if2 tt_252 (tgt := 152) rfl rfl (sg_Rg _ _ _) (by decide) (fun (h6 : ¬ (sg_g σ 93 ((sg_g σ 126 (((sg_g σ 88 62) - 1))))) = 2) => ?_) (fun (h6 : (sg_g σ 93 ((sg_g σ 126 (((sg_g σ 88 62) - 1))))) = 2) => ?_)
      ·
        have w := w.1 h6
        exact wk_ls [(0, .inr (.inr (.ref 88))), (1, .inl (((sg_g σ 88 62) - 1))), (2, .inl ((sg_g σ 126 (((sg_g σ 88 62) - 1))))), (3, .inl ((sg_g σ 127 (((sg_g σ 88 62) - 1))))), (4, .inl ((sg_g σ 128 (((sg_g σ 88 62) - 1)))))] rfl ⟨rfl, rfl, rfl, rfl, rfl, trivial⟩ (jn7 σ (sg_F_r [134, 71088] σ) w)
      ·
        have w := w.2 h6
        refine wk_b tt_252 2 (pc' := 124) (ls' := [(4, .inl ((sg_g σ 128 (((sg_g σ 88 62) - 1))))), (3, .inl ((sg_g σ 127 (((sg_g σ 88 62) - 1))))), (2, .inl ((sg_g σ 126 (((sg_g σ 88 62) - 1))))), (1, .inl (((sg_g σ 88 62) - 1))), (0, .inr (.inr (.ref 88)))]) (st' := [.inl (1), .inl ((sg_g σ 127 (((sg_g σ 88 62) - 1))))]) (σ' := σ) rfl ?_
        refine wk_if2 tt_252 (tgt := 152) rfl rfl (sg_Rg _ _ _) (by decide) (fun (h73 : ¬ (sg_g σ 127 (((sg_g σ 88 62) - 1))) = 1) => ?_) (fun (h73 : (sg_g σ 127 (((sg_g σ 88 62) - 1))) = 1) => ?_)
        ·
          have w := w.1 h73
          exact wk_ls [(0, .inr (.inr (.ref 88))), (1, .inl (((sg_g σ 88 62) - 1))), (2, .inl ((sg_g σ 126 (((sg_g σ 88 62) - 1))))), (3, .inl ((sg_g σ 127 (((sg_g σ 88 62) - 1))))), (4, .inl ((sg_g σ 128 (((sg_g σ 88 62) - 1)))))] rfl ⟨rfl, rfl, rfl, rfl, rfl, trivial⟩ (jn7 σ (sg_F_r [134, 71088] σ) w)
        ·
          have w := w.2 h73
          obtain ⟨c74, w⟩ := w
          refine wk_b tt_252 6 (pc' := 137) (ls' := [(4, .inl ((sg_g σ 128 (((sg_g σ 88 62) - 1))))), (3, .inl ((sg_g σ 127 (((sg_g σ 88 62) - 1))))), (2, .inl ((sg_g σ 126 (((sg_g σ 88 62) - 1))))), (1, .inl (((sg_g σ 88 62) - 1))), (0, .inr (.inr (.ref 88)))]) (st' := []) (σ' := (sg_w σ 88 70 (((sg_g σ 88 70) - 1)))) rfl ?_
          generalize hs76 : (sg_w σ 88 70 (((sg_g σ 88 70) - 1))) = σ75
          have w := w σ75 hs76.symm
          have hF77 : sg_F [71088] σ σ75 := by rw [← hs76]; exact sg_F_w (sg_F_r _ _) rfl _
          refine wk_b tt_252 7 (pc' := 150) (ls' := [(4, .inl ((sg_g σ 128 (((sg_g σ 88 62) - 1))))), (3, .inl ((sg_g σ 127 (((sg_g σ 88 62) - 1))))), (2, .inl ((sg_g σ 126 (((sg_g σ 88 62) - 1))))), (1, .inl (((sg_g σ 88 62) - 1))), (0, .inr (.inr (.ref 88)))]) (st' := [.inl ((sg_g σ75 88 70)), .inr (.inr (.ref 133)), .inl ((sg_g σ 126 (((sg_g σ 88 62) - 1)))), .inr (.inr (.ref 134))]) (σ' := σ75) rfl ?_
          rw [show (sg_g σ75 88 70) = ((sg_g σ 88 70) - 1) from by rw [(show sg_g σ75 88 70 = ((sg_g σ 88 70) - 1) from by rw [← hs76]; exact sg_gw_e _ _ _ _ c74)]]
          obtain ⟨c78, w⟩ := w
          refine wk_ia tt_252 rfl rfl c78.1 c78.2 c74 ?_
          rw [show (sg_g σ75 133 (((sg_g σ 88 70) - 1))) = (sg_g σ 133 (((sg_g σ 88 70) - 1))) from by rw [sg_F_ga hF77 rfl]]
          refine wk_is tt_252 rfl rfl c3.1 (Int.lt_of_lt_of_le c3.2 (by decide)) (sg_Rg _ _ _) ?_
          generalize hs80 : (sg_w σ75 134 ((sg_g σ 126 (((sg_g σ 88 62) - 1)))) ((sg_g σ 133 (((sg_g σ 88 70) - 1))))) = σ79
          have w := w σ79 hs80.symm
          have hF81 : sg_F [134] σ75 σ79 := by rw [← hs80]; exact sg_F_w (sg_F_r _ _) rfl _
          exact wk_ls [(0, .inr (.inr (.ref 88))), (1, .inl (((sg_g σ 88 62) - 1))), (2, .inl ((sg_g σ 126 (((sg_g σ 88 62) - 1))))), (3, .inl ((sg_g σ 127 (((sg_g σ 88 62) - 1))))), (4, .inl ((sg_g σ 128 (((sg_g σ 88 62) - 1)))))] rfl ⟨rfl, rfl, rfl, rfl, rfl, trivial⟩ (jn7 σ79 (sg_F_t (sg_F_t (sg_F_r [134, 71088] σ) (sg_F_m (L := [134, 71088]) hF77 rfl)) (sg_F_m (L := [134, 71088]) hF81 rfl)) w)
    ·
      have w := w.2 h5
      refine wk_b tt_252 1 (pc' := 57) (ls' := [(4, .inl ((sg_g σ 128 (((sg_g σ 88 62) - 1))))), (3, .inl ((sg_g σ 127 (((sg_g σ 88 62) - 1))))), (2, .inl ((sg_g σ 126 (((sg_g σ 88 62) - 1))))), (1, .inl (((sg_g σ 88 62) - 1))), (0, .inr (.inr (.ref 88)))]) (st' := [.inl ((sg_g σ 127 (((sg_g σ 88 62) - 1))))]) (σ' := σ) rfl ?_
      refine wk_if tt_252 (tgt := 112) rfl rfl (sg_Rg _ _ _) (fun (h82 : (sg_g σ 127 (((sg_g σ 88 62) - 1))) ≤ 0) => ?_) (fun (h82 : 0 < (sg_g σ 127 (((sg_g σ 88 62) - 1)))) => ?_)
      ·
        have w := w.1 h82
        refine wk_b tt_252 3 (pc' := 117) (ls' := [(4, .inl ((sg_g σ 128 (((sg_g σ 88 62) - 1))))), (3, .inl ((sg_g σ 127 (((sg_g σ 88 62) - 1))))), (2, .inl ((sg_g σ 126 (((sg_g σ 88 62) - 1))))), (1, .inl (((sg_g σ 88 62) - 1))), (0, .inr (.inr (.ref 88)))]) (st' := [.inl ((sg_g σ 126 (((sg_g σ 88 62) - 1)))), .inr (.inr (.ref 93))]) (σ' := σ) rfl ?_
        refine wk_ia tt_252 rfl rfl c3.1 c3.2 (sg_Rg _ _ _) ?_
        refine wk_b tt_252 1 (pc' := 119) (ls' := [(4, .inl ((sg_g σ 128 (((sg_g σ 88 62) - 1))))), (3, .inl ((sg_g σ 127 (((sg_g σ 88 62) - 1))))), (2, .inl ((sg_g σ 126 (((sg_g σ 88 62) - 1))))), (1, .inl (((sg_g σ 88 62) - 1))), (0, .inr (.inr (.ref 88)))]) (st' := [.inl (2), .inl ((sg_g σ 93 ((sg_g σ 126 (((sg_g σ 88 62) - 1))))))]) (σ' := σ) rfl ?_
        obtain ⟨P85, w, w88⟩ := w
        have jn84 : ∀ (σ86 : sg_S), sg_F [134, 71088] σ σ86 → P85 σ86 → wx z 5 252 152 [(0, .inr (.inr (.ref 88))), (1, .inl (((sg_g σ 88 62) - 1))), (2, .inl ((sg_g σ 126 (((sg_g σ 88 62) - 1))))), (3, .inl ((sg_g σ 127 (((sg_g σ 88 62) - 1))))), (4, .inl ((sg_g σ 128 (((sg_g σ 88 62) - 1)))))] [] σ86 (fun v σ' => v = none ∧ sg_F [122, 123, 124, 125, 126, 127, 128, 129, 130, 131, 132, 133, 134, 135, 55088, 56088, 57088, 61088, 63088, 71088, 74088] σ σ' ∧ Q σ') := by
          intro σ86 hF87 w
          have w := w88 σ86 hF87 w
          refine wk_b tt_252 4 (pc' := 158) (ls' := [(0, .inr (.inr (.ref 88))), (1, .inl (((sg_g σ 88 62) - 1))), (2, .inl ((sg_g σ 126 (((sg_g σ 88 62) - 1))))), (3, .inl ((sg_g σ 127 (((sg_g σ 88 62) - 1))))), (4, .inl ((sg_g σ 128 (((sg_g σ 88 62) - 1)))))]) (st' := [.inl ((sg_g σ 126 (((sg_g σ 88 62) - 1)))), .inr (.inr (.ref 96)), .inl ((sg_g σ 127 (((sg_g σ 88 62) - 1))))]) (σ' := σ86) rfl ?_
          refine wk_ia tt_252 rfl rfl c3.1 c3.2 (sg_Rg _ _ _) ?_
          rw [show (sg_g σ86 96 ((sg_g σ 126 (((sg_g σ 88 62) - 1))))) = (sg_g σ 96 ((sg_g σ 126 (((sg_g σ 88 62) - 1))))) from by rw [sg_F_ga hF87 rfl]]
          refine wk_if2 tt_252 (tgt := 169) rfl rfl (sg_Rg _ _ _) (sg_Rg _ _ _) (fun (h89 : (sg_g σ 96 ((sg_g σ 126 (((sg_g σ 88 62) - 1))))) ≤ (sg_g σ 127 (((sg_g σ 88 62) - 1)))) => ?_) (fun (h89 : (sg_g σ 127 (((sg_g σ 88 62) - 1))) < (sg_g σ 96 ((sg_g σ 126 (((sg_g σ 88 62) - 1)))))) => ?_)
          ·
            have w := w.1 h89
            refine wk_b tt_252 3 (pc' := 174) (ls' := [(0, .inr (.inr (.ref 88))), (1, .inl (((sg_g σ 88 62) - 1))), (2, .inl ((sg_g σ 126 (((sg_g σ 88 62) - 1))))), (3, .inl ((sg_g σ 127 (((sg_g σ 88 62) - 1))))), (4, .inl ((sg_g σ 128 (((sg_g σ 88 62) - 1)))))]) (st' := [.inl ((sg_g σ 126 (((sg_g σ 88 62) - 1)))), .inr (.inr (.ref 93))]) (σ' := σ86) rfl ?_
            refine wk_ia tt_252 rfl rfl c3.1 c3.2 (sg_Rg _ _ _) ?_
            rw [show (sg_g σ86 93 ((sg_g σ 126 (((sg_g σ 88 62) - 1))))) = (sg_g σ 93 ((sg_g σ 126 (((sg_g σ 88 62) - 1))))) from by rw [sg_F_ga hF87 rfl]]
            refine wk_b tt_252 1 (pc' := 177) (ls' := [(0, .inr (.inr (.ref 88))), (1, .inl (((sg_g σ 88 62) - 1))), (2, .inl ((sg_g σ 126 (((sg_g σ 88 62) - 1))))), (3, .inl ((sg_g σ 127 (((sg_g σ 88 62) - 1))))), (4, .inl ((sg_g σ 128 (((sg_g σ 88 62) - 1)))))]) (st' := [.inl (13), .inl ((sg_g σ 93 ((sg_g σ 126 (((sg_g σ 88 62) - 1))))))]) (σ' := σ86) rfl ?_
            refine wk_if2 tt_252 (tgt := 268) rfl rfl (sg_Rg _ _ _) (by decide) (fun (h90 : ¬ (sg_g σ 93 ((sg_g σ 126 (((sg_g σ 88 62) - 1))))) = 13) => ?_) (fun (h90 : (sg_g σ 93 ((sg_g σ 126 (((sg_g σ 88 62) - 1))))) = 13) => ?_)
            ·
              have w := w.1 h90
              refine wk_b tt_252 3 (pc' := 272) (ls' := [(0, .inr (.inr (.ref 88))), (1, .inl (((sg_g σ 88 62) - 1))), (2, .inl ((sg_g σ 126 (((sg_g σ 88 62) - 1))))), (3, .inl ((sg_g σ 127 (((sg_g σ 88 62) - 1))))), (4, .inl ((sg_g σ 128 (((sg_g σ 88 62) - 1)))))]) (st' := [.inl ((sg_g σ 128 (((sg_g σ 88 62) - 1)))), .inl ((sg_g σ 126 (((sg_g σ 88 62) - 1)))), .inr (.inr (.ref 88))]) (σ' := σ86) rfl ?_
              refine wk_call tt_252 rfl rfl rfl rfl rfl tt_223 rfl (by decide) (w_endNested z σ86 ((sg_g σ 126 (((sg_g σ 88 62) - 1)))) ((sg_g σ 128 (((sg_g σ 88 62) - 1)))) _ (sg_Rg _ _ _) (sg_Rg _ _ _) w) (fun u96 σ92 hq94 => ?_)
              obtain ⟨rfl, hF93, w⟩ := hq94
              have w := w hF93
              exact wk_rV tt_252 rfl rfl ⟨rfl, (sg_F_t (sg_F_t (sg_F_r [122, 123, 124, 125, 126, 127, 128, 129, 130, 131, 132, 133, 134, 135, 55088, 56088, 57088, 61088, 63088, 71088, 74088] σ) (sg_F_m (L := [122, 123, 124, 125, 126, 127, 128, 129, 130, 131, 132, 133, 134, 135, 55088, 56088, 57088, 61088, 63088, 71088, 74088]) hF87 rfl)) (sg_F_m (L := [122, 123, 124, 125, 126, 127, 128, 129, 130, 131, 132, 133, 134, 135, 55088, 56088, 57088, 61088, 63088, 71088, 74088]) hF93 rfl)), w⟩
            ·
              have w := w.2 h90
              refine wk_b tt_252 4 (pc' := 186) (ls' := [(0, .inr (.inr (.ref 88))), (1, .inl (((sg_g σ 88 62) - 1))), (2, .inl ((sg_g σ 126 (((sg_g σ 88 62) - 1))))), (3, .inl ((sg_g σ 127 (((sg_g σ 88 62) - 1))))), (4, .inl ((sg_g σ 128 (((sg_g σ 88 62) - 1)))))]) (st' := [.inl ((sg_g σ 126 (((sg_g σ 88 62) - 1)))), .inr (.inr (.ref 96)), .inl ((sg_g σ 127 (((sg_g σ 88 62) - 1))))]) (σ' := σ86) rfl ?_
              refine wk_ia tt_252 rfl rfl c3.1 c3.2 (sg_Rg _ _ _) ?_
              rw [show (sg_g σ86 96 ((sg_g σ 126 (((sg_g σ 88 62) - 1))))) = (sg_g σ 96 ((sg_g σ 126 (((sg_g σ 88 62) - 1))))) from by rw [sg_F_ga hF87 rfl]]
              refine wk_if2 tt_252 (tgt := 268) rfl rfl (sg_Rg _ _ _) (sg_Rg _ _ _) (fun (h97 : ¬ (sg_g σ 127 (((sg_g σ 88 62) - 1))) = (sg_g σ 96 ((sg_g σ 126 (((sg_g σ 88 62) - 1)))))) => ?_) (fun (h97 : (sg_g σ 127 (((sg_g σ 88 62) - 1))) = (sg_g σ 96 ((sg_g σ 126 (((sg_g σ 88 62) - 1)))))) => ?_)
              ·
                have w := w.1 h97
                refine wk_b tt_252 3 (pc' := 272) (ls' := [(0, .inr (.inr (.ref 88))), (1, .inl (((sg_g σ 88 62) - 1))), (2, .inl ((sg_g σ 126 (((sg_g σ 88 62) - 1))))), (3, .inl ((sg_g σ 127 (((sg_g σ 88 62) - 1))))), (4, .inl ((sg_g σ 128 (((sg_g σ 88 62) - 1)))))]) (st' := [.inl ((sg_g σ 128 (((sg_g σ 88 62) - 1)))), .inl ((sg_g σ 126 (((sg_g σ 88 62) - 1)))), .inr (.inr (.ref 88))]) (σ' := σ86) rfl ?_
                refine wk_call tt_252 rfl rfl rfl rfl rfl tt_223 rfl (by decide) (w_endNested z σ86 ((sg_g σ 126 (((sg_g σ 88 62) - 1)))) ((sg_g σ 128 (((sg_g σ 88 62) - 1)))) _ (sg_Rg _ _ _) (sg_Rg _ _ _) w) (fun u103 σ99 hq101 => ?_)
                obtain ⟨rfl, hF100, w⟩ := hq101
                have w := w hF100
                exact wk_rV tt_252 rfl rfl ⟨rfl, (sg_F_t (sg_F_t (sg_F_r [122, 123, 124, 125, 126, 127, 128, 129, 130, 131, 132, 133, 134, 135, 55088, 56088, 57088, 61088, 63088, 71088, 74088] σ) (sg_F_m (L := [122, 123, 124, 125, 126, 127, 128, 129, 130, 131, 132, 133, 134, 135, 55088, 56088, 57088, 61088, 63088, 71088, 74088]) hF87 rfl)) (sg_F_m (L := [122, 123, 124, 125, 126, 127, 128, 129, 130, 131, 132, 133, 134, 135, 55088, 56088, 57088, 61088, 63088, 71088, 74088]) hF100 rfl)), w⟩
              ·
                have w := w.2 h97
                refine wk_b tt_252 2 (pc' := 193) (ls' := [(5, .inl (0)), (0, .inr (.inr (.ref 88))), (1, .inl (((sg_g σ 88 62) - 1))), (2, .inl ((sg_g σ 126 (((sg_g σ 88 62) - 1))))), (3, .inl ((sg_g σ 127 (((sg_g σ 88 62) - 1))))), (4, .inl ((sg_g σ 128 (((sg_g σ 88 62) - 1)))))]) (st' := []) (σ' := σ86) rfl ?_
                obtain ⟨I107, X109, ⟨μ108, w114⟩, w115, w116⟩ := w
                have ex118 : ∀ (σ105 : sg_S), sg_F [134] σ86 σ105 → X109 σ105 → wx z 5 252 236 [(0, .inr (.inr (.ref 88))), (1, .inl (((sg_g σ 88 62) - 1))), (2, .inl ((sg_g σ 126 (((sg_g σ 88 62) - 1))))), (4, .inl ((sg_g σ 128 (((sg_g σ 88 62) - 1)))))] [] σ105 (fun v σ' => v = none ∧ sg_F [122, 123, 124, 125, 126, 127, 128, 129, 130, 131, 132, 133, 134, 135, 55088, 56088, 57088, 61088, 63088, 71088, 74088] σ σ' ∧ Q σ') := by
                  intro σ105 hF106 w
                  have w := w116 σ105 hF106 w
                  refine wk_b tt_252 4 (pc' := 242) (ls' := [(0, .inr (.inr (.ref 88))), (1, .inl (((sg_g σ 88 62) - 1))), (2, .inl ((sg_g σ 126 (((sg_g σ 88 62) - 1))))), (4, .inl ((sg_g σ 128 (((sg_g σ 88 62) - 1)))))]) (st' := [.inl (((sg_g σ 88 62) - 1)), .inr (.inr (.ref 127)), .inl (((sg_g σ 88 62) - 1)), .inr (.inr (.ref 127))]) (σ' := σ105) rfl ?_
                  refine wk_ia tt_252 rfl rfl c2.1 c2.2 c1 ?_
                  rw [show (sg_g σ105 127 (((sg_g σ 88 62) - 1))) = (sg_g σ 127 (((sg_g σ 88 62) - 1))) from by rw [sg_F_ga hF106 rfl, sg_F_ga hF87 rfl]]
                  obtain ⟨c119, w⟩ := w
                  refine wk_b tt_252 2 (pc' := 245) (ls' := [(0, .inr (.inr (.ref 88))), (1, .inl (((sg_g σ 88 62) - 1))), (2, .inl ((sg_g σ 126 (((sg_g σ 88 62) - 1))))), (4, .inl ((sg_g σ 128 (((sg_g σ 88 62) - 1)))))]) (st' := [.inl (((sg_g σ 127 (((sg_g σ 88 62) - 1))) + 1)), .inl (((sg_g σ 88 62) - 1)), .inr (.inr (.ref 127))]) (σ' := σ105) rfl ?_
                  refine wk_is tt_252 rfl rfl c2.1 c2.2 c1 ?_
                  generalize hs121 : (sg_w σ105 127 (((sg_g σ 88 62) - 1)) (((sg_g σ 127 (((sg_g σ 88 62) - 1))) + 1))) = σ120
                  have w := w σ120 hs121.symm
                  have hF122 : sg_F [127] σ105 σ120 := by rw [← hs121]; exact sg_F_w (sg_F_r _ _) rfl _
                  refine wk_b tt_252 3 (pc' := 252) (ls' := [(0, .inr (.inr (.ref 88))), (1, .inl (((sg_g σ 88 62) - 1))), (2, .inl ((sg_g σ 126 (((sg_g σ 88 62) - 1))))), (4, .inl ((sg_g σ 128 (((sg_g σ 88 62) - 1)))))]) (st' := []) (σ' := (sg_w σ120 88 70 ((sg_g σ 128 (((sg_g σ 88 62) - 1)))))) rfl ?_
                  generalize hs124 : (sg_w σ120 88 70 ((sg_g σ 128 (((sg_g σ 88 62) - 1))))) = σ123
                  have w := w σ123 hs124.symm
                  have hF125 : sg_F [71088] σ120 σ123 := by rw [← hs124]; exact sg_F_w (sg_F_r _ _) rfl _
                  refine wk_b tt_252 6 (pc' := 262) (ls' := [(0, .inr (.inr (.ref 88))), (1, .inl (((sg_g σ 88 62) - 1))), (2, .inl ((sg_g σ 126 (((sg_g σ 88 62) - 1))))), (4, .inl ((sg_g σ 128 (((sg_g σ 88 62) - 1)))))]) (st' := [.inl ((sg_g σ 126 (((sg_g σ 88 62) - 1)))), .inr (.inr (.ref 102)), .inr (.inr (.ref 105)), .inr (.inr (.ref 88))]) (σ' := σ123) rfl ?_
                  refine wk_ia tt_252 rfl rfl c3.1 c3.2 (sg_Rg _ _ _) ?_
                  rw [show (sg_g σ123 102 ((sg_g σ 126 (((sg_g σ 88 62) - 1))))) = (sg_g σ 102 ((sg_g σ 126 (((sg_g σ 88 62) - 1))))) from by rw [sg_F_ga hF125 rfl, sg_F_ga hF122 rfl, sg_F_ga hF106 rfl, sg_F_ga hF87 rfl]]
                  obtain ⟨c126, w⟩ := w
                  refine wk_ia tt_252 rfl rfl c126.1 c126.2 (sg_Rg _ _ _) ?_
                  rw [show (sg_g σ123 105 ((sg_g σ 102 ((sg_g σ 126 (((sg_g σ 88 62) - 1))))))) = (sg_g σ 105 ((sg_g σ 102 ((sg_g σ 126 (((sg_g σ 88 62) - 1))))))) from by rw [sg_F_ga hF125 rfl, sg_F_ga hF122 rfl, sg_F_ga hF106 rfl, sg_F_ga hF87 rfl]]
                  refine wk_call tt_252 rfl rfl rfl rfl rfl tt_214 rfl (by decide) (w_begin z σ123 ((sg_g σ 105 ((sg_g σ 102 ((sg_g σ 126 (((sg_g σ 88 62) - 1)))))))) _ (sg_Rg _ _ _) w) (fun u132 σ128 hq130 => ?_)
                  obtain ⟨rfl, hF129, w⟩ := hq130
                  have w := w hF129
                  exact wk_rV tt_252 rfl rfl ⟨rfl, (sg_F_t (sg_F_t (sg_F_t (sg_F_t (sg_F_t (sg_F_r [122, 123, 124, 125, 126, 127, 128, 129, 130, 131, 132, 133, 134, 135, 55088, 56088, 57088, 61088, 63088, 71088, 74088] σ) (sg_F_m (L := [122, 123, 124, 125, 126, 127, 128, 129, 130, 131, 132, 133, 134, 135, 55088, 56088, 57088, 61088, 63088, 71088, 74088]) hF87 rfl)) (sg_F_m (L := [122, 123, 124, 125, 126, 127, 128, 129, 130, 131, 132, 133, 134, 135, 55088, 56088, 57088, 61088, 63088, 71088, 74088]) hF106 rfl)) (sg_F_m (L := [122, 123, 124, 125, 126, 127, 128, 129, 130, 131, 132, 133, 134, 135, 55088, 56088, 57088, 61088, 63088, 71088, 74088]) hF122 rfl)) (sg_F_m (L := [122, 123, 124, 125, 126, 127, 128, 129, 130, 131, 132, 133, 134, 135, 55088, 56088, 57088, 61088, 63088, 71088, 74088]) hF125 rfl)) (sg_F_m (L := [122, 123, 124, 125, 126, 127, 128, 129, 130, 131, 132, 133, 134, 135, 55088, 56088, 57088, 61088, 63088, 71088, 74088]) hF129 rfl)), w⟩
                have lp113 : ∀ (n117 : Nat) (v104 : Int) (σ105 : sg_S), sg_R v104 → sg_F [134] σ86 σ105 → I107 n117 v104 σ105 → wx z 5 252 193 [(0, .inr (.inr (.ref 88))), (1, .inl (((sg_g σ 88 62) - 1))), (2, .inl ((sg_g σ 126 (((sg_g σ 88 62) - 1))))), (4, .inl ((sg_g σ 128 (((sg_g σ 88 62) - 1))))), (5, .inl (v104))] [] σ105 (fun v σ' => v = none ∧ sg_F [122, 123, 124, 125, 126, 127, 128, 129, 130, 131, 132, 133, 134, 135, 55088, 56088, 57088, 61088, 63088, 71088, 74088] σ σ' ∧ Q σ') := by
                  intro n117
                  induction n117 using Nat.strongRecOn with
                  | _ n117 ih111 =>
                    intro v104 σ105 r110 hF106 w
                    have w := w115 n117 v104 σ105 r110 hF106 w
                    refine wk_b tt_252 4 (pc' := 200) (ls' := [(0, .inr (.inr (.ref 88))), (1, .inl (((sg_g σ 88 62) - 1))), (2, .inl ((sg_g σ 126 (((sg_g σ 88 62) - 1))))), (4, .inl ((sg_g σ 128 (((sg_g σ 88 62) - 1))))), (5, .inl (v104))]) (st' := [.inl ((sg_g σ 126 (((sg_g σ 88 62) - 1)))), .inr (.inr (.ref 96)), .inl (v104)]) (σ' := σ105) rfl ?_
                    refine wk_ia tt_252 rfl rfl c3.1 c3.2 (sg_Rg _ _ _) ?_
                    rw [show (sg_g σ105 96 ((sg_g σ 126 (((sg_g σ 88 62) - 1))))) = (sg_g σ 96 ((sg_g σ 126 (((sg_g σ 88 62) - 1))))) from by rw [sg_F_ga hF106 rfl, sg_F_ga hF87 rfl]]
                    refine wk_if2 tt_252 (tgt := 236) rfl rfl r110 (sg_Rg _ _ _) (fun (h133 : (sg_g σ 96 ((sg_g σ 126 (((sg_g σ 88 62) - 1))))) ≤ v104) => ?_) (fun (h133 : v104 < (sg_g σ 96 ((sg_g σ 126 (((sg_g σ 88 62) - 1)))))) => ?_)
                    ·
                      have w := w.1 h133
                      exact wk_ls [(0, .inr (.inr (.ref 88))), (1, .inl (((sg_g σ 88 62) - 1))), (2, .inl ((sg_g σ 126 (((sg_g σ 88 62) - 1))))), (4, .inl ((sg_g σ 128 (((sg_g σ 88 62) - 1)))))] rfl ⟨rfl, rfl, rfl, rfl, trivial⟩ (ex118  σ105  (sg_F_t (sg_F_r [134] σ86) (sg_F_m (L := [134]) hF106 rfl)) w)
                    ·
                      have w := w.2 h133
                      refine wk_b tt_252 5 (pc' := 213) (ls' := [(0, .inr (.inr (.ref 88))), (1, .inl (((sg_g σ 88 62) - 1))), (2, .inl ((sg_g σ 126 (((sg_g σ 88 62) - 1))))), (4, .inl ((sg_g σ 128 (((sg_g σ 88 62) - 1))))), (5, .inl (v104))]) (st' := [.inl ((sg_g σ 126 (((sg_g σ 88 62) - 1)))), .inr (.inr (.ref 102)), .inr (.inr (.ref 134))]) (σ' := σ105) rfl ?_
                      refine wk_ia tt_252 rfl rfl c3.1 c3.2 (sg_Rg _ _ _) ?_
                      rw [show (sg_g σ105 102 ((sg_g σ 126 (((sg_g σ 88 62) - 1))))) = (sg_g σ 102 ((sg_g σ 126 (((sg_g σ 88 62) - 1))))) from by rw [sg_F_ga hF106 rfl, sg_F_ga hF87 rfl]]
                      refine wk_b tt_252 1 (pc' := 216) (ls' := [(0, .inr (.inr (.ref 88))), (1, .inl (((sg_g σ 88 62) - 1))), (2, .inl ((sg_g σ 126 (((sg_g σ 88 62) - 1))))), (4, .inl ((sg_g σ 128 (((sg_g σ 88 62) - 1))))), (5, .inl (v104))]) (st' := [.inl (v104), .inl ((sg_g σ 102 ((sg_g σ 126 (((sg_g σ 88 62) - 1)))))), .inr (.inr (.ref 134))]) (σ' := σ105) rfl ?_
                      obtain ⟨c134, w⟩ := w
                      refine wk_callp tt_252 rfl rfl rfl rfl rfl tt_298 rfl (by decide) (w_ofParam z σ105 ((sg_g σ 102 ((sg_g σ 126 (((sg_g σ 88 62) - 1)))))) (v104) (sg_Rg _ _ _) r110 c134) ?_
                      have r135 := vr_ofParam  ((sg_g σ 102 ((sg_g σ 126 (((sg_g σ 88 62) - 1)))))) (v104) (sg_Rg _ _ _) r110 c134
                      obtain ⟨c136, w⟩ := w
                      refine wk_b tt_252 5 (pc' := 228) (ls' := [(0, .inr (.inr (.ref 88))), (1, .inl (((sg_g σ 88 62) - 1))), (2, .inl ((sg_g σ 126 (((sg_g σ 88 62) - 1))))), (4, .inl ((sg_g σ 128 (((sg_g σ 88 62) - 1))))), (5, .inl (v104))]) (st' := [.inl (((sg_g σ 128 (((sg_g σ 88 62) - 1))) + v104)), .inr (.inr (.ref 133)), .inl ((v_ofParam ((sg_g σ 102 ((sg_g σ 126 (((sg_g σ 88 62) - 1)))))) (v104))), .inr (.inr (.ref 134))]) (σ' := σ105) rfl ?_
                      obtain ⟨c137, w⟩ := w
                      refine wk_ia tt_252 rfl rfl c137.1 c137.2 c136 ?_
                      rw [show (sg_g σ105 133 (((sg_g σ 128 (((sg_g σ 88 62) - 1))) + v104))) = (sg_g σ 133 (((sg_g σ 128 (((sg_g σ 88 62) - 1))) + v104))) from by rw [sg_F_ga hF106 rfl, sg_F_ga hF87 rfl]]
                      obtain ⟨c138, w⟩ := w
                      refine wk_is tt_252 rfl rfl c138.1 c138.2 r135 ?_
                      generalize hs140 : (sg_w σ105 134 ((v_ofParam ((sg_g σ 102 ((sg_g σ 126 (((sg_g σ 88 62) - 1)))))) (v104))) ((sg_g σ 133 (((sg_g σ 128 (((sg_g σ 88 62) - 1))) + v104))))) = σ139
                      have w := w σ139 hs140.symm
                      have hF141 : sg_F [134] σ105 σ139 := by rw [← hs140]; exact sg_F_w (sg_F_r _ _) rfl _
                      obtain ⟨c142, w⟩ := w
                      refine wk_b tt_252 2 (pc' := 193) (ls' := [(5, .inl ((v104 + 1))), (0, .inr (.inr (.ref 88))), (1, .inl (((sg_g σ 88 62) - 1))), (2, .inl ((sg_g σ 126 (((sg_g σ 88 62) - 1))))), (4, .inl ((sg_g σ 128 (((sg_g σ 88 62) - 1)))))]) (st' := []) (σ' := σ139) rfl ?_
                      obtain ⟨m143, hm143, w⟩ := w
                      exact wk_ls [(0, .inr (.inr (.ref 88))), (1, .inl (((sg_g σ 88 62) - 1))), (2, .inl ((sg_g σ 126 (((sg_g σ 88 62) - 1))))), (4, .inl ((sg_g σ 128 (((sg_g σ 88 62) - 1))))), (5, .inl ((v104 + 1)))] rfl ⟨rfl, rfl, rfl, rfl, rfl, trivial⟩ (ih111 m143 hm143 ((v104 + 1)) σ139 c142 (sg_F_t (sg_F_t (sg_F_r [134] σ86) (sg_F_m (L := [134]) hF106 rfl)) (sg_F_m (L := [134]) hF141 rfl)) w)
                exact wk_ls [(0, .inr (.inr (.ref 88))), (1, .inl (((sg_g σ 88 62) - 1))), (2, .inl ((sg_g σ 126 (((sg_g σ 88 62) - 1))))), (4, .inl ((sg_g σ 128 (((sg_g σ 88 62) - 1))))), (5, .inl (0))] rfl ⟨rfl, rfl, rfl, rfl, rfl, trivial⟩ (lp113 μ108 (0) σ86 (by decide) (sg_F_r _ _) w114)
          ·
            have w := w.2 h89
            refine wk_b tt_252 3 (pc' := 165) (ls' := [(0, .inr (.inr (.ref 88))), (1, .inl (((sg_g σ 88 62) - 1))), (2, .inl ((sg_g σ 126 (((sg_g σ 88 62) - 1))))), (3, .inl ((sg_g σ 127 (((sg_g σ 88 62) - 1))))), (4, .inl ((sg_g σ 128 (((sg_g σ 88 62) - 1)))))]) (st' := [.inl ((sg_g σ 127 (((sg_g σ 88 62) - 1)))), .inl (((sg_g σ 88 62) - 1)), .inr (.inr (.ref 88))]) (σ' := σ86) rfl ?_
            refine wk_call tt_252 rfl rfl rfl rfl rfl tt_254 rfl (by decide) (w_goPart z σ86 (((sg_g σ 88 62) - 1)) ((sg_g σ 127 (((sg_g σ 88 62) - 1)))) _ c1 (sg_Rg _ _ _) w) (fun u149 σ145 hq147 => ?_)
            obtain ⟨rfl, hF146, w⟩ := hq147
            have w := w hF146
            exact wk_rV tt_252 rfl rfl ⟨rfl, (sg_F_t (sg_F_t (sg_F_r [122, 123, 124, 125, 126, 127, 128, 129, 130, 131, 132, 133, 134, 135, 55088, 56088, 57088, 61088, 63088, 71088, 74088] σ) (sg_F_m (L := [122, 123, 124, 125, 126, 127, 128, 129, 130, 131, 132, 133, 134, 135, 55088, 56088, 57088, 61088, 63088, 71088, 74088]) hF87 rfl)) (sg_F_m (L := [122, 123, 124, 125, 126, 127, 128, 129, 130, 131, 132, 133, 134, 135, 55088, 56088, 57088, 61088, 63088, 71088, 74088]) hF146 rfl)), w⟩
        refine wk_if2 tt_252 (tgt := 152) rfl rfl (sg_Rg _ _ _) (by decide) (fun (h83 : ¬ (sg_g σ 93 ((sg_g σ 126 (((sg_g σ 88 62) - 1))))) = 2) => ?_) (fun (h83 : (sg_g σ 93 ((sg_g σ 126 (((sg_g σ 88 62) - 1))))) = 2) => ?_)
        ·
          have w := w.1 h83
          exact wk_ls [(0, .inr (.inr (.ref 88))), (1, .inl (((sg_g σ 88 62) - 1))), (2, .inl ((sg_g σ 126 (((sg_g σ 88 62) - 1))))), (3, .inl ((sg_g σ 127 (((sg_g σ 88 62) - 1))))), (4, .inl ((sg_g σ 128 (((sg_g σ 88 62) - 1)))))] rfl ⟨rfl, rfl, rfl, rfl, rfl, trivial⟩ (jn84 σ (sg_F_r [134, 71088] σ) w)
        ·
          have w := w.2 h83
          refine wk_b tt_252 2 (pc' := 124) (ls' := [(4, .inl ((sg_g σ 128 (((sg_g σ 88 62) - 1))))), (3, .inl ((sg_g σ 127 (((sg_g σ 88 62) - 1))))), (2, .inl ((sg_g σ 126 (((sg_g σ 88 62) - 1))))), (1, .inl (((sg_g σ 88 62) - 1))), (0, .inr (.inr (.ref 88)))]) (st' := [.inl (1), .inl ((sg_g σ 127 (((sg_g σ 88 62) - 1))))]) (σ' := σ) rfl ?_
          refine wk_if2 tt_252 (tgt := 152) rfl rfl (sg_Rg _ _ _) (by decide) (fun (h150 : ¬ (sg_g σ 127 (((sg_g σ 88 62) - 1))) = 1) => ?_) (fun (h150 : (sg_g σ 127 (((sg_g σ 88 62) - 1))) = 1) => ?_)
          ·
            have w := w.1 h150
            exact wk_ls [(0, .inr (.inr (.ref 88))), (1, .inl (((sg_g σ 88 62) - 1))), (2, .inl ((sg_g σ 126 (((sg_g σ 88 62) - 1))))), (3, .inl ((sg_g σ 127 (((sg_g σ 88 62) - 1))))), (4, .inl ((sg_g σ 128 (((sg_g σ 88 62) - 1)))))] rfl ⟨rfl, rfl, rfl, rfl, rfl, trivial⟩ (jn84 σ (sg_F_r [134, 71088] σ) w)
          ·
            have w := w.2 h150
            obtain ⟨c151, w⟩ := w
            refine wk_b tt_252 6 (pc' := 137) (ls' := [(4, .inl ((sg_g σ 128 (((sg_g σ 88 62) - 1))))), (3, .inl ((sg_g σ 127 (((sg_g σ 88 62) - 1))))), (2, .inl ((sg_g σ 126 (((sg_g σ 88 62) - 1))))), (1, .inl (((sg_g σ 88 62) - 1))), (0, .inr (.inr (.ref 88)))]) (st' := []) (σ' := (sg_w σ 88 70 (((sg_g σ 88 70) - 1)))) rfl ?_
            generalize hs153 : (sg_w σ 88 70 (((sg_g σ 88 70) - 1))) = σ152
            have w := w σ152 hs153.symm
            have hF154 : sg_F [71088] σ σ152 := by rw [← hs153]; exact sg_F_w (sg_F_r _ _) rfl _
            refine wk_b tt_252 7 (pc' := 150) (ls' := [(4, .inl ((sg_g σ 128 (((sg_g σ 88 62) - 1))))), (3, .inl ((sg_g σ 127 (((sg_g σ 88 62) - 1))))), (2, .inl ((sg_g σ 126 (((sg_g σ 88 62) - 1))))), (1, .inl (((sg_g σ 88 62) - 1))), (0, .inr (.inr (.ref 88)))]) (st' := [.inl ((sg_g σ152 88 70)), .inr (.inr (.ref 133)), .inl ((sg_g σ 126 (((sg_g σ 88 62) - 1)))), .inr (.inr (.ref 134))]) (σ' := σ152) rfl ?_
            rw [show (sg_g σ152 88 70) = ((sg_g σ 88 70) - 1) from by rw [(show sg_g σ152 88 70 = ((sg_g σ 88 70) - 1) from by rw [← hs153]; exact sg_gw_e _ _ _ _ c151)]]
            obtain ⟨c155, w⟩ := w
            refine wk_ia tt_252 rfl rfl c155.1 c155.2 c151 ?_
            rw [show (sg_g σ152 133 (((sg_g σ 88 70) - 1))) = (sg_g σ 133 (((sg_g σ 88 70) - 1))) from by rw [sg_F_ga hF154 rfl]]
            refine wk_is tt_252 rfl rfl c3.1 (Int.lt_of_lt_of_le c3.2 (by decide)) (sg_Rg _ _ _) ?_
            generalize hs157 : (sg_w σ152 134 ((sg_g σ 126 (((sg_g σ 88 62) - 1)))) ((sg_g σ 133 (((sg_g σ 88 70) - 1))))) = σ156
            have w := w σ156 hs157.symm
            have hF158 : sg_F [134] σ152 σ156 := by rw [← hs157]; exact sg_F_w (sg_F_r _ _) rfl _
            exact wk_ls [(0, .inr (.inr (.ref 88))), (1, .inl (((sg_g σ 88 62) - 1))), (2, .inl ((sg_g σ 126 (((sg_g σ 88 62) - 1))))), (3, .inl ((sg_g σ 127 (((sg_g σ 88 62) - 1))))), (4, .inl ((sg_g σ 128 (((sg_g σ 88 62) - 1)))))] rfl ⟨rfl, rfl, rfl, rfl, rfl, trivial⟩ (jn84 σ156 (sg_F_t (sg_F_t (sg_F_r [134, 71088] σ) (sg_F_m (L := [134, 71088]) hF154 rfl)) (sg_F_m (L := [134, 71088]) hF158 rfl)) w)
      ·
        have w := w.2 h82
        refine wk_b tt_252 2 (pc' := 62) (ls' := [(4, .inl ((sg_g σ 128 (((sg_g σ 88 62) - 1))))), (3, .inl ((sg_g σ 127 (((sg_g σ 88 62) - 1))))), (2, .inl ((sg_g σ 126 (((sg_g σ 88 62) - 1))))), (1, .inl (((sg_g σ 88 62) - 1))), (0, .inr (.inr (.ref 88)))]) (st' := [.inl (1), .inl ((sg_g σ 127 (((sg_g σ 88 62) - 1))))]) (σ' := σ) rfl ?_
        refine wk_if2 tt_252 (tgt := 100) rfl rfl (sg_Rg _ _ _) (by decide) (fun (h159 : ¬ (sg_g σ 127 (((sg_g σ 88 62) - 1))) = 1) => ?_) (fun (h159 : (sg_g σ 127 (((sg_g σ 88 62) - 1))) = 1) => ?_)
        ·
          have w := w.1 h159
          refine wk_b tt_252 4 (pc' := 107) (ls' := [(4, .inl ((sg_g σ 128 (((sg_g σ 88 62) - 1))))), (3, .inl ((sg_g σ 127 (((sg_g σ 88 62) - 1))))), (2, .inl ((sg_g σ 126 (((sg_g σ 88 62) - 1))))), (1, .inl (((sg_g σ 88 62) - 1))), (0, .inr (.inr (.ref 88)))]) (st' := [.inl ((sg_g σ 128 (((sg_g σ 88 62) - 1)))), .inr (.inr (.ref 133)), .inr (.inr (.ref 88))]) (σ' := σ) rfl ?_
          obtain ⟨c160, w⟩ := w
          refine wk_ia tt_252 rfl rfl c160.1 c160.2 (sg_Rg _ _ _) ?_
          refine wk_call tt_252 rfl rfl rfl rfl rfl tt_278 rfl (by decide) (w_leave z σ ((sg_g σ 133 ((sg_g σ 128 (((sg_g σ 88 62) - 1)))))) _ (sg_Rg _ _ _) w) (fun u166 σ162 hq164 => ?_)
          obtain ⟨rfl, hF163, w⟩ := hq164
          have w := w hF163
          exact wk_rV tt_252 rfl rfl ⟨rfl, (sg_F_t (sg_F_r [122, 123, 124, 125, 126, 127, 128, 129, 130, 131, 132, 133, 134, 135, 55088, 56088, 57088, 61088, 63088, 71088, 74088] σ) (sg_F_m (L := [122, 123, 124, 125, 126, 127, 128, 129, 130, 131, 132, 133, 134, 135, 55088, 56088, 57088, 61088, 63088, 71088, 74088]) hF163 rfl)), w⟩
        ·
          have w := w.2 h159
          obtain ⟨c167, w⟩ := w
          refine wk_b tt_252 6 (pc' := 75) (ls' := [(4, .inl ((sg_g σ 128 (((sg_g σ 88 62) - 1))))), (3, .inl ((sg_g σ 127 (((sg_g σ 88 62) - 1))))), (2, .inl ((sg_g σ 126 (((sg_g σ 88 62) - 1))))), (1, .inl (((sg_g σ 88 62) - 1))), (0, .inr (.inr (.ref 88)))]) (st' := []) (σ' := (sg_w σ 88 70 (((sg_g σ 88 70) - 1)))) rfl ?_
          generalize hs169 : (sg_w σ 88 70 (((sg_g σ 88 70) - 1))) = σ168
          have w := w σ168 hs169.symm
          have hF170 : sg_F [71088] σ σ168 := by rw [← hs169]; exact sg_F_w (sg_F_r _ _) rfl _
          refine wk_b tt_252 6 (pc' := 85) (ls' := [(4, .inl ((sg_g σ 128 (((sg_g σ 88 62) - 1))))), (3, .inl ((sg_g σ 127 (((sg_g σ 88 62) - 1))))), (2, .inl ((sg_g σ 126 (((sg_g σ 88 62) - 1))))), (1, .inl (((sg_g σ 88 62) - 1))), (0, .inr (.inr (.ref 88)))]) (st' := [.inl ((sg_g σ168 88 70)), .inr (.inr (.ref 133)), .inl (((sg_g σ 88 62) - 1)), .inr (.inr (.ref 88))]) (σ' := σ168) rfl ?_
          rw [show (sg_g σ168 88 70) = ((sg_g σ 88 70) - 1) from by rw [(show sg_g σ168 88 70 = ((sg_g σ 88 70) - 1) from by rw [← hs169]; exact sg_gw_e _ _ _ _ c167)]]
          obtain ⟨c171, w⟩ := w
          refine wk_ia tt_252 rfl rfl c171.1 c171.2 c167 ?_
          rw [show (sg_g σ168 133 (((sg_g σ 88 70) - 1))) = (sg_g σ 133 (((sg_g σ 88 70) - 1))) from by rw [sg_F_ga hF170 rfl]]
          have jn173 : ∀ v174 : Int, v174 = (if (sg_g σ 133 (((sg_g σ 88 70) - 1))) = 0 then (2 : Int) else (1 : Int)) → sg_R v174 → wx z 5 252 94 [] [.inl (v174), .inl (((sg_g σ 88 62) - 1)), .inr (.inr (.ref 88))] σ168 (fun v σ' => v = none ∧ sg_F [122, 123, 124, 125, 126, 127, 128, 129, 130, 131, 132, 133, 134, 135, 55088, 56088, 57088, 61088, 63088, 71088, 74088] σ σ' ∧ Q σ') := by
            intro v174 e176 r175
            have w := w v174 e176 r175
            refine wk_call tt_252 rfl rfl rfl rfl rfl tt_254 rfl (by decide) (w_goPart z σ168 (((sg_g σ 88 62) - 1)) (v174) _ c1 r175 w) (fun u182 σ178 hq180 => ?_)
            obtain ⟨rfl, hF179, w⟩ := hq180
            have w := w hF179
            refine wk_b tt_252 1 (pc' := 111) (ls' := []) (st' := []) (σ' := σ178) rfl ?_
            exact wk_rV tt_252 rfl rfl ⟨rfl, (sg_F_t (sg_F_t (sg_F_r [122, 123, 124, 125, 126, 127, 128, 129, 130, 131, 132, 133, 134, 135, 55088, 56088, 57088, 61088, 63088, 71088, 74088] σ) (sg_F_m (L := [122, 123, 124, 125, 126, 127, 128, 129, 130, 131, 132, 133, 134, 135, 55088, 56088, 57088, 61088, 63088, 71088, 74088]) hF170 rfl)) (sg_F_m (L := [122, 123, 124, 125, 126, 127, 128, 129, 130, 131, 132, 133, 134, 135, 55088, 56088, 57088, 61088, 63088, 71088, 74088]) hF179 rfl)), w⟩
          refine wk_if tt_252 (tgt := 93) rfl rfl (sg_Rg _ _ _) (fun (h172 : (sg_g σ 133 (((sg_g σ 88 70) - 1))) = 0) => ?_) (fun (h172 : ¬ (sg_g σ 133 (((sg_g σ 88 70) - 1))) = 0) => ?_)
          ·
            clear w
            refine wk_b tt_252 1 (pc' := 94) (ls' := [(4, .inl ((sg_g σ 128 (((sg_g σ 88 62) - 1))))), (3, .inl ((sg_g σ 127 (((sg_g σ 88 62) - 1))))), (2, .inl ((sg_g σ 126 (((sg_g σ 88 62) - 1))))), (1, .inl (((sg_g σ 88 62) - 1))), (0, .inr (.inr (.ref 88)))]) (st' := [.inl (2), .inl (((sg_g σ 88 62) - 1)), .inr (.inr (.ref 88))]) (σ' := σ168) rfl ?_
            exact wk_ls [] rfl trivial (jn173 (2) (by simp only [if_pos h172]) (by decide))
          ·
            clear w
            refine wk_b tt_252 2 (pc' := 94) (ls' := [(4, .inl ((sg_g σ 128 (((sg_g σ 88 62) - 1))))), (3, .inl ((sg_g σ 127 (((sg_g σ 88 62) - 1))))), (2, .inl ((sg_g σ 126 (((sg_g σ 88 62) - 1))))), (1, .inl (((sg_g σ 88 62) - 1))), (0, .inr (.inr (.ref 88)))]) (st' := [.inl (1), .inl (((sg_g σ 88 62) - 1)), .inr (.inr (.ref 88))]) (σ' := σ168) rfl ?_
            exact wk_ls [] rfl trivial (jn173 (1) (by simp only [if_neg (show ¬ ((sg_g σ 133 (((sg_g σ 88 70) - 1))) = 0) by omega)]) (by decide))
  ·
    have w := w.2 h4
    refine wk_b tt_252 2 (pc' := 42) (ls' := [(4, .inl ((sg_g σ 128 (((sg_g σ 88 62) - 1))))), (3, .inl ((sg_g σ 127 (((sg_g σ 88 62) - 1))))), (2, .inl ((sg_g σ 126 (((sg_g σ 88 62) - 1))))), (1, .inl (((sg_g σ 88 62) - 1))), (0, .inr (.inr (.ref 88)))]) (st' := [.inl (((sg_g σ 88 62) - 1)), .inr (.inr (.ref 88))]) (σ' := σ) rfl ?_
    refine wk_call tt_252 rfl rfl rfl rfl rfl tt_250 rfl (by decide) (w_goEach z σ (((sg_g σ 88 62) - 1)) _ c1 w) (fun u188 σ184 hq186 => ?_)
    obtain ⟨rfl, hF185, w⟩ := hq186
    have w := w hF185
    exact wk_rV tt_252 rfl rfl ⟨rfl, (sg_F_t (sg_F_r [122, 123, 124, 125, 126, 127, 128, 129, 130, 131, 132, 133, 134, 135, 55088, 56088, 57088, 61088, 63088, 71088, 74088] σ) (sg_F_m (L := [122, 123, 124, 125, 126, 127, 128, 129, 130, 131, 132, 133, 134, 135, 55088, 56088, 57088, 61088, 63088, 71088, 74088]) hF185 rfl)), w⟩
