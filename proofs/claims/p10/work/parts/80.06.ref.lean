/-! Conditions of the reference's methods, by program (6). -/
-- NestedVectorsModel.acted
def V_acted_d (σ : sg_S) (b1 : Int) (b2 : Int) (b3 : Int) (Q : Int → sg_S → Prop) : Prop := V_parted σ (b1) (b2) (b3) (fun q1 σ2 => sg_R q1 → sg_F [122, 123, 124, 125, 57088, 61088, 74088] σ σ2 → Q (q1) σ2)
set_option maxHeartbeats 4000000 in
set_option maxRecDepth 8000 in
theorem w_acted_d (z : Value) (σ : sg_S) (b1 : Int) (b2 : Int) (b3 : Int) (Q : Int → sg_S → Prop) (rb1 : sg_R b1) (rb2 : sg_R b2) (rb3 : sg_R b3) (w : V_acted_d σ b1 b2 b3 Q) : wx z 2 211 628 [(0, .inr (.inr (.ref 88))), (1, .inl (b1)), (2, .inl (b2)), (3, .inl (b3))] [] σ (fun v σ' => ∃ q, v = some (.inl q) ∧ sg_R q ∧ sg_F [122, 123, 124, 125, 57088, 61088, 74088] σ σ' ∧ Q q σ') := by
  unfold V_acted_d at w
  refine wk_b tt_211 4 (pc' := 632) (ls' := [(0, .inr (.inr (.ref 88))), (1, .inl (b1)), (2, .inl (b2)), (3, .inl (b3))]) (st' := [.inl (b3), .inl (b2), .inl (b1), .inr (.inr (.ref 88))]) (σ' := σ) rfl ?_
  refine wk_call tt_211 rfl rfl rfl rfl rfl tt_303 rfl (by decide) (w_parted z σ (b1) (b2) (b3) _ rb1 rb2 rb3 w) (fun u6 σ2 hq4 => ?_)
  obtain ⟨q1, rfl, r5, hF3, w⟩ := hq4
  have w := w r5 hF3
  exact wk_rI tt_211 rfl rfl ⟨_, rfl, r5, (sg_F_t (sg_F_r [122, 123, 124, 125, 57088, 61088, 74088] σ) (sg_F_m (L := [122, 123, 124, 125, 57088, 61088, 74088]) hF3 rfl)), w⟩
-- NestedVectorsModel.acted
def V_acted (σ : sg_S) (a1 : Int) (a2 : Int) (a3 : Int) (Q : Int → sg_S → Prop) : Prop := (0 ≤ a1 ∧ a1 < 210) ∧ (((sg_g σ 93 (a1)) = 16 → V_acted_16 σ (a2) ((sg_g σ 88 60)) Q) ∧ (¬ (sg_g σ 93 (a1)) = 16 → (((sg_g σ 93 (a1)) = 17 → V_acted_17 σ (a1) (a2) (a3) ((sg_g σ 88 60)) Q) ∧ (¬ (sg_g σ 93 (a1)) = 17 → (((sg_g σ 93 (a1)) = 18 → V_acted_18 σ (a2) Q) ∧ (¬ (sg_g σ 93 (a1)) = 18 → (((sg_g σ 93 (a1)) = 19 → V_acted_19 σ (a1) (a2) Q) ∧ (¬ (sg_g σ 93 (a1)) = 19 → (((sg_g σ 93 (a1)) = 20 → V_acted_19 σ (a1) (a2) Q) ∧ (¬ (sg_g σ 93 (a1)) = 20 → (((sg_g σ 93 (a1)) = 21 → V_acted_21 σ (a2) ((sg_g σ 88 60)) Q) ∧ (¬ (sg_g σ 93 (a1)) = 21 → (((sg_g σ 93 (a1)) = 22 → V_acted_22 σ (a1) (a2) ((sg_g σ 88 60)) Q) ∧ (¬ (sg_g σ 93 (a1)) = 22 → (((sg_g σ 93 (a1)) = 23 → V_acted_23 σ (a1) (a2) (a3) ((sg_g σ 88 60)) Q) ∧ (¬ (sg_g σ 93 (a1)) = 23 → (((sg_g σ 93 (a1)) = 24 → V_acted_24 σ (a1) (a2) Q) ∧ (¬ (sg_g σ 93 (a1)) = 24 → (((sg_g σ 93 (a1)) = 25 → V_acted_25 σ (a1) (a2) (a3) ((sg_g σ 88 60)) Q) ∧ (¬ (sg_g σ 93 (a1)) = 25 → (((sg_g σ 93 (a1)) = 26 → V_acted_26 σ (a1) (a2) (a3) Q) ∧ (¬ (sg_g σ 93 (a1)) = 26 → V_acted_d σ (a1) (a2) (a3) Q))))))))))))))))))))))
set_option maxHeartbeats 4000000 in
set_option maxRecDepth 8000 in
theorem w_acted (z : Value) (σ : sg_S) (a1 : Int) (a2 : Int) (a3 : Int) (Q : Int → sg_S → Prop) (ra1 : sg_R a1) (ra2 : sg_R a2) (ra3 : sg_R a3) (w : V_acted σ a1 a2 a3 Q) : wx z 3 211 0 [(0, .inr (.inr (.ref 88))), (1, .inl (a1)), (2, .inl (a2)), (3, .inl (a3))] [] σ (fun v σ' => ∃ q, v = some (.inl q) ∧ sg_R q ∧ sg_F [122, 123, 124, 125, 135, 57088, 61088, 74088] σ σ' ∧ Q q σ') := by
  unfold V_acted at w
  refine wk_b tt_211 8 (pc' := 14) (ls' := [(5, .inl (0)), (4, .inl ((sg_g σ 88 60))), (0, .inr (.inr (.ref 88))), (1, .inl (a1)), (2, .inl (a2)), (3, .inl (a3))]) (st' := [.inl (a1), .inr (.inr (.ref 93))]) (σ' := σ) rfl ?_
  obtain ⟨c1, w⟩ := w
  refine wk_ia tt_211 rfl rfl c1.1 c1.2 ra1 ?_
  by_cases e2 : (sg_g σ 93 (a1)) = 16
  · have w := w.1 e2
    refine wk_ts tt_211 (off := 57) (tgt := 72) rfl (sg_Rg _ _ _) (by rw [e2]; decide) rfl ?_
    refine wk_ls [(0, .inr (.inr (.ref 88))), (2, .inl (a2)), (4, .inl ((sg_g σ 88 60)))] rfl ⟨rfl, rfl, rfl, trivial⟩ ?_
    exact wk_post (wk_d (by decide) (w_acted_16 z σ (a2) ((sg_g σ 88 60)) Q ra2 (sg_Rg _ _ _) w)) (fun v σ' ⟨q, e, r, hF, hQ⟩ => ⟨q, e, r, sg_F_t (sg_F_r [122, 123, 124, 125, 135, 57088, 61088, 74088] σ) (sg_F_m hF rfl), hQ⟩)
  have w := w.2 e2
  by_cases e4 : (sg_g σ 93 (a1)) = 17
  · have w := w.1 e4
    refine wk_ts tt_211 (off := 106) (tgt := 121) rfl (sg_Rg _ _ _) (by rw [e4]; decide) rfl ?_
    refine wk_ls [(0, .inr (.inr (.ref 88))), (1, .inl (a1)), (2, .inl (a2)), (3, .inl (a3)), (4, .inl ((sg_g σ 88 60)))] rfl ⟨rfl, rfl, rfl, rfl, rfl, trivial⟩ ?_
    exact wk_post (wk_d (by decide) (w_acted_17 z σ (a1) (a2) (a3) ((sg_g σ 88 60)) Q ra1 ra2 ra3 (sg_Rg _ _ _) w)) (fun v σ' ⟨q, e, r, hF, hQ⟩ => ⟨q, e, r, sg_F_t (sg_F_r [122, 123, 124, 125, 135, 57088, 61088, 74088] σ) (sg_F_m hF rfl), hQ⟩)
  have w := w.2 e4
  by_cases e6 : (sg_g σ 93 (a1)) = 18
  · have w := w.1 e6
    refine wk_ts tt_211 (off := 159) (tgt := 174) rfl (sg_Rg _ _ _) (by rw [e6]; decide) rfl ?_
    refine wk_ls [(0, .inr (.inr (.ref 88))), (2, .inl (a2)), (5, .inl (0))] rfl ⟨rfl, rfl, rfl, trivial⟩ ?_
    exact wk_post (wk_d (by decide) (w_acted_18 z σ (a2) Q ra2 w)) (fun v σ' ⟨q, e, r, hF, hQ⟩ => ⟨q, e, r, (by rw [← hF]; exact (sg_F_r [122, 123, 124, 125, 135, 57088, 61088, 74088] σ)), hQ⟩)
  have w := w.2 e6
  by_cases e8 : (sg_g σ 93 (a1)) = 19
  · have w := w.1 e8
    refine wk_ts tt_211 (off := 194) (tgt := 209) rfl (sg_Rg _ _ _) (by rw [e8]; decide) rfl ?_
    refine wk_ls [(0, .inr (.inr (.ref 88))), (1, .inl (a1)), (2, .inl (a2))] rfl ⟨rfl, rfl, rfl, trivial⟩ ?_
    exact wk_post (wk_d (by decide) (w_acted_19 z σ (a1) (a2) Q ra1 ra2 w)) (fun v σ' ⟨q, e, r, hF, hQ⟩ => ⟨q, e, r, sg_F_t (sg_F_r [122, 123, 124, 125, 135, 57088, 61088, 74088] σ) (sg_F_m hF rfl), hQ⟩)
  have w := w.2 e8
  by_cases e10 : (sg_g σ 93 (a1)) = 20
  · have w := w.1 e10
    refine wk_ts tt_211 (off := 194) (tgt := 209) rfl (sg_Rg _ _ _) (by rw [e10]; decide) rfl ?_
    refine wk_ls [(0, .inr (.inr (.ref 88))), (1, .inl (a1)), (2, .inl (a2))] rfl ⟨rfl, rfl, rfl, trivial⟩ ?_
    exact wk_post (wk_d (by decide) (w_acted_19 z σ (a1) (a2) Q ra1 ra2 w)) (fun v σ' ⟨q, e, r, hF, hQ⟩ => ⟨q, e, r, sg_F_t (sg_F_r [122, 123, 124, 125, 135, 57088, 61088, 74088] σ) (sg_F_m hF rfl), hQ⟩)
  have w := w.2 e10
  by_cases e12 : (sg_g σ 93 (a1)) = 21
  · have w := w.1 e12
    refine wk_ts tt_211 (off := 294) (tgt := 309) rfl (sg_Rg _ _ _) (by rw [e12]; decide) rfl ?_
    refine wk_ls [(0, .inr (.inr (.ref 88))), (2, .inl (a2)), (4, .inl ((sg_g σ 88 60))), (5, .inl (0))] rfl ⟨rfl, rfl, rfl, rfl, trivial⟩ ?_
    exact wk_post (wk_d (by decide) (w_acted_21 z σ (a2) ((sg_g σ 88 60)) Q ra2 (sg_Rg _ _ _) w)) (fun v σ' ⟨q, e, r, hF, hQ⟩ => ⟨q, e, r, sg_F_t (sg_F_r [122, 123, 124, 125, 135, 57088, 61088, 74088] σ) (sg_F_m hF rfl), hQ⟩)
  have w := w.2 e12
  by_cases e14 : (sg_g σ 93 (a1)) = 22
  · have w := w.1 e14
    refine wk_ts tt_211 (off := 346) (tgt := 361) rfl (sg_Rg _ _ _) (by rw [e14]; decide) rfl ?_
    refine wk_ls [(0, .inr (.inr (.ref 88))), (1, .inl (a1)), (2, .inl (a2)), (4, .inl ((sg_g σ 88 60)))] rfl ⟨rfl, rfl, rfl, rfl, trivial⟩ ?_
    exact wk_post (wk_d (by decide) (w_acted_22 z σ (a1) (a2) ((sg_g σ 88 60)) Q ra1 ra2 (sg_Rg _ _ _) w)) (fun v σ' ⟨q, e, r, hF, hQ⟩ => ⟨q, e, r, sg_F_t (sg_F_r [122, 123, 124, 125, 135, 57088, 61088, 74088] σ) (sg_F_m hF rfl), hQ⟩)
  have w := w.2 e14
  by_cases e16 : (sg_g σ 93 (a1)) = 23
  · have w := w.1 e16
    refine wk_ts tt_211 (off := 397) (tgt := 412) rfl (sg_Rg _ _ _) (by rw [e16]; decide) rfl ?_
    refine wk_ls [(0, .inr (.inr (.ref 88))), (1, .inl (a1)), (2, .inl (a2)), (3, .inl (a3)), (4, .inl ((sg_g σ 88 60)))] rfl ⟨rfl, rfl, rfl, rfl, rfl, trivial⟩ ?_
    exact wk_post (wk_d (by decide) (w_acted_23 z σ (a1) (a2) (a3) ((sg_g σ 88 60)) Q ra1 ra2 ra3 (sg_Rg _ _ _) w)) (fun v σ' ⟨q, e, r, hF, hQ⟩ => ⟨q, e, r, sg_F_t (sg_F_r [122, 123, 124, 125, 135, 57088, 61088, 74088] σ) (sg_F_m hF rfl), hQ⟩)
  have w := w.2 e16
  by_cases e18 : (sg_g σ 93 (a1)) = 24
  · have w := w.1 e18
    refine wk_ts tt_211 (off := 515) (tgt := 530) rfl (sg_Rg _ _ _) (by rw [e18]; decide) rfl ?_
    refine wk_ls [(0, .inr (.inr (.ref 88))), (1, .inl (a1)), (2, .inl (a2))] rfl ⟨rfl, rfl, rfl, trivial⟩ ?_
    exact wk_post (wk_d (by decide) (w_acted_24 z σ (a1) (a2) Q ra1 ra2 w)) (fun v σ' ⟨q, e, r, hF, hQ⟩ => ⟨q, e, r, sg_F_t (sg_F_r [122, 123, 124, 125, 135, 57088, 61088, 74088] σ) (sg_F_m hF rfl), hQ⟩)
  have w := w.2 e18
  by_cases e20 : (sg_g σ 93 (a1)) = 25
  · have w := w.1 e20
    refine wk_ts tt_211 (off := 522) (tgt := 537) rfl (sg_Rg _ _ _) (by rw [e20]; decide) rfl ?_
    refine wk_ls [(0, .inr (.inr (.ref 88))), (1, .inl (a1)), (2, .inl (a2)), (3, .inl (a3)), (4, .inl ((sg_g σ 88 60)))] rfl ⟨rfl, rfl, rfl, rfl, rfl, trivial⟩ ?_
    exact wk_post (wk_d (by decide) (w_acted_25 z σ (a1) (a2) (a3) ((sg_g σ 88 60)) Q ra1 ra2 ra3 (sg_Rg _ _ _) w)) (fun v σ' ⟨q, e, r, hF, hQ⟩ => ⟨q, e, r, sg_F_t (sg_F_r [122, 123, 124, 125, 135, 57088, 61088, 74088] σ) (sg_F_m hF rfl), hQ⟩)
  have w := w.2 e20
  by_cases e22 : (sg_g σ 93 (a1)) = 26
  · have w := w.1 e22
    refine wk_ts tt_211 (off := 605) (tgt := 620) rfl (sg_Rg _ _ _) (by rw [e22]; decide) rfl ?_
    refine wk_ls [(0, .inr (.inr (.ref 88))), (1, .inl (a1)), (2, .inl (a2)), (3, .inl (a3))] rfl ⟨rfl, rfl, rfl, rfl, trivial⟩ ?_
    exact wk_post (wk_d (by decide) (w_acted_26 z σ (a1) (a2) (a3) Q ra1 ra2 ra3 w)) (fun v σ' ⟨q, e, r, hF, hQ⟩ => ⟨q, e, r, sg_F_t (sg_F_r [122, 123, 124, 125, 135, 57088, 61088, 74088] σ) (sg_F_m hF rfl), hQ⟩)
  have w := w.2 e22
  refine wk_ts tt_211 (off := 613) (tgt := 628) rfl (sg_Rg _ _ _) (by rcases sw_lo ((sg_g σ 93 (a1))) 16 with h | h; (unfold bm_swt; rw [if_pos (Or.inl h)]); (unfold bm_swt; rw [if_pos (Or.inr (Int.lt_of_add_one_le (sw_st (k := 26) (sw_st (k := 25) (sw_st (k := 24) (sw_st (k := 23) (sw_st (k := 22) (sw_st (k := 21) (sw_st (k := 20) (sw_st (k := 19) (sw_st (k := 18) (sw_st (k := 17) (sw_st (k := 16) h e2) e4) e6) e8) e10) e12) e14) e16) e18) e20) e22)))])) rfl ?_
  refine wk_ls [(0, .inr (.inr (.ref 88))), (1, .inl (a1)), (2, .inl (a2)), (3, .inl (a3))] rfl ⟨rfl, rfl, rfl, rfl, trivial⟩ ?_
  exact wk_post (wk_d (by decide) (w_acted_d z σ (a1) (a2) (a3) Q ra1 ra2 ra3 w)) (fun v σ' ⟨q, e, r, hF, hQ⟩ => ⟨q, e, r, sg_F_t (sg_F_r [122, 123, 124, 125, 135, 57088, 61088, 74088] σ) (sg_F_m hF rfl), hQ⟩)
-- NestedVectorsModel.alike
def V_alike (σ : sg_S) (Q : Int → sg_S → Prop) : Prop := ∀ σ1, σ1 = (sg_w σ 88 0 (0)) → (((sg_g σ 88 51) = 0 → Q ((-4)) σ1) ∧ (¬ (sg_g σ 88 51) = 0 → (((sg_g σ 88 81) = 0 → Q ((-4)) σ1) ∧ (¬ (sg_g σ 88 81) = 0 → ((6 < (sg_g σ 88 53) → Q ((-4)) σ1) ∧ ((sg_g σ 88 53) ≤ 6 → (((sg_g σ 88 83) ≤ 6 → ((¬ (sg_g σ 88 53) = 0 → (((sg_g σ 88 53) = 0 → Q (0) σ1) ∧ (¬ (sg_g σ 88 53) = 0 → (((sg_g σ 88 83) = 0 → Q (0) σ1) ∧ (¬ (sg_g σ 88 83) = 0 → Q (2) σ1))))) ∧ ((sg_g σ 88 53) = 0 → (((sg_g σ 88 83) = 0 → ∀ v14 : Int, v14 = (if ¬ (sg_g σ 88 76) = (sg_g σ 88 77) then (0 : Int) else (1 : Int)) → sg_R v14 → (∃ (I21 : Nat → Int → Int → Prop) (X23 : Int → Prop), (∃ n, I21 n (v14) (0)) ∧ (∀ (n32 : Nat) (v17 : Int) (v18 : Int), sg_R v17 → sg_R v18 → I21 n32 v17 v18 → (((sg_g σ 88 76) ≤ v18 → X23 (v17)) ∧ (v18 < (sg_g σ 88 76) → ((v17 = 0 → X23 (v17)) ∧ (¬ v17 = 0 → (0 ≤ v18 ∧ v18 < 160000) ∧ sg_R (80000 + v18) ∧ (0 ≤ (80000 + v18) ∧ (80000 + v18) < 160000) ∧ ∀ v42 : Int, v42 = (if ¬ (sg_g σ 136 (v18)) = (sg_g σ 136 ((80000 + v18))) then (0 : Int) else (1 : Int)) → sg_R v42 → sg_R (v18 + 1) ∧ (∃ m, m < n32 ∧ I21 m (v42) ((v18 + 1)))))))) ∧ (∀ (v17 : Int), sg_R v17 → X23 v17 → ((v17 = 0 → Q (0) σ1) ∧ (¬ v17 = 0 → Q (1) σ1))))) ∧ (¬ (sg_g σ 88 83) = 0 → (((sg_g σ 88 53) = 0 → Q (0) σ1) ∧ (¬ (sg_g σ 88 53) = 0 → (((sg_g σ 88 83) = 0 → Q (0) σ1) ∧ (¬ (sg_g σ 88 83) = 0 → Q (2) σ1))))))))) ∧ (6 < (sg_g σ 88 83) → Q ((-4)) σ1))))))))
set_option maxHeartbeats 4000000 in
set_option maxRecDepth 8000 in
theorem w_alike (z : Value) (σ : sg_S) (Q : Int → sg_S → Prop)  (w : V_alike σ  Q) : wx z 0 213 0 [(0, .inr (.inr (.ref 88)))] [] σ (fun v σ' => ∃ q, v = some (.inl q) ∧ sg_R q ∧ sg_F [1088] σ σ' ∧ Q q σ') := by
  unfold V_alike at w
  refine wk_b tt_213 3 (pc' := 5) (ls' := [(0, .inr (.inr (.ref 88)))]) (st' := []) (σ' := (sg_w σ 88 0 (0))) rfl ?_
  generalize hs2 : (sg_w σ 88 0 (0)) = σ1
  have w := w σ1 hs2.symm
  have hF3 : sg_F [1088] σ σ1 := by rw [← hs2]; exact sg_F_w (sg_F_r _ _) rfl _
  refine wk_b tt_213 2 (pc' := 9) (ls' := [(0, .inr (.inr (.ref 88)))]) (st' := [.inl ((sg_g σ1 88 51))]) (σ' := σ1) rfl ?_
  rw [show (sg_g σ1 88 51) = (sg_g σ 88 51) from by rw [sg_F_g hF3 rfl]]
  refine wk_if tt_213 (tgt := 37) rfl rfl (sg_Rg _ _ _) (fun (h4 : (sg_g σ 88 51) = 0) => ?_) (fun (h4 : ¬ (sg_g σ 88 51) = 0) => ?_)
  ·
    have w := w.1 h4
    refine wk_b tt_213 1 (pc' := 39) (ls' := [(0, .inr (.inr (.ref 88)))]) (st' := [.inl ((-4))]) (σ' := σ1) rfl ?_
    exact wk_rI tt_213 rfl rfl ⟨_, rfl, (by decide), (sg_F_t (sg_F_r [1088] σ) (sg_F_m (L := [1088]) hF3 rfl)), w⟩
  ·
    have w := w.2 h4
    refine wk_b tt_213 2 (pc' := 16) (ls' := [(0, .inr (.inr (.ref 88)))]) (st' := [.inl ((sg_g σ1 88 81))]) (σ' := σ1) rfl ?_
    rw [show (sg_g σ1 88 81) = (sg_g σ 88 81) from by rw [sg_F_g hF3 rfl]]
    refine wk_if tt_213 (tgt := 37) rfl rfl (sg_Rg _ _ _) (fun (h5 : (sg_g σ 88 81) = 0) => ?_) (fun (h5 : ¬ (sg_g σ 88 81) = 0) => ?_)
    ·
      have w := w.1 h5
      refine wk_b tt_213 1 (pc' := 39) (ls' := [(0, .inr (.inr (.ref 88)))]) (st' := [.inl ((-4))]) (σ' := σ1) rfl ?_
      exact wk_rI tt_213 rfl rfl ⟨_, rfl, (by decide), (sg_F_t (sg_F_r [1088] σ) (sg_F_m (L := [1088]) hF3 rfl)), w⟩
    ·
      have w := w.2 h5
      refine wk_b tt_213 3 (pc' := 25) (ls' := [(0, .inr (.inr (.ref 88)))]) (st' := [.inl (6), .inl ((sg_g σ1 88 53))]) (σ' := σ1) rfl ?_
      rw [show (sg_g σ1 88 53) = (sg_g σ 88 53) from by rw [sg_F_g hF3 rfl]]
      refine wk_if2 tt_213 (tgt := 37) rfl rfl (sg_Rg _ _ _) (by decide) (fun (h6 : 6 < (sg_g σ 88 53)) => ?_) (fun (h6 : (sg_g σ 88 53) ≤ 6) => ?_)
      ·
        have w := w.1 h6
        refine wk_b tt_213 1 (pc' := 39) (ls' := [(0, .inr (.inr (.ref 88)))]) (st' := [.inl ((-4))]) (σ' := σ1) rfl ?_
        exact wk_rI tt_213 rfl rfl ⟨_, rfl, (by decide), (sg_F_t (sg_F_r [1088] σ) (sg_F_m (L := [1088]) hF3 rfl)), w⟩
      ·
        have w := w.2 h6
        refine wk_b tt_213 3 (pc' := 34) (ls' := [(0, .inr (.inr (.ref 88)))]) (st' := [.inl (6), .inl ((sg_g σ1 88 83))]) (σ' := σ1) rfl ?_
        rw [show (sg_g σ1 88 83) = (sg_g σ 88 83) from by rw [sg_F_g hF3 rfl]]
        refine wk_if2 tt_213 (tgt := 40) rfl rfl (sg_Rg _ _ _) (by decide) (fun (h7 : (sg_g σ 88 83) ≤ 6) => ?_) (fun (h7 : 6 < (sg_g σ 88 83)) => ?_)
        ·
          have w := w.1 h7
          refine wk_b tt_213 2 (pc' := 44) (ls' := [(0, .inr (.inr (.ref 88)))]) (st' := [.inl ((sg_g σ1 88 53))]) (σ' := σ1) rfl ?_
          rw [show (sg_g σ1 88 53) = (sg_g σ 88 53) from by rw [sg_F_g hF3 rfl]]
          refine wk_if tt_213 (tgt := 54) rfl rfl (sg_Rg _ _ _) (fun (h8 : ¬ (sg_g σ 88 53) = 0) => ?_) (fun (h8 : (sg_g σ 88 53) = 0) => ?_)
          ·
            have w := w.1 h8
            refine wk_b tt_213 2 (pc' := 58) (ls' := [(0, .inr (.inr (.ref 88)))]) (st' := [.inl ((sg_g σ1 88 53))]) (σ' := σ1) rfl ?_
            rw [show (sg_g σ1 88 53) = (sg_g σ 88 53) from by rw [sg_F_g hF3 rfl]]
            refine wk_if tt_213 (tgt := 72) rfl rfl (sg_Rg _ _ _) (fun (h9 : (sg_g σ 88 53) = 0) => ?_) (fun (h9 : ¬ (sg_g σ 88 53) = 0) => ?_)
            ·
              have w := w.1 h9
              refine wk_b tt_213 1 (pc' := 73) (ls' := [(0, .inr (.inr (.ref 88)))]) (st' := [.inl (0)]) (σ' := σ1) rfl ?_
              exact wk_rI tt_213 rfl rfl ⟨_, rfl, (by decide), (sg_F_t (sg_F_r [1088] σ) (sg_F_m (L := [1088]) hF3 rfl)), w⟩
            ·
              have w := w.2 h9
              refine wk_b tt_213 2 (pc' := 65) (ls' := [(0, .inr (.inr (.ref 88)))]) (st' := [.inl ((sg_g σ1 88 83))]) (σ' := σ1) rfl ?_
              rw [show (sg_g σ1 88 83) = (sg_g σ 88 83) from by rw [sg_F_g hF3 rfl]]
              refine wk_if tt_213 (tgt := 72) rfl rfl (sg_Rg _ _ _) (fun (h10 : (sg_g σ 88 83) = 0) => ?_) (fun (h10 : ¬ (sg_g σ 88 83) = 0) => ?_)
              ·
                have w := w.1 h10
                refine wk_b tt_213 1 (pc' := 73) (ls' := [(0, .inr (.inr (.ref 88)))]) (st' := [.inl (0)]) (σ' := σ1) rfl ?_
                exact wk_rI tt_213 rfl rfl ⟨_, rfl, (by decide), (sg_F_t (sg_F_r [1088] σ) (sg_F_m (L := [1088]) hF3 rfl)), w⟩
              ·
                have w := w.2 h10
                refine wk_b tt_213 2 (pc' := 73) (ls' := [(0, .inr (.inr (.ref 88)))]) (st' := [.inl (2)]) (σ' := σ1) rfl ?_
                exact wk_rI tt_213 rfl rfl ⟨_, rfl, (by decide), (sg_F_t (sg_F_r [1088] σ) (sg_F_m (L := [1088]) hF3 rfl)), w⟩
          ·
            have w := w.2 h8
            refine wk_b tt_213 2 (pc' := 51) (ls' := [(0, .inr (.inr (.ref 88)))]) (st' := [.inl ((sg_g σ1 88 83))]) (σ' := σ1) rfl ?_
            rw [show (sg_g σ1 88 83) = (sg_g σ 88 83) from by rw [sg_F_g hF3 rfl]]
            refine wk_if tt_213 (tgt := 74) rfl rfl (sg_Rg _ _ _) (fun (h11 : (sg_g σ 88 83) = 0) => ?_) (fun (h11 : ¬ (sg_g σ 88 83) = 0) => ?_)
            ·
              have w := w.1 h11
              refine wk_b tt_213 4 (pc' := 82) (ls' := [(0, .inr (.inr (.ref 88)))]) (st' := [.inl ((sg_g σ1 88 77)), .inl ((sg_g σ1 88 76))]) (σ' := σ1) rfl ?_
              rw [show (sg_g σ1 88 76) = (sg_g σ 88 76) from by rw [sg_F_g hF3 rfl]]
              rw [show (sg_g σ1 88 77) = (sg_g σ 88 77) from by rw [sg_F_g hF3 rfl]]
              have jn13 : ∀ v14 : Int, v14 = (if ¬ (sg_g σ 88 76) = (sg_g σ 88 77) then (0 : Int) else (1 : Int)) → sg_R v14 → wx z 0 213 90 [(0, .inr (.inr (.ref 88)))] [.inl (v14)] σ1 (fun v σ' => ∃ q, v = some (.inl q) ∧ sg_R q ∧ sg_F [1088] σ σ' ∧ Q q σ') := by
                intro v14 e16 r15
                have w := w v14 e16 r15
                refine wk_b tt_213 3 (pc' := 93) (ls' := [(2, .inl (0)), (1, .inl (v14)), (0, .inr (.inr (.ref 88)))]) (st' := []) (σ' := σ1) rfl ?_
                obtain ⟨I21, X23, ⟨μ22, w29⟩, w30, w31⟩ := w
                have ex33 : ∀ (v17 : Int), sg_R v17 → X23 v17 → wx z 0 213 136 [(1, .inl (v17))] [] σ1 (fun v σ' => ∃ q, v = some (.inl q) ∧ sg_R q ∧ sg_F [1088] σ σ' ∧ Q q σ') := by
                  intro v17 r24 w
                  have w := w31 v17 r24 w
                  refine wk_b tt_213 1 (pc' := 137) (ls' := [(1, .inl (v17))]) (st' := [.inl (v17)]) (σ' := σ1) rfl ?_
                  refine wk_if tt_213 (tgt := 144) rfl rfl r24 (fun (h34 : v17 = 0) => ?_) (fun (h34 : ¬ v17 = 0) => ?_)
                  ·
                    have w := w.1 h34
                    refine wk_b tt_213 1 (pc' := 145) (ls' := [(1, .inl (v17))]) (st' := [.inl (0)]) (σ' := σ1) rfl ?_
                    exact wk_rI tt_213 rfl rfl ⟨_, rfl, (by decide), (sg_F_t (sg_F_r [1088] σ) (sg_F_m (L := [1088]) hF3 rfl)), w⟩
                  ·
                    have w := w.2 h34
                    refine wk_b tt_213 2 (pc' := 145) (ls' := [(1, .inl (v17))]) (st' := [.inl (1)]) (σ' := σ1) rfl ?_
                    exact wk_rI tt_213 rfl rfl ⟨_, rfl, (by decide), (sg_F_t (sg_F_r [1088] σ) (sg_F_m (L := [1088]) hF3 rfl)), w⟩
                have lp28 : ∀ (n32 : Nat) (v17 : Int) (v18 : Int), sg_R v17 → sg_R v18 → I21 n32 v17 v18 → wx z 0 213 93 [(0, .inr (.inr (.ref 88))), (1, .inl (v17)), (2, .inl (v18))] [] σ1 (fun v σ' => ∃ q, v = some (.inl q) ∧ sg_R q ∧ sg_F [1088] σ σ' ∧ Q q σ') := by
                  intro n32
                  induction n32 using Nat.strongRecOn with
                  | _ n32 ih26 =>
                    intro v17 v18 r24 r25 w
                    have w := w30 n32 v17 v18 r24 r25 w
                    refine wk_b tt_213 3 (pc' := 98) (ls' := [(0, .inr (.inr (.ref 88))), (1, .inl (v17)), (2, .inl (v18))]) (st' := [.inl ((sg_g σ1 88 76)), .inl (v18)]) (σ' := σ1) rfl ?_
                    rw [show (sg_g σ1 88 76) = (sg_g σ 88 76) from by rw [sg_F_g hF3 rfl]]
                    refine wk_if2 tt_213 (tgt := 136) rfl rfl r25 (sg_Rg _ _ _) (fun (h35 : (sg_g σ 88 76) ≤ v18) => ?_) (fun (h35 : v18 < (sg_g σ 88 76)) => ?_)
                    ·
                      have w := w.1 h35
                      exact wk_ls [(1, .inl (v17))] rfl ⟨rfl, trivial⟩ (ex33 (v17)  r24  w)
                    ·
                      have w := w.2 h35
                      refine wk_b tt_213 1 (pc' := 102) (ls' := [(0, .inr (.inr (.ref 88))), (1, .inl (v17)), (2, .inl (v18))]) (st' := [.inl (v17)]) (σ' := σ1) rfl ?_
                      refine wk_if tt_213 (tgt := 136) rfl rfl r24 (fun (h36 : v17 = 0) => ?_) (fun (h36 : ¬ v17 = 0) => ?_)
                      ·
                        have w := w.1 h36
                        exact wk_ls [(1, .inl (v17))] rfl ⟨rfl, trivial⟩ (ex33 (v17)  r24  w)
                      ·
                        have w := w.2 h36
                        refine wk_b tt_213 3 (pc' := 110) (ls' := [(0, .inr (.inr (.ref 88))), (1, .inl (v17)), (2, .inl (v18))]) (st' := [.inl (v18), .inr (.inr (.ref 136))]) (σ' := σ1) rfl ?_
                        obtain ⟨c37, w⟩ := w
                        refine wk_ia tt_213 rfl rfl c37.1 c37.2 r25 ?_
                        rw [show (sg_g σ1 136 (v18)) = (sg_g σ 136 (v18)) from by rw [sg_F_ga hF3 rfl]]
                        obtain ⟨c38, w⟩ := w
                        refine wk_b tt_213 5 (pc' := 120) (ls' := [(0, .inr (.inr (.ref 88))), (1, .inl (v17)), (2, .inl (v18))]) (st' := [.inl ((80000 + v18)), .inr (.inr (.ref 136)), .inl ((sg_g σ 136 (v18)))]) (σ' := σ1) rfl ?_
                        obtain ⟨c39, w⟩ := w
                        refine wk_ia tt_213 rfl rfl c39.1 c39.2 c38 ?_
                        rw [show (sg_g σ1 136 ((80000 + v18))) = (sg_g σ 136 ((80000 + v18))) from by rw [sg_F_ga hF3 rfl]]
                        have jn41 : ∀ v42 : Int, v42 = (if ¬ (sg_g σ 136 (v18)) = (sg_g σ 136 ((80000 + v18))) then (0 : Int) else (1 : Int)) → sg_R v42 → wx z 0 213 129 [(0, .inr (.inr (.ref 88))), (2, .inl (v18))] [.inl (v42)] σ1 (fun v σ' => ∃ q, v = some (.inl q) ∧ sg_R q ∧ sg_F [1088] σ σ' ∧ Q q σ') := by
                          intro v42 e44 r43
                          have w := w v42 e44 r43
                          obtain ⟨c45, w⟩ := w
                          refine wk_b tt_213 3 (pc' := 93) (ls' := [(2, .inl ((v18 + 1))), (1, .inl (v42)), (0, .inr (.inr (.ref 88)))]) (st' := []) (σ' := σ1) rfl ?_
                          obtain ⟨m46, hm46, w⟩ := w
                          exact wk_ls [(0, .inr (.inr (.ref 88))), (1, .inl (v42)), (2, .inl ((v18 + 1)))] rfl ⟨rfl, rfl, rfl, trivial⟩ (ih26 m46 hm46 (v42) ((v18 + 1))  r43 c45  w)
                        refine wk_if2 tt_213 (tgt := 128) rfl rfl (sg_Rg _ _ _) (sg_Rg _ _ _) (fun (h40 : ¬ (sg_g σ 136 (v18)) = (sg_g σ 136 ((80000 + v18)))) => ?_) (fun (h40 : (sg_g σ 136 (v18)) = (sg_g σ 136 ((80000 + v18)))) => ?_)
                        ·
                          clear w
                          refine wk_b tt_213 1 (pc' := 129) (ls' := [(0, .inr (.inr (.ref 88))), (1, .inl (v17)), (2, .inl (v18))]) (st' := [.inl (0)]) (σ' := σ1) rfl ?_
                          exact wk_ls [(0, .inr (.inr (.ref 88))), (2, .inl (v18))] rfl ⟨rfl, rfl, trivial⟩ (jn41 (0) (by simp only [if_pos h40]) (by decide))
                        ·
                          clear w
                          refine wk_b tt_213 2 (pc' := 129) (ls' := [(0, .inr (.inr (.ref 88))), (1, .inl (v17)), (2, .inl (v18))]) (st' := [.inl (1)]) (σ' := σ1) rfl ?_
                          exact wk_ls [(0, .inr (.inr (.ref 88))), (2, .inl (v18))] rfl ⟨rfl, rfl, trivial⟩ (jn41 (1) (by simp only [if_neg (show ¬ (¬ (sg_g σ 136 (v18)) = (sg_g σ 136 ((80000 + v18)))) by omega)]) (by decide))
                exact wk_ls [(0, .inr (.inr (.ref 88))), (1, .inl (v14)), (2, .inl (0))] rfl ⟨rfl, rfl, rfl, trivial⟩ (lp28 μ22 (v14) (0)  r15 (by decide)  w29)
              refine wk_if2 tt_213 (tgt := 89) rfl rfl (sg_Rg _ _ _) (sg_Rg _ _ _) (fun (h12 : ¬ (sg_g σ 88 76) = (sg_g σ 88 77)) => ?_) (fun (h12 : (sg_g σ 88 76) = (sg_g σ 88 77)) => ?_)
              ·
                clear w
                refine wk_b tt_213 1 (pc' := 90) (ls' := [(0, .inr (.inr (.ref 88)))]) (st' := [.inl (0)]) (σ' := σ1) rfl ?_
                exact wk_ls [(0, .inr (.inr (.ref 88)))] rfl ⟨rfl, trivial⟩ (jn13 (0) (by simp only [if_pos h12]) (by decide))
              ·
                clear w
                refine wk_b tt_213 2 (pc' := 90) (ls' := [(0, .inr (.inr (.ref 88)))]) (st' := [.inl (1)]) (σ' := σ1) rfl ?_
                exact wk_ls [(0, .inr (.inr (.ref 88)))] rfl ⟨rfl, trivial⟩ (jn13 (1) (by simp only [if_neg (show ¬ (¬ (sg_g σ 88 76) = (sg_g σ 88 77)) by omega)]) (by decide))
            ·
              have w := w.2 h11
              refine wk_b tt_213 2 (pc' := 58) (ls' := [(0, .inr (.inr (.ref 88)))]) (st' := [.inl ((sg_g σ1 88 53))]) (σ' := σ1) rfl ?_
              rw [show (sg_g σ1 88 53) = (sg_g σ 88 53) from by rw [sg_F_g hF3 rfl]]
              refine wk_if tt_213 (tgt := 72) rfl rfl (sg_Rg _ _ _) (fun (h47 : (sg_g σ 88 53) = 0) => ?_) (fun (h47 : ¬ (sg_g σ 88 53) = 0) => ?_)
              ·
                have w := w.1 h47
                refine wk_b tt_213 1 (pc' := 73) (ls' := [(0, .inr (.inr (.ref 88)))]) (st' := [.inl (0)]) (σ' := σ1) rfl ?_
                exact wk_rI tt_213 rfl rfl ⟨_, rfl, (by decide), (sg_F_t (sg_F_r [1088] σ) (sg_F_m (L := [1088]) hF3 rfl)), w⟩
              ·
                have w := w.2 h47
                refine wk_b tt_213 2 (pc' := 65) (ls' := [(0, .inr (.inr (.ref 88)))]) (st' := [.inl ((sg_g σ1 88 83))]) (σ' := σ1) rfl ?_
                rw [show (sg_g σ1 88 83) = (sg_g σ 88 83) from by rw [sg_F_g hF3 rfl]]
                refine wk_if tt_213 (tgt := 72) rfl rfl (sg_Rg _ _ _) (fun (h48 : (sg_g σ 88 83) = 0) => ?_) (fun (h48 : ¬ (sg_g σ 88 83) = 0) => ?_)
                ·
                  have w := w.1 h48
                  refine wk_b tt_213 1 (pc' := 73) (ls' := [(0, .inr (.inr (.ref 88)))]) (st' := [.inl (0)]) (σ' := σ1) rfl ?_
                  exact wk_rI tt_213 rfl rfl ⟨_, rfl, (by decide), (sg_F_t (sg_F_r [1088] σ) (sg_F_m (L := [1088]) hF3 rfl)), w⟩
                ·
                  have w := w.2 h48
                  refine wk_b tt_213 2 (pc' := 73) (ls' := [(0, .inr (.inr (.ref 88)))]) (st' := [.inl (2)]) (σ' := σ1) rfl ?_
                  exact wk_rI tt_213 rfl rfl ⟨_, rfl, (by decide), (sg_F_t (sg_F_r [1088] σ) (sg_F_m (L := [1088]) hF3 rfl)), w⟩
        ·
          have w := w.2 h7
          refine wk_b tt_213 1 (pc' := 39) (ls' := [(0, .inr (.inr (.ref 88)))]) (st' := [.inl ((-4))]) (σ' := σ1) rfl ?_
          exact wk_rI tt_213 rfl rfl ⟨_, rfl, (by decide), (sg_F_t (sg_F_r [1088] σ) (sg_F_m (L := [1088]) hF3 rfl)), w⟩
-- NestedVectorsModel.works
def V_works (σ : sg_S) (a1 : Int) (Q : sg_S → Prop) : Prop := (∃ P3 : sg_S → Prop, ((¬ (sg_g σ 88 73) = 0 → P3 σ) ∧ ((sg_g σ 88 73) = 0 → sg_RL ((sg_g σ 88 54) + a1) ∧ ((((sg_g σ 88 54) + a1) ≤ 3000 → P3 σ) ∧ (3000 < ((sg_g σ 88 54) + a1) → ∀ σ19, σ19 = (sg_w σ 88 73 (7)) → P3 σ19)))) ∧ (∀ (σ4 : sg_S), sg_F [74088] σ σ4 → P3 σ4 → ((¬ (sg_g σ4 88 73) = 0 → sg_R ((sg_g σ 88 54) + 0) ∧ ∀ σ9, σ9 = (sg_w σ4 88 54 (((sg_g σ 88 54) + 0))) → Q σ9) ∧ ((sg_g σ4 88 73) = 0 → sg_R (a1) ∧ sg_R ((sg_g σ 88 54) + a1) ∧ ∀ σ14, σ14 = (sg_w σ4 88 54 (((sg_g σ 88 54) + a1))) → Q σ14))))
set_option maxHeartbeats 4000000 in
set_option maxRecDepth 8000 in
theorem w_works (z : Value) (σ : sg_S) (a1 : Int) (Q : sg_S → Prop) (ra1 : sg_RL a1) (w : V_works σ a1 Q) : wx z 0 335 0 [(0, .inr (.inr (.ref 88))), (1, .inr (.inl (a1)))] [] σ (fun v σ' => v = none ∧ sg_F [55088, 74088] σ σ' ∧ Q σ') := by
  unfold V_works at w
  refine wk_b tt_335 2 (pc' := 4) (ls' := [(0, .inr (.inr (.ref 88))), (1, .inr (.inl (a1)))]) (st' := [.inl ((sg_g σ 88 73))]) (σ' := σ) rfl ?_
  obtain ⟨P3, w, w6⟩ := w
  have jn2 : ∀ (σ4 : sg_S), sg_F [74088] σ σ4 → P3 σ4 → wx z 0 335 27 [(0, .inr (.inr (.ref 88))), (1, .inr (.inl (a1)))] [] σ4 (fun v σ' => v = none ∧ sg_F [55088, 74088] σ σ' ∧ Q σ') := by
    intro σ4 hF5 w
    have w := w6 σ4 hF5 w
    refine wk_b tt_335 5 (pc' := 36) (ls' := [(0, .inr (.inr (.ref 88))), (1, .inr (.inl (a1)))]) (st' := [.inl ((sg_g σ4 88 73)), .inl ((sg_g σ4 88 54)), .inr (.inr (.ref 88))]) (σ' := σ4) rfl ?_
    rw [show (sg_g σ4 88 54) = (sg_g σ 88 54) from by rw [sg_F_g hF5 rfl]]
    refine wk_if tt_335 (tgt := 44) rfl rfl (sg_Rg _ _ _) (fun (h7 : ¬ (sg_g σ4 88 73) = 0) => ?_) (fun (h7 : (sg_g σ4 88 73) = 0) => ?_)
    ·
      have w := w.1 h7
      obtain ⟨c8, w⟩ := w
      refine wk_b tt_335 3 (pc' := 49) (ls' := [(0, .inr (.inr (.ref 88))), (1, .inr (.inl (a1)))]) (st' := []) (σ' := (sg_w σ4 88 54 (((sg_g σ 88 54) + 0)))) rfl ?_
      generalize hs10 : (sg_w σ4 88 54 (((sg_g σ 88 54) + 0))) = σ9
      have w := w σ9 hs10.symm
      have hF11 : sg_F [55088] σ4 σ9 := by rw [← hs10]; exact sg_F_w (sg_F_r _ _) rfl _
      exact wk_rV tt_335 rfl rfl ⟨rfl, (sg_F_t (sg_F_t (sg_F_r [55088, 74088] σ) (sg_F_m (L := [55088, 74088]) hF5 rfl)) (sg_F_m (L := [55088, 74088]) hF11 rfl)), w⟩
    ·
      have w := w.2 h7
      obtain ⟨c12, w⟩ := w
      refine wk_b tt_335 2 (pc' := 41) (ls' := [(0, .inr (.inr (.ref 88))), (1, .inr (.inl (a1)))]) (st' := [.inl (a1), .inl ((sg_g σ 88 54)), .inr (.inr (.ref 88))]) (σ' := σ4) rfl ?_
      obtain ⟨c13, w⟩ := w
      refine wk_b tt_335 3 (pc' := 49) (ls' := [(0, .inr (.inr (.ref 88))), (1, .inr (.inl (a1)))]) (st' := []) (σ' := (sg_w σ4 88 54 (((sg_g σ 88 54) + a1)))) rfl ?_
      generalize hs15 : (sg_w σ4 88 54 (((sg_g σ 88 54) + a1))) = σ14
      have w := w σ14 hs15.symm
      have hF16 : sg_F [55088] σ4 σ14 := by rw [← hs15]; exact sg_F_w (sg_F_r _ _) rfl _
      exact wk_rV tt_335 rfl rfl ⟨rfl, (sg_F_t (sg_F_t (sg_F_r [55088, 74088] σ) (sg_F_m (L := [55088, 74088]) hF5 rfl)) (sg_F_m (L := [55088, 74088]) hF16 rfl)), w⟩
  refine wk_if tt_335 (tgt := 27) rfl rfl (sg_Rg _ _ _) (fun (h1 : ¬ (sg_g σ 88 73) = 0) => ?_) (fun (h1 : (sg_g σ 88 73) = 0) => ?_)
  ·
    have w := w.1 h1
    exact wk_ls [(0, .inr (.inr (.ref 88))), (1, .inr (.inl (a1)))] rfl ⟨rfl, rfl, trivial⟩ (jn2 σ (sg_F_r [74088] σ) w)
  ·
    have w := w.2 h1
    obtain ⟨c17, w⟩ := w
    refine wk_b tt_335 6 (pc' := 17) (ls' := [(0, .inr (.inr (.ref 88))), (1, .inr (.inl (a1)))]) (st' := [.inr (.inl (3000)), .inr (.inl (((sg_n ((sg_g σ 88 54))) + a1)))]) (σ' := σ) rfl ?_
    rw [show (sg_n ((sg_g σ 88 54))) = (sg_g σ 88 54) from by rw [sg_id (sg_Rg _ _ _)]]
    refine wk_lcif tt_335 (tgt := 27) rfl rfl rfl c17 (by decide) (fun (h18 : ((sg_g σ 88 54) + a1) ≤ 3000) => ?_) (fun (h18 : 3000 < ((sg_g σ 88 54) + a1)) => ?_)
    ·
      have w := w.1 h18
      exact wk_ls [(0, .inr (.inr (.ref 88))), (1, .inr (.inl (a1)))] rfl ⟨rfl, rfl, trivial⟩ (jn2 σ (sg_F_r [74088] σ) w)
    ·
      have w := w.2 h18
      refine wk_b tt_335 3 (pc' := 27) (ls' := [(0, .inr (.inr (.ref 88))), (1, .inr (.inl (a1)))]) (st' := []) (σ' := (sg_w σ 88 73 (7))) rfl ?_
      generalize hs20 : (sg_w σ 88 73 (7)) = σ19
      have w := w σ19 hs20.symm
      have hF21 : sg_F [74088] σ σ19 := by rw [← hs20]; exact sg_F_w (sg_F_r _ _) rfl _
      exact wk_ls [(0, .inr (.inr (.ref 88))), (1, .inr (.inl (a1)))] rfl ⟨rfl, rfl, trivial⟩ (jn2 σ19 (sg_F_t (sg_F_r [74088] σ) (sg_F_m (L := [74088]) hF21 rfl)) w)
-- NestedVectorsModel.begin
def V_begin (σ : sg_S) (a1 : Int) (Q : sg_S → Prop) : Prop := V_works σ (1) (fun σ2 => sg_F [55088, 74088] σ σ2 → (0 ≤ (sg_g σ 88 62) ∧ (sg_g σ 88 62) < 4000) ∧ ∀ σ8, σ8 = (sg_w σ2 126 ((sg_g σ 88 62)) (a1)) → ∀ σ11, σ11 = (sg_w σ8 127 ((sg_g σ 88 62)) (0)) → ∀ σ14, σ14 = (sg_w σ11 128 ((sg_g σ 88 62)) ((sg_g σ 88 70))) → ∀ σ17, σ17 = (sg_w σ14 129 ((sg_g σ 88 62)) (1)) → ∀ σ20, σ20 = (sg_w σ17 130 ((sg_g σ 88 62)) (0)) → ∀ σ23, σ23 = (sg_w σ20 131 ((sg_g σ 88 62)) (0)) → ∀ σ26, σ26 = (sg_w σ23 132 ((sg_g σ 88 62)) (0)) → sg_R ((sg_g σ 88 62) + 1) ∧ ∀ σ30, σ30 = (sg_w σ26 88 62 (((sg_g σ 88 62) + 1))) → Q σ30)
set_option maxHeartbeats 4000000 in
set_option maxRecDepth 8000 in
theorem w_begin (z : Value) (σ : sg_S) (a1 : Int) (Q : sg_S → Prop) (ra1 : sg_R a1) (w : V_begin σ a1 Q) : wx z 1 214 0 [(0, .inr (.inr (.ref 88))), (1, .inl (a1))] [] σ (fun v σ' => v = none ∧ sg_F [126, 127, 128, 129, 130, 131, 132, 55088, 63088, 74088] σ σ' ∧ Q σ') := by
  unfold V_begin at w
  refine wk_b tt_214 2 (pc' := 2) (ls' := [(0, .inr (.inr (.ref 88))), (1, .inl (a1))]) (st' := [.inr (.inl (1)), .inr (.inr (.ref 88))]) (σ' := σ) rfl ?_
  refine wk_call tt_214 rfl rfl rfl rfl rfl tt_335 rfl (by decide) (w_works z σ (1) _ (by decide) w) (fun u6 σ2 hq4 => ?_)
  obtain ⟨rfl, hF3, w⟩ := hq4
  have w := w hF3
  refine wk_b tt_214 5 (pc' := 14) (ls' := [(0, .inr (.inr (.ref 88))), (1, .inl (a1))]) (st' := [.inl (a1), .inl ((sg_g σ2 88 62)), .inr (.inr (.ref 126))]) (σ' := σ2) rfl ?_
  rw [show (sg_g σ2 88 62) = (sg_g σ 88 62) from by rw [sg_F_g hF3 rfl]]
  obtain ⟨c7, w⟩ := w
  refine wk_is tt_214 rfl rfl c7.1 c7.2 (sg_Rg _ _ _) ?_
  generalize hs9 : (sg_w σ2 126 ((sg_g σ 88 62)) (a1)) = σ8
  have w := w σ8 hs9.symm
  have hF10 : sg_F [126] σ2 σ8 := by rw [← hs9]; exact sg_F_w (sg_F_r _ _) rfl _
  refine wk_b tt_214 5 (pc' := 24) (ls' := [(0, .inr (.inr (.ref 88))), (1, .inl (a1))]) (st' := [.inl (0), .inl ((sg_g σ8 88 62)), .inr (.inr (.ref 127))]) (σ' := σ8) rfl ?_
  rw [show (sg_g σ8 88 62) = (sg_g σ 88 62) from by rw [sg_F_ga hF10 rfl, sg_F_g hF3 rfl]]
  refine wk_is tt_214 rfl rfl c7.1 c7.2 (sg_Rg _ _ _) ?_
  generalize hs12 : (sg_w σ8 127 ((sg_g σ 88 62)) (0)) = σ11
  have w := w σ11 hs12.symm
  have hF13 : sg_F [127] σ8 σ11 := by rw [← hs12]; exact sg_F_w (sg_F_r _ _) rfl _
  refine wk_b tt_214 6 (pc' := 37) (ls' := [(0, .inr (.inr (.ref 88))), (1, .inl (a1))]) (st' := [.inl ((sg_g σ11 88 70)), .inl ((sg_g σ11 88 62)), .inr (.inr (.ref 128))]) (σ' := σ11) rfl ?_
  rw [show (sg_g σ11 88 62) = (sg_g σ 88 62) from by rw [sg_F_ga hF13 rfl, sg_F_ga hF10 rfl, sg_F_g hF3 rfl]]
  rw [show (sg_g σ11 88 70) = (sg_g σ 88 70) from by rw [sg_F_ga hF13 rfl, sg_F_ga hF10 rfl, sg_F_g hF3 rfl]]
  refine wk_is tt_214 rfl rfl c7.1 c7.2 (sg_Rg _ _ _) ?_
  generalize hs15 : (sg_w σ11 128 ((sg_g σ 88 62)) ((sg_g σ 88 70))) = σ14
  have w := w σ14 hs15.symm
  have hF16 : sg_F [128] σ11 σ14 := by rw [← hs15]; exact sg_F_w (sg_F_r _ _) rfl _
  refine wk_b tt_214 5 (pc' := 47) (ls' := [(0, .inr (.inr (.ref 88))), (1, .inl (a1))]) (st' := [.inl (1), .inl ((sg_g σ14 88 62)), .inr (.inr (.ref 129))]) (σ' := σ14) rfl ?_
  rw [show (sg_g σ14 88 62) = (sg_g σ 88 62) from by rw [sg_F_ga hF16 rfl, sg_F_ga hF13 rfl, sg_F_ga hF10 rfl, sg_F_g hF3 rfl]]
  refine wk_is tt_214 rfl rfl c7.1 c7.2 (sg_Rg _ _ _) ?_
  generalize hs18 : (sg_w σ14 129 ((sg_g σ 88 62)) (1)) = σ17
  have w := w σ17 hs18.symm
  have hF19 : sg_F [129] σ14 σ17 := by rw [← hs18]; exact sg_F_w (sg_F_r _ _) rfl _
  refine wk_b tt_214 5 (pc' := 57) (ls' := [(0, .inr (.inr (.ref 88))), (1, .inl (a1))]) (st' := [.inl (0), .inl ((sg_g σ17 88 62)), .inr (.inr (.ref 130))]) (σ' := σ17) rfl ?_
  rw [show (sg_g σ17 88 62) = (sg_g σ 88 62) from by rw [sg_F_ga hF19 rfl, sg_F_ga hF16 rfl, sg_F_ga hF13 rfl, sg_F_ga hF10 rfl, sg_F_g hF3 rfl]]
  refine wk_is tt_214 rfl rfl c7.1 c7.2 (sg_Rg _ _ _) ?_
  generalize hs21 : (sg_w σ17 130 ((sg_g σ 88 62)) (0)) = σ20
  have w := w σ20 hs21.symm
  have hF22 : sg_F [130] σ17 σ20 := by rw [← hs21]; exact sg_F_w (sg_F_r _ _) rfl _
  refine wk_b tt_214 5 (pc' := 67) (ls' := [(0, .inr (.inr (.ref 88))), (1, .inl (a1))]) (st' := [.inl (0), .inl ((sg_g σ20 88 62)), .inr (.inr (.ref 131))]) (σ' := σ20) rfl ?_
  rw [show (sg_g σ20 88 62) = (sg_g σ 88 62) from by rw [sg_F_ga hF22 rfl, sg_F_ga hF19 rfl, sg_F_ga hF16 rfl, sg_F_ga hF13 rfl, sg_F_ga hF10 rfl, sg_F_g hF3 rfl]]
  refine wk_is tt_214 rfl rfl c7.1 c7.2 (sg_Rg _ _ _) ?_
  generalize hs24 : (sg_w σ20 131 ((sg_g σ 88 62)) (0)) = σ23
  have w := w σ23 hs24.symm
  have hF25 : sg_F [131] σ20 σ23 := by rw [← hs24]; exact sg_F_w (sg_F_r _ _) rfl _
  refine wk_b tt_214 5 (pc' := 77) (ls' := [(0, .inr (.inr (.ref 88))), (1, .inl (a1))]) (st' := [.inl (0), .inl ((sg_g σ23 88 62)), .inr (.inr (.ref 132))]) (σ' := σ23) rfl ?_
  rw [show (sg_g σ23 88 62) = (sg_g σ 88 62) from by rw [sg_F_ga hF25 rfl, sg_F_ga hF22 rfl, sg_F_ga hF19 rfl, sg_F_ga hF16 rfl, sg_F_ga hF13 rfl, sg_F_ga hF10 rfl, sg_F_g hF3 rfl]]
  refine wk_is tt_214 rfl rfl c7.1 c7.2 (sg_Rg _ _ _) ?_
  generalize hs27 : (sg_w σ23 132 ((sg_g σ 88 62)) (0)) = σ26
  have w := w σ26 hs27.symm
  have hF28 : sg_F [132] σ23 σ26 := by rw [← hs27]; exact sg_F_w (sg_F_r _ _) rfl _
  obtain ⟨c29, w⟩ := w
  refine wk_b tt_214 6 (pc' := 88) (ls' := [(0, .inr (.inr (.ref 88))), (1, .inl (a1))]) (st' := []) (σ' := (sg_w σ26 88 62 (((sg_g σ26 88 62) + 1)))) rfl ?_
  rw [show (sg_g σ26 88 62) = (sg_g σ 88 62) from by rw [sg_F_ga hF28 rfl, sg_F_ga hF25 rfl, sg_F_ga hF22 rfl, sg_F_ga hF19 rfl, sg_F_ga hF16 rfl, sg_F_ga hF13 rfl, sg_F_ga hF10 rfl, sg_F_g hF3 rfl]]
  generalize hs31 : (sg_w σ26 88 62 (((sg_g σ 88 62) + 1))) = σ30
  have w := w σ30 hs31.symm
  have hF32 : sg_F [63088] σ26 σ30 := by rw [← hs31]; exact sg_F_w (sg_F_r _ _) rfl _
  exact wk_rV tt_214 rfl rfl ⟨rfl, (sg_F_t (sg_F_t (sg_F_t (sg_F_t (sg_F_t (sg_F_t (sg_F_t (sg_F_t (sg_F_t (sg_F_r [126, 127, 128, 129, 130, 131, 132, 55088, 63088, 74088] σ) (sg_F_m (L := [126, 127, 128, 129, 130, 131, 132, 55088, 63088, 74088]) hF3 rfl)) (sg_F_m (L := [126, 127, 128, 129, 130, 131, 132, 55088, 63088, 74088]) hF10 rfl)) (sg_F_m (L := [126, 127, 128, 129, 130, 131, 132, 55088, 63088, 74088]) hF13 rfl)) (sg_F_m (L := [126, 127, 128, 129, 130, 131, 132, 55088, 63088, 74088]) hF16 rfl)) (sg_F_m (L := [126, 127, 128, 129, 130, 131, 132, 55088, 63088, 74088]) hF19 rfl)) (sg_F_m (L := [126, 127, 128, 129, 130, 131, 132, 55088, 63088, 74088]) hF22 rfl)) (sg_F_m (L := [126, 127, 128, 129, 130, 131, 132, 55088, 63088, 74088]) hF25 rfl)) (sg_F_m (L := [126, 127, 128, 129, 130, 131, 132, 55088, 63088, 74088]) hF28 rfl)) (sg_F_m (L := [126, 127, 128, 129, 130, 131, 132, 55088, 63088, 74088]) hF32 rfl)), w⟩
/-! Conditions of the reference's methods, by program (7). -/
-- NestedVectorsModel.hasCome
def v_hasCome (σ : sg_S) (a1 : Int) : Int := (if a1 = 0 then (if (sg_g σ 88 51) = 0 then (0 : Int) else (if ¬ (sg_g σ 88 53) = 0 then (0 : Int) else (1 : Int))) else (if (sg_g σ 88 81) = 0 then (0 : Int) else (if ¬ (sg_g σ 88 83) = 0 then (0 : Int) else (1 : Int))))
theorem vz_hasCome {σ : sg_S} {a1 : Int} : v_hasCome σ a1 = 0 ∨ v_hasCome σ a1 = 1 := by
  unfold v_hasCome
  by_cases h : a1 = 0
  · rw [if_pos h]
    by_cases h : (sg_g σ 88 51) = 0
    · rw [if_pos h]
      exact Or.inl rfl
    · rw [if_neg h]
      by_cases h : ¬ (sg_g σ 88 53) = 0
      · rw [if_pos h]
        exact Or.inl rfl
      · rw [if_neg h]
        exact Or.inr rfl
  · rw [if_neg h]
    by_cases h : (sg_g σ 88 81) = 0
    · rw [if_pos h]
      exact Or.inl rfl
    · rw [if_neg h]
      by_cases h : ¬ (sg_g σ 88 83) = 0
      · rw [if_pos h]
        exact Or.inl rfl
      · rw [if_neg h]
        exact Or.inr rfl
set_option maxHeartbeats 4000000 in
set_option maxRecDepth 8000 in
theorem w_hasCome (z : Value) (σ : sg_S) (a1 : Int) (ra1 : sg_R a1) : wx z 0 256 0 [(0, .inr (.inr (.ref 88))), (1, .inl (a1))] [] σ (fun v σ' => v = some (.inl (v_hasCome σ a1)) ∧ σ' = σ) := by
  refine wk_b tt_256 1 (pc' := 1) (ls' := [(0, .inr (.inr (.ref 88))), (1, .inl (a1))]) (st' := [.inl (a1)]) (σ' := σ) rfl ?_
  refine wk_if tt_256 (tgt := 26) rfl rfl ra1 (fun (h1 : a1 = 0) => ?_) (fun (h1 : ¬ a1 = 0) => ?_)
  ·
    refine wk_b tt_256 2 (pc' := 30) (ls' := [(0, .inr (.inr (.ref 88))), (1, .inl (a1))]) (st' := [.inl ((sg_g σ 88 51))]) (σ' := σ) rfl ?_
    refine wk_if tt_256 (tgt := 44) rfl rfl (sg_Rg _ _ _) (fun (h2 : (sg_g σ 88 51) = 0) => ?_) (fun (h2 : ¬ (sg_g σ 88 51) = 0) => ?_)
    ·
      refine wk_b tt_256 1 (pc' := 45) (ls' := [(0, .inr (.inr (.ref 88))), (1, .inl (a1))]) (st' := [.inl (0)]) (σ' := σ) rfl ?_
      exact wk_rZ tt_256 rfl rfl (by decide) ⟨by rw [v_hasCome, if_pos h1, if_pos h2], rfl⟩
    ·
      refine wk_b tt_256 2 (pc' := 37) (ls' := [(0, .inr (.inr (.ref 88))), (1, .inl (a1))]) (st' := [.inl ((sg_g σ 88 53))]) (σ' := σ) rfl ?_
      refine wk_if tt_256 (tgt := 44) rfl rfl (sg_Rg _ _ _) (fun (h3 : ¬ (sg_g σ 88 53) = 0) => ?_) (fun (h3 : (sg_g σ 88 53) = 0) => ?_)
      ·
        refine wk_b tt_256 1 (pc' := 45) (ls' := [(0, .inr (.inr (.ref 88))), (1, .inl (a1))]) (st' := [.inl (0)]) (σ' := σ) rfl ?_
        exact wk_rZ tt_256 rfl rfl (by decide) ⟨by rw [v_hasCome, if_pos h1, if_neg (show ¬ ((sg_g σ 88 51) = 0) by omega), if_pos h3], rfl⟩
      ·
        refine wk_b tt_256 2 (pc' := 45) (ls' := [(0, .inr (.inr (.ref 88))), (1, .inl (a1))]) (st' := [.inl (1)]) (σ' := σ) rfl ?_
        exact wk_rZ tt_256 rfl rfl (by decide) ⟨by rw [v_hasCome, if_pos h1, if_neg (show ¬ ((sg_g σ 88 51) = 0) by omega), if_neg (show ¬ (¬ (sg_g σ 88 53) = 0) by omega)], rfl⟩
  ·
    refine wk_b tt_256 2 (pc' := 8) (ls' := [(0, .inr (.inr (.ref 88))), (1, .inl (a1))]) (st' := [.inl ((sg_g σ 88 81))]) (σ' := σ) rfl ?_
    refine wk_if tt_256 (tgt := 22) rfl rfl (sg_Rg _ _ _) (fun (h4 : (sg_g σ 88 81) = 0) => ?_) (fun (h4 : ¬ (sg_g σ 88 81) = 0) => ?_)
    ·
      refine wk_b tt_256 2 (pc' := 45) (ls' := [(0, .inr (.inr (.ref 88))), (1, .inl (a1))]) (st' := [.inl (0)]) (σ' := σ) rfl ?_
      exact wk_rZ tt_256 rfl rfl (by decide) ⟨by rw [v_hasCome, if_neg (show ¬ (a1 = 0) by omega), if_pos h4], rfl⟩
    ·
      refine wk_b tt_256 2 (pc' := 15) (ls' := [(0, .inr (.inr (.ref 88))), (1, .inl (a1))]) (st' := [.inl ((sg_g σ 88 83))]) (σ' := σ) rfl ?_
      refine wk_if tt_256 (tgt := 22) rfl rfl (sg_Rg _ _ _) (fun (h5 : ¬ (sg_g σ 88 83) = 0) => ?_) (fun (h5 : (sg_g σ 88 83) = 0) => ?_)
      ·
        refine wk_b tt_256 2 (pc' := 45) (ls' := [(0, .inr (.inr (.ref 88))), (1, .inl (a1))]) (st' := [.inl (0)]) (σ' := σ) rfl ?_
        exact wk_rZ tt_256 rfl rfl (by decide) ⟨by rw [v_hasCome, if_neg (show ¬ (a1 = 0) by omega), if_neg (show ¬ ((sg_g σ 88 81) = 0) by omega), if_pos h5], rfl⟩
      ·
        refine wk_b tt_256 2 (pc' := 45) (ls' := [(0, .inr (.inr (.ref 88))), (1, .inl (a1))]) (st' := [.inl (1)]) (σ' := σ) rfl ?_
        exact wk_rZ tt_256 rfl rfl (by decide) ⟨by rw [v_hasCome, if_neg (show ¬ (a1 = 0) by omega), if_neg (show ¬ ((sg_g σ 88 81) = 0) by omega), if_neg (show ¬ (¬ (sg_g σ 88 83) = 0) by omega)], rfl⟩
theorem vF_hasCome {L : List Nat} {σ σ' : sg_S} {a1 : Int} (hF : sg_F L σ σ') (h0 : sg_cv L 88 51 = false) (h1 : sg_cv L 88 53 = false) (h2 : sg_cv L 88 81 = false) (h3 : sg_cv L 88 83 = false) : v_hasCome σ' a1 = v_hasCome σ a1 := by
  unfold v_hasCome
  simp only [sg_F_g hF h0, sg_F_gl hF h0, sg_F_g hF h1, sg_F_gl hF h1, sg_F_g hF h2, sg_F_gl hF h2, sg_F_g hF h3, sg_F_gl hF h3]
-- NestedVectorsModel.byteAt
def V_byteAt (σ : sg_S) (a1 : Int) (a2 : Int) (Q : Int → sg_S → Prop) : Prop := ∀ σ1, σ1 = (sg_w σ 88 0 (0)) → ((¬ (v_hasCome σ (a1)) = 0 → ∀ v7 : Int, v7 = (if a1 = 0 then (sg_g σ 88 76) else (sg_g σ 88 77)) → sg_R v7 → sg_R (v7 - 1) ∧ (((v_in (a2) (0) ((v7 - 1))) = 0 → Q ((-1)) σ1) ∧ (¬ (v_in (a2) (0) ((v7 - 1))) = 0 → ((2000 ≤ a2 → Q ((-1)) σ1) ∧ (a2 < 2000 → ∀ v15 : Int, v15 = (if a1 = 0 then (0 : Int) else (80000 : Int)) → sg_R v15 → sg_R (a2 + v15) ∧ (0 ≤ (a2 + v15) ∧ (a2 + v15) < 160000) ∧ Q ((sg_g σ 136 ((a2 + v15)))) σ1))))) ∧ ((v_hasCome σ (a1)) = 0 → Q ((-4)) σ1))
set_option maxHeartbeats 4000000 in
set_option maxRecDepth 8000 in
theorem w_byteAt (z : Value) (σ : sg_S) (a1 : Int) (a2 : Int) (Q : Int → sg_S → Prop) (ra1 : sg_R a1) (ra2 : sg_R a2) (w : V_byteAt σ a1 a2 Q) : wx z 1 215 0 [(0, .inr (.inr (.ref 88))), (1, .inl (a1)), (2, .inl (a2))] [] σ (fun v σ' => ∃ q, v = some (.inl q) ∧ sg_R q ∧ sg_F [1088] σ σ' ∧ Q q σ') := by
  unfold V_byteAt at w
  refine wk_b tt_215 3 (pc' := 5) (ls' := [(0, .inr (.inr (.ref 88))), (1, .inl (a1)), (2, .inl (a2))]) (st' := []) (σ' := (sg_w σ 88 0 (0))) rfl ?_
  generalize hs2 : (sg_w σ 88 0 (0)) = σ1
  have w := w σ1 hs2.symm
  have hF3 : sg_F [1088] σ σ1 := by rw [← hs2]; exact sg_F_w (sg_F_r _ _) rfl _
  refine wk_b tt_215 2 (pc' := 7) (ls' := [(0, .inr (.inr (.ref 88))), (1, .inl (a1)), (2, .inl (a2))]) (st' := [.inl (a1), .inr (.inr (.ref 88))]) (σ' := σ1) rfl ?_
  refine wk_callp tt_215 rfl rfl rfl rfl rfl tt_256 rfl (by decide) (w_hasCome z σ1 (a1) ra1 ) ?_
  rw [vF_hasCome hF3 rfl rfl rfl rfl]
  refine wk_if tt_215 (tgt := 16) rfl rfl (sg_Rz (vz_hasCome ..)) (fun (h4 : ¬ (v_hasCome σ (a1)) = 0) => ?_) (fun (h4 : (v_hasCome σ (a1)) = 0) => ?_)
  ·
    have w := w.1 h4
    refine wk_b tt_215 4 (pc' := 20) (ls' := [(0, .inr (.inr (.ref 88))), (1, .inl (a1)), (2, .inl (a2))]) (st' := [.inl (a1), .inr (.inl (0)), .inr (.inl ((sg_n (a2))))]) (σ' := σ1) rfl ?_
    rw [show (sg_n (a2)) = a2 from by rw [sg_id ra2]]
    have jn6 : ∀ v7 : Int, v7 = (if a1 = 0 then (sg_g σ 88 76) else (sg_g σ 88 77)) → sg_R v7 → wx z 1 215 34 [(0, .inr (.inr (.ref 88))), (1, .inl (a1)), (2, .inl (a2))] [.inl (v7), .inr (.inl (0)), .inr (.inl (a2))] σ1 (fun v σ' => ∃ q, v = some (.inl q) ∧ sg_R q ∧ sg_F [1088] σ σ' ∧ Q q σ') := by
      intro v7 e9 r8
      have w := w v7 e9 r8
      obtain ⟨c10, w⟩ := w
      refine wk_b tt_215 3 (pc' := 37) (ls' := [(0, .inr (.inr (.ref 88))), (1, .inl (a1)), (2, .inl (a2))]) (st' := [.inr (.inl ((sg_n ((v7 - 1))))), .inr (.inl (0)), .inr (.inl (a2))]) (σ' := σ1) rfl ?_
      rw [show (sg_n ((v7 - 1))) = (v7 - 1) from by rw [sg_id c10]]
      refine wk_callp tt_215 rfl rfl rfl rfl rfl tt_258 rfl (by decide) (w_in z σ1 (a2) (0) ((v7 - 1)) (sg_Rgl2 ra2) (by decide) (sg_Rgl2 c10) ) ?_
      refine wk_if tt_215 (tgt := 71) rfl rfl (sg_Rz (vz_in ..)) (fun (h11 : (v_in (a2) (0) ((v7 - 1))) = 0) => ?_) (fun (h11 : ¬ (v_in (a2) (0) ((v7 - 1))) = 0) => ?_)
      ·
        have w := w.1 h11
        refine wk_b tt_215 1 (pc' := 72) (ls' := [(0, .inr (.inr (.ref 88))), (1, .inl (a1)), (2, .inl (a2))]) (st' := [.inl ((-1))]) (σ' := σ1) rfl ?_
        exact wk_rI tt_215 rfl rfl ⟨_, rfl, (by decide), (sg_F_t (sg_F_r [1088] σ) (sg_F_m (L := [1088]) hF3 rfl)), w⟩
      ·
        have w := w.2 h11
        refine wk_b tt_215 2 (pc' := 47) (ls' := [(0, .inr (.inr (.ref 88))), (1, .inl (a1)), (2, .inl (a2))]) (st' := [.inl (2000), .inl (a2)]) (σ' := σ1) rfl ?_
        refine wk_if2 tt_215 (tgt := 71) rfl rfl ra2 (by decide) (fun (h12 : 2000 ≤ a2) => ?_) (fun (h12 : a2 < 2000) => ?_)
        ·
          have w := w.1 h12
          refine wk_b tt_215 1 (pc' := 72) (ls' := [(0, .inr (.inr (.ref 88))), (1, .inl (a1)), (2, .inl (a2))]) (st' := [.inl ((-1))]) (σ' := σ1) rfl ?_
          exact wk_rI tt_215 rfl rfl ⟨_, rfl, (by decide), (sg_F_t (sg_F_r [1088] σ) (sg_F_m (L := [1088]) hF3 rfl)), w⟩
        ·
          have w := w.2 h12
          refine wk_b tt_215 4 (pc' := 56) (ls' := [(0, .inr (.inr (.ref 88))), (1, .inl (a1)), (2, .inl (a2))]) (st' := [.inl (a1), .inl (a2), .inr (.inr (.ref 136))]) (σ' := σ1) rfl ?_
          have jn14 : ∀ v15 : Int, v15 = (if a1 = 0 then (0 : Int) else (80000 : Int)) → sg_R v15 → wx z 1 215 66 [] [.inl (v15), .inl (a2), .inr (.inr (.ref 136))] σ1 (fun v σ' => ∃ q, v = some (.inl q) ∧ sg_R q ∧ sg_F [1088] σ σ' ∧ Q q σ') := by
            intro v15 e17 r16
            have w := w v15 e17 r16
            obtain ⟨c18, w⟩ := w
            refine wk_b tt_215 1 (pc' := 67) (ls' := []) (st' := [.inl ((a2 + v15)), .inr (.inr (.ref 136))]) (σ' := σ1) rfl ?_
            obtain ⟨c19, w⟩ := w
            refine wk_ia tt_215 rfl rfl c19.1 c19.2 c18 ?_
            rw [show (sg_g σ1 136 ((a2 + v15))) = (sg_g σ 136 ((a2 + v15))) from by rw [sg_F_ga hF3 rfl]]
            refine wk_b tt_215 1 (pc' := 72) (ls' := []) (st' := [.inl ((sg_g σ 136 ((a2 + v15))))]) (σ' := σ1) rfl ?_
            exact wk_rI tt_215 rfl rfl ⟨_, rfl, (sg_Rg _ _ _), (sg_F_t (sg_F_r [1088] σ) (sg_F_m (L := [1088]) hF3 rfl)), w⟩
          refine wk_if tt_215 (tgt := 65) rfl rfl ra1 (fun (h13 : a1 = 0) => ?_) (fun (h13 : ¬ a1 = 0) => ?_)
          ·
            clear w
            refine wk_b tt_215 1 (pc' := 66) (ls' := [(0, .inr (.inr (.ref 88))), (1, .inl (a1)), (2, .inl (a2))]) (st' := [.inl (0), .inl (a2), .inr (.inr (.ref 136))]) (σ' := σ1) rfl ?_
            exact wk_ls [] rfl trivial (jn14 (0) (by simp only [if_pos h13]) (by decide))
          ·
            clear w
            refine wk_b tt_215 2 (pc' := 66) (ls' := [(0, .inr (.inr (.ref 88))), (1, .inl (a1)), (2, .inl (a2))]) (st' := [.inl (80000), .inl (a2), .inr (.inr (.ref 136))]) (σ' := σ1) rfl ?_
            exact wk_ls [] rfl trivial (jn14 (80000) (by simp only [if_neg (show ¬ (a1 = 0) by omega)]) (by decide))
    refine wk_if tt_215 (tgt := 30) rfl rfl ra1 (fun (h5 : a1 = 0) => ?_) (fun (h5 : ¬ a1 = 0) => ?_)
    ·
      clear w
      refine wk_b tt_215 2 (pc' := 34) (ls' := [(0, .inr (.inr (.ref 88))), (1, .inl (a1)), (2, .inl (a2))]) (st' := [.inl ((sg_g σ1 88 76)), .inr (.inl (0)), .inr (.inl (a2))]) (σ' := σ1) rfl ?_
      rw [show (sg_g σ1 88 76) = (sg_g σ 88 76) from by rw [sg_F_g hF3 rfl]]
      exact wk_ls [(0, .inr (.inr (.ref 88))), (1, .inl (a1)), (2, .inl (a2))] rfl ⟨rfl, rfl, rfl, trivial⟩ (jn6 ((sg_g σ 88 76)) (by simp only [if_pos h5]) (sg_Rg _ _ _))
    ·
      clear w
      refine wk_b tt_215 3 (pc' := 34) (ls' := [(0, .inr (.inr (.ref 88))), (1, .inl (a1)), (2, .inl (a2))]) (st' := [.inl ((sg_g σ1 88 77)), .inr (.inl (0)), .inr (.inl (a2))]) (σ' := σ1) rfl ?_
      rw [show (sg_g σ1 88 77) = (sg_g σ 88 77) from by rw [sg_F_g hF3 rfl]]
      exact wk_ls [(0, .inr (.inr (.ref 88))), (1, .inl (a1)), (2, .inl (a2))] rfl ⟨rfl, rfl, rfl, trivial⟩ (jn6 ((sg_g σ 88 77)) (by simp only [if_neg (show ¬ (a1 = 0) by omega)]) (sg_Rg _ _ _))
  ·
    have w := w.2 h4
    refine wk_b tt_215 1 (pc' := 15) (ls' := [(0, .inr (.inr (.ref 88))), (1, .inl (a1)), (2, .inl (a2))]) (st' := [.inl ((-4))]) (σ' := σ1) rfl ?_
    exact wk_rI tt_215 rfl rfl ⟨_, rfl, (by decide), (sg_F_t (sg_F_r [1088] σ) (sg_F_m (L := [1088]) hF3 rfl)), w⟩
-- NestedVectorsModel.byteOf
def v_byteOf (σ : sg_S) (a1 : Int) : Int := (if (sg_g σ 88 2) ≤ a1 then (0 : Int) else (sg_g σ 89 (a1)))
def p_byteOf (σ : sg_S) (a1 : Int) : Prop := (((sg_g σ 88 2) ≤ a1 → True) ∧ (a1 < (sg_g σ 88 2) → (0 ≤ a1 ∧ a1 < 1200) ∧ True))
set_option maxHeartbeats 4000000 in
set_option maxRecDepth 8000 in
theorem w_byteOf (z : Value) (σ : sg_S) (a1 : Int) (ra1 : sg_R a1) (w : p_byteOf σ a1) : wx z 0 216 0 [(0, .inr (.inr (.ref 88))), (1, .inl (a1))] [] σ (fun v σ' => v = some (.inl (v_byteOf σ a1)) ∧ σ' = σ) := by
  unfold p_byteOf at w
  refine wk_b tt_216 3 (pc' := 5) (ls' := [(0, .inr (.inr (.ref 88))), (1, .inl (a1))]) (st' := [.inl ((sg_g σ 88 2)), .inl (a1)]) (σ' := σ) rfl ?_
  refine wk_if2 tt_216 (tgt := 17) rfl rfl ra1 (sg_Rg _ _ _) (fun (h1 : (sg_g σ 88 2) ≤ a1) => ?_) (fun (h1 : a1 < (sg_g σ 88 2)) => ?_)
  ·
    have w := w.1 h1
    refine wk_b tt_216 1 (pc' := 18) (ls' := [(0, .inr (.inr (.ref 88))), (1, .inl (a1))]) (st' := [.inl (0)]) (σ' := σ) rfl ?_
    exact wk_rI tt_216 rfl rfl ⟨by rw [v_byteOf, if_pos h1], rfl⟩
  ·
    have w := w.2 h1
    refine wk_b tt_216 3 (pc' := 13) (ls' := [(0, .inr (.inr (.ref 88))), (1, .inl (a1))]) (st' := [.inl (a1), .inr (.inr (.ref 89))]) (σ' := σ) rfl ?_
    obtain ⟨c2, w⟩ := w
    refine wk_ia tt_216 rfl rfl c2.1 c2.2 ra1 ?_
    refine wk_b tt_216 1 (pc' := 18) (ls' := [(0, .inr (.inr (.ref 88))), (1, .inl (a1))]) (st' := [.inl ((sg_g σ 89 (a1)))]) (σ' := σ) rfl ?_
    exact wk_rI tt_216 rfl rfl ⟨by rw [v_byteOf, if_neg (show ¬ ((sg_g σ 88 2) ≤ a1) by omega)], rfl⟩
theorem vF_byteOf {L : List Nat} {σ σ' : sg_S} {a1 : Int} (hF : sg_F L σ σ') (h0 : sg_cv L 88 2 = false) (h1 : sg_ca L 89 = true) : v_byteOf σ' a1 = v_byteOf σ a1 := by
  unfold v_byteOf
  simp only [sg_F_g hF h0, sg_F_gl hF h0, sg_F_ga (k := _) hF h1, sg_F_gal (k := _) hF h1]
theorem pF_byteOf {L : List Nat} {σ σ' : sg_S} {a1 : Int} (hF : sg_F L σ σ') (h0 : sg_cv L 88 2 = false) (h1 : sg_ca L 89 = true) : p_byteOf σ' a1 = p_byteOf σ a1 := by
  unfold p_byteOf
  simp only [sg_F_g hF h0, sg_F_gl hF h0, sg_F_ga (k := _) hF h1, sg_F_gal (k := _) hF h1]
theorem vr_byteOf (σ : sg_S) (a1 : Int) (ra1 : sg_R a1) (w : p_byteOf σ a1) : sg_R (v_byteOf σ a1) := by
  unfold v_byteOf
  unfold p_byteOf at w
  by_cases h : (sg_g σ 88 2) ≤ a1
  · rw [if_pos h]
    first | (have w := w.1 h) | (have w := w.2.1 h) | (have w := w.2.2.1 h) | skip
    decide
  · rw [if_neg h]
    first | (have w := w.2 (by omega)) | (have w := w.2.2 (by omega)) | (have w := w.2.2.2 (by omega)) | skip
    first | exact w.1 | exact w.2.1 | exact w.2.2.1 | exact sg_Rg _ _ _ | exact sg_Rgl _ _ _ | exact sg_Rr _ | exact sg_RLr _ | assumption | omega | (constructor <;> omega)
-- NestedVectorsModel.lanesOf
def v_lanesOf (σ : sg_S) (a1 : Int) : Int := (sg_g σ 141 ((4 * a1)))
def p_lanesOf (σ : sg_S) (a1 : Int) : Prop := sg_R (4 * a1) ∧ (0 ≤ (4 * a1) ∧ (4 * a1) < 120000) ∧ True
set_option maxHeartbeats 4000000 in
set_option maxRecDepth 8000 in
theorem w_lanesOf (z : Value) (σ : sg_S) (a1 : Int) (ra1 : sg_R a1) (w : p_lanesOf σ a1) : wx z 0 277 0 [(0, .inr (.inr (.ref 88))), (1, .inl (a1))] [] σ (fun v σ' => v = some (.inl (v_lanesOf σ a1)) ∧ σ' = σ) := by
  unfold p_lanesOf at w
  obtain ⟨c1, w⟩ := w
  refine wk_b tt_277 5 (pc' := 7) (ls' := [(0, .inr (.inr (.ref 88))), (1, .inl (a1))]) (st' := [.inl ((4 * a1)), .inr (.inr (.ref 141))]) (σ' := σ) rfl ?_
  obtain ⟨c2, w⟩ := w
  refine wk_ia tt_277 rfl rfl c2.1 c2.2 c1 ?_
  exact wk_rI tt_277 rfl rfl ⟨by rw [v_lanesOf], rfl⟩
theorem vF_lanesOf {L : List Nat} {σ σ' : sg_S} {a1 : Int} (hF : sg_F L σ σ') (h0 : sg_ca L 141 = true) : v_lanesOf σ' a1 = v_lanesOf σ a1 := by
  unfold v_lanesOf
  simp only [sg_F_ga (k := _) hF h0, sg_F_gal (k := _) hF h0]
theorem pF_lanesOf {L : List Nat} {σ σ' : sg_S} {a1 : Int} (hF : sg_F L σ σ') (h0 : sg_ca L 141 = true) : p_lanesOf σ' a1 = p_lanesOf σ a1 := by
  unfold p_lanesOf
  simp only [sg_F_ga (k := _) hF h0, sg_F_gal (k := _) hF h0]
theorem vr_lanesOf (σ : sg_S) (a1 : Int) (ra1 : sg_R a1) (w : p_lanesOf σ a1) : sg_R (v_lanesOf σ a1) := by
  unfold v_lanesOf
  unfold p_lanesOf at w
  first | exact w.1 | exact w.2.1 | exact w.2.2.1 | exact sg_Rg _ _ _ | exact sg_Rgl _ _ _ | exact sg_Rr _ | exact sg_RLr _ | assumption | omega | (constructor <;> omega)
-- NestedVectorsModel.findBegins
def V_findBegins (σ : sg_S) (a1 : Int) (Q : sg_S → Prop) : Prop := (∃ (I4 : Nat → Int → sg_S → Prop) (X6 : sg_S → Prop), (∃ n, I4 n (0) σ) ∧ (∀ (n14 : Nat) (v1 : Int) (σ2 : sg_S), sg_R v1 → sg_F [144] σ σ2 → I4 n14 v1 σ2 → p_lanesOf σ (a1) ∧ (((v_lanesOf σ (a1)) < v1 → X6 σ2) ∧ (v1 ≤ (v_lanesOf σ (a1)) → (0 ≤ v1 ∧ v1 < 52000) ∧ ∀ σ99, σ99 = (sg_w σ2 144 (v1) (v1)) → sg_R (v1 + 1) ∧ (∃ m, m < n14 ∧ I4 m ((v1 + 1)) σ99)))) ∧ (∀ (σ2 : sg_S), sg_F [144] σ σ2 → X6 σ2 → (∃ (I19 : Nat → Int → sg_S → Prop) (X21 : sg_S → Prop), (∃ n, I19 n (0) σ2) ∧ (∀ (n29 : Nat) (v16 : Int) (σ17 : sg_S), sg_R v16 → sg_F [144] σ2 σ17 → I19 n29 v16 σ17 → (0 ≤ a1 ∧ a1 < 30000) ∧ (((sg_g σ 139 (a1)) ≤ v16 → X21 σ17) ∧ (v16 < (sg_g σ 139 (a1)) → (∃ (I38 : Nat → Int → Int → Int → sg_S → Prop) (X40 : sg_S → Prop), (∃ n, I38 n (0) (0) (0) σ17) ∧ (∀ (n50 : Nat) (v33 : Int) (v34 : Int) (v35 : Int) (σ36 : sg_S), sg_R v33 → sg_R v34 → sg_R v35 → sg_F [144] σ17 σ36 → I38 n50 v33 v34 v35 σ36 → p_lanesOf σ (a1) ∧ (((v_lanesOf σ (a1)) < v35 → X40 σ36) ∧ (v35 ≤ (v_lanesOf σ (a1)) → (∃ (I61 : Nat → Int → Int → Prop) (X63 : Int → Int → Prop), (∃ n, I61 n (v33) (v34)) ∧ (∀ (n72 : Nat) (v57 : Int) (v58 : Int), sg_R v57 → sg_R v58 → I61 n72 v57 v58 → sg_R (13000 * v16) ∧ sg_R ((13000 * v16) + v35) ∧ (0 ≤ ((13000 * v16) + v35) ∧ ((13000 * v16) + v35) < 52000) ∧ (((sg_g σ36 144 (((13000 * v16) + v35))) ≤ v57 → X63 (v57) (v58)) ∧ (v57 < (sg_g σ36 144 (((13000 * v16) + v35))) → sg_R (4 * a1) ∧ sg_R ((4 * a1) + v16) ∧ (0 ≤ ((4 * a1) + v16) ∧ ((4 * a1) + v16) < 120000) ∧ sg_R ((sg_g σ 140 (((4 * a1) + v16))) + v57) ∧ (0 ≤ ((sg_g σ 140 (((4 * a1) + v16))) + v57) ∧ ((sg_g σ 140 (((4 * a1) + v16))) + v57) < 60000) ∧ sg_R (v58 + (sg_g σ 142 (((sg_g σ 140 (((4 * a1) + v16))) + v57)))) ∧ sg_R (v57 + 1) ∧ (∃ m, m < n72 ∧ I61 m ((v57 + 1)) ((v58 + (sg_g σ 142 (((sg_g σ 140 (((4 * a1) + v16))) + v57))))))))) ∧ (∀ (v57 : Int) (v58 : Int), sg_R v57 → sg_R v58 → X63 v57 v58 → sg_R (v16 + 1) ∧ sg_R (13000 * (v16 + 1)) ∧ sg_R ((13000 * (v16 + 1)) + v35) ∧ (0 ≤ ((13000 * (v16 + 1)) + v35) ∧ ((13000 * (v16 + 1)) + v35) < 52000) ∧ ∀ σ78, σ78 = (sg_w σ36 144 (((13000 * (v16 + 1)) + v35)) (v58)) → sg_R (v35 + 1) ∧ (∃ m, m < n50 ∧ I38 m (v57) (v58) ((v35 + 1)) σ78)))))) ∧ (∀ (σ36 : sg_S), sg_F [144] σ17 σ36 → X40 σ36 → sg_R (v16 + 1) ∧ (∃ m, m < n29 ∧ I19 m ((v16 + 1)) σ36)))))) ∧ (∀ (σ17 : sg_S), sg_F [144] σ2 σ17 → X21 σ17 → Q σ17))))
set_option maxHeartbeats 4000000 in
set_option maxRecDepth 8000 in
theorem w_findBegins (z : Value) (σ : sg_S) (a1 : Int) (Q : sg_S → Prop) (ra1 : sg_R a1) (w : V_findBegins σ a1 Q) : wx z 1 230 0 [(0, .inr (.inr (.ref 88))), (1, .inl (a1))] [] σ (fun v σ' => v = none ∧ sg_F [144] σ σ' ∧ Q σ') := by
  unfold V_findBegins at w
  refine wk_b tt_230 2 (pc' := 2) (ls' := [(2, .inl (0)), (0, .inr (.inr (.ref 88))), (1, .inl (a1))]) (st' := []) (σ' := σ) rfl ?_
  obtain ⟨I4, X6, ⟨μ5, w11⟩, w12, w13⟩ := w
  have ex15 : ∀ (σ2 : sg_S), sg_F [144] σ σ2 → X6 σ2 → wx z 1 230 24 [(0, .inr (.inr (.ref 88))), (1, .inl (a1))] [] σ2 (fun v σ' => v = none ∧ sg_F [144] σ σ' ∧ Q σ') := by
    intro σ2 hF3 w
    have w := w13 σ2 hF3 w
    refine wk_b tt_230 2 (pc' := 26) (ls' := [(2, .inl (0)), (0, .inr (.inr (.ref 88))), (1, .inl (a1))]) (st' := []) (σ' := σ2) rfl ?_
    obtain ⟨I19, X21, ⟨μ20, w26⟩, w27, w28⟩ := w
    have ex30 : ∀ (σ17 : sg_S), sg_F [144] σ2 σ17 → X21 σ17 → wx z 1 230 128 [] [] σ17 (fun v σ' => v = none ∧ sg_F [144] σ σ' ∧ Q σ') := by
      intro σ17 hF18 w
      have w := w28 σ17 hF18 w
      exact wk_rV tt_230 rfl rfl ⟨rfl, (sg_F_t (sg_F_t (sg_F_r [144] σ) (sg_F_m (L := [144]) hF3 rfl)) (sg_F_m (L := [144]) hF18 rfl)), w⟩
    have lp25 : ∀ (n29 : Nat) (v16 : Int) (σ17 : sg_S), sg_R v16 → sg_F [144] σ2 σ17 → I19 n29 v16 σ17 → wx z 1 230 26 [(0, .inr (.inr (.ref 88))), (1, .inl (a1)), (2, .inl (v16))] [] σ17 (fun v σ' => v = none ∧ sg_F [144] σ σ' ∧ Q σ') := by
      intro n29
      induction n29 using Nat.strongRecOn with
      | _ n29 ih23 =>
        intro v16 σ17 r22 hF18 w
        have w := w27 n29 v16 σ17 r22 hF18 w
        refine wk_b tt_230 4 (pc' := 32) (ls' := [(0, .inr (.inr (.ref 88))), (1, .inl (a1)), (2, .inl (v16))]) (st' := [.inl (a1), .inr (.inr (.ref 139)), .inl (v16)]) (σ' := σ17) rfl ?_
        obtain ⟨c31, w⟩ := w
        refine wk_ia tt_230 rfl rfl c31.1 c31.2 ra1 ?_
        rw [show (sg_g σ17 139 (a1)) = (sg_g σ 139 (a1)) from by rw [sg_F_ga hF18 rfl, sg_F_ga hF3 rfl]]
        refine wk_if2 tt_230 (tgt := 128) rfl rfl r22 (sg_Rg _ _ _) (fun (h32 : (sg_g σ 139 (a1)) ≤ v16) => ?_) (fun (h32 : v16 < (sg_g σ 139 (a1))) => ?_)
        ·
          have w := w.1 h32
          exact wk_ls [] rfl trivial (ex30  σ17  (sg_F_t (sg_F_r [144] σ2) (sg_F_m (L := [144]) hF18 rfl)) w)
        ·
          have w := w.2 h32
          refine wk_b tt_230 6 (pc' := 44) (ls' := [(5, .inl (0)), (4, .inl (0)), (3, .inl (0)), (0, .inr (.inr (.ref 88))), (1, .inl (a1)), (2, .inl (v16))]) (st' := []) (σ' := σ17) rfl ?_
          obtain ⟨I38, X40, ⟨μ39, w47⟩, w48, w49⟩ := w
          have ex51 : ∀ (σ36 : sg_S), sg_F [144] σ17 σ36 → X40 σ36 → wx z 1 230 122 [(0, .inr (.inr (.ref 88))), (1, .inl (a1)), (2, .inl (v16))] [] σ36 (fun v σ' => v = none ∧ sg_F [144] σ σ' ∧ Q σ') := by
            intro σ36 hF37 w
            have w := w49 σ36 hF37 w
            obtain ⟨c52, w⟩ := w
            refine wk_b tt_230 2 (pc' := 26) (ls' := [(2, .inl ((v16 + 1))), (0, .inr (.inr (.ref 88))), (1, .inl (a1))]) (st' := []) (σ' := σ36) rfl ?_
            obtain ⟨m53, hm53, w⟩ := w
            exact wk_ls [(0, .inr (.inr (.ref 88))), (1, .inl (a1)), (2, .inl ((v16 + 1)))] rfl ⟨rfl, rfl, rfl, trivial⟩ (ih23 m53 hm53 ((v16 + 1)) σ36 c52 (sg_F_t (sg_F_t (sg_F_r [144] σ2) (sg_F_m (L := [144]) hF18 rfl)) (sg_F_m (L := [144]) hF37 rfl)) w)
          have lp46 : ∀ (n50 : Nat) (v33 : Int) (v34 : Int) (v35 : Int) (σ36 : sg_S), sg_R v33 → sg_R v34 → sg_R v35 → sg_F [144] σ17 σ36 → I38 n50 v33 v34 v35 σ36 → wx z 1 230 44 [(0, .inr (.inr (.ref 88))), (1, .inl (a1)), (2, .inl (v16)), (3, .inl (v33)), (4, .inl (v34)), (5, .inl (v35))] [] σ36 (fun v σ' => v = none ∧ sg_F [144] σ σ' ∧ Q σ') := by
            intro n50
            induction n50 using Nat.strongRecOn with
            | _ n50 ih44 =>
              intro v33 v34 v35 σ36 r41 r42 r43 hF37 w
              have w := w48 n50 v33 v34 v35 σ36 r41 r42 r43 hF37 w
              refine wk_b tt_230 3 (pc' := 48) (ls' := [(0, .inr (.inr (.ref 88))), (1, .inl (a1)), (2, .inl (v16)), (3, .inl (v33)), (4, .inl (v34)), (5, .inl (v35))]) (st' := [.inl (a1), .inr (.inr (.ref 88)), .inl (v35)]) (σ' := σ36) rfl ?_
              obtain ⟨c54, w⟩ := w
              have c54 : p_lanesOf σ36 (a1) := by
                rw [pF_lanesOf hF37 rfl, pF_lanesOf hF18 rfl, pF_lanesOf hF3 rfl]; exact c54
              refine wk_callp tt_230 rfl rfl rfl rfl rfl tt_277 rfl (by decide) (w_lanesOf z σ36 (a1) ra1 c54) ?_
              rw [vF_lanesOf hF37 rfl, vF_lanesOf hF18 rfl, vF_lanesOf hF3 rfl]
              have r55 := vr_lanesOf σ  (a1) ra1 (by have q := c54; rw [pF_lanesOf hF37 rfl, pF_lanesOf hF18 rfl, pF_lanesOf hF3 rfl] at q; exact q)
              refine wk_if2 tt_230 (tgt := 122) rfl rfl r43 r55 (fun (h56 : (v_lanesOf σ (a1)) < v35) => ?_) (fun (h56 : v35 ≤ (v_lanesOf σ (a1))) => ?_)
              ·
                have w := w.1 h56
                exact wk_ls [(0, .inr (.inr (.ref 88))), (1, .inl (a1)), (2, .inl (v16))] rfl ⟨rfl, rfl, rfl, trivial⟩ (ex51  σ36  (sg_F_t (sg_F_r [144] σ17) (sg_F_m (L := [144]) hF37 rfl)) w)
              ·
                have w := w.2 h56
                obtain ⟨I61, X63, ⟨μ62, w69⟩, w70, w71⟩ := w
                have ex73 : ∀ (v57 : Int) (v58 : Int), sg_R v57 → sg_R v58 → X63 v57 v58 → wx z 1 230 99 [(0, .inr (.inr (.ref 88))), (1, .inl (a1)), (2, .inl (v16)), (3, .inl (v57)), (4, .inl (v58)), (5, .inl (v35))] [] σ36 (fun v σ' => v = none ∧ sg_F [144] σ σ' ∧ Q σ') := by
                  intro v57 v58 r64 r65 w
                  have w := w71 v57 v58 r64 r65 w
                  obtain ⟨c74, w⟩ := w
                  obtain ⟨c75, w⟩ := w
                  obtain ⟨c76, w⟩ := w
                  refine wk_b tt_230 10 (pc' := 115) (ls' := [(0, .inr (.inr (.ref 88))), (1, .inl (a1)), (2, .inl (v16)), (3, .inl (v57)), (4, .inl (v58)), (5, .inl (v35))]) (st' := [.inl (v58), .inl (((13000 * (v16 + 1)) + v35)), .inr (.inr (.ref 144))]) (σ' := σ36) rfl ?_
                  obtain ⟨c77, w⟩ := w
                  refine wk_is tt_230 rfl rfl c77.1 c77.2 c76 ?_
                  generalize hs79 : (sg_w σ36 144 (((13000 * (v16 + 1)) + v35)) (v58)) = σ78
                  have w := w σ78 hs79.symm
                  have hF80 : sg_F [144] σ36 σ78 := by rw [← hs79]; exact sg_F_w (sg_F_r _ _) rfl _
                  obtain ⟨c81, w⟩ := w
                  refine wk_b tt_230 2 (pc' := 44) (ls' := [(5, .inl ((v35 + 1))), (0, .inr (.inr (.ref 88))), (1, .inl (a1)), (2, .inl (v16)), (3, .inl (v57)), (4, .inl (v58))]) (st' := []) (σ' := σ78) rfl ?_
                  obtain ⟨m82, hm82, w⟩ := w
                  exact wk_ls [(0, .inr (.inr (.ref 88))), (1, .inl (a1)), (2, .inl (v16)), (3, .inl (v57)), (4, .inl (v58)), (5, .inl ((v35 + 1)))] rfl ⟨rfl, rfl, rfl, rfl, rfl, rfl, trivial⟩ (ih44 m82 hm82 (v57) (v58) ((v35 + 1)) σ78 r64 r65 c81 (sg_F_t (sg_F_t (sg_F_r [144] σ17) (sg_F_m (L := [144]) hF37 rfl)) (sg_F_m (L := [144]) hF80 rfl)) w)
                have lp68 : ∀ (n72 : Nat) (v57 : Int) (v58 : Int), sg_R v57 → sg_R v58 → I61 n72 v57 v58 → wx z 1 230 54 [(0, .inr (.inr (.ref 88))), (1, .inl (a1)), (2, .inl (v16)), (3, .inl (v57)), (4, .inl (v58)), (5, .inl (v35))] [] σ36 (fun v σ' => v = none ∧ sg_F [144] σ σ' ∧ Q σ') := by
                  intro n72
                  induction n72 using Nat.strongRecOn with
                  | _ n72 ih66 =>
                    intro v57 v58 r64 r65 w
                    have w := w70 n72 v57 v58 r64 r65 w
                    obtain ⟨c83, w⟩ := w
                    obtain ⟨c84, w⟩ := w
                    refine wk_b tt_230 8 (pc' := 67) (ls' := [(0, .inr (.inr (.ref 88))), (1, .inl (a1)), (2, .inl (v16)), (3, .inl (v57)), (4, .inl (v58)), (5, .inl (v35))]) (st' := [.inl (((13000 * v16) + v35)), .inr (.inr (.ref 144)), .inl (v57)]) (σ' := σ36) rfl ?_
                    obtain ⟨c85, w⟩ := w
                    refine wk_ia tt_230 rfl rfl c85.1 c85.2 c84 ?_
                    refine wk_if2 tt_230 (tgt := 99) rfl rfl r64 (sg_Rg _ _ _) (fun (h86 : (sg_g σ36 144 (((13000 * v16) + v35))) ≤ v57) => ?_) (fun (h86 : v57 < (sg_g σ36 144 (((13000 * v16) + v35)))) => ?_)
                    ·
                      have w := w.1 h86
                      exact wk_ls [(0, .inr (.inr (.ref 88))), (1, .inl (a1)), (2, .inl (v16)), (3, .inl (v57)), (4, .inl (v58)), (5, .inl (v35))] rfl ⟨rfl, rfl, rfl, rfl, rfl, rfl, trivial⟩ (ex73 (v57) (v58)  r64 r65  w)
                    ·
                      have w := w.2 h86
                      obtain ⟨c87, w⟩ := w
                      obtain ⟨c88, w⟩ := w
                      refine wk_b tt_230 10 (pc' := 86) (ls' := [(0, .inr (.inr (.ref 88))), (1, .inl (a1)), (2, .inl (v16)), (3, .inl (v57)), (4, .inl (v58)), (5, .inl (v35))]) (st' := [.inl (((4 * a1) + v16)), .inr (.inr (.ref 140)), .inr (.inr (.ref 142)), .inl (v58)]) (σ' := σ36) rfl ?_
                      obtain ⟨c89, w⟩ := w
                      refine wk_ia tt_230 rfl rfl c89.1 c89.2 c88 ?_
                      rw [show (sg_g σ36 140 (((4 * a1) + v16))) = (sg_g σ 140 (((4 * a1) + v16))) from by rw [sg_F_ga hF37 rfl, sg_F_ga hF18 rfl, sg_F_ga hF3 rfl]]
                      obtain ⟨c90, w⟩ := w
                      refine wk_b tt_230 2 (pc' := 89) (ls' := [(0, .inr (.inr (.ref 88))), (1, .inl (a1)), (2, .inl (v16)), (3, .inl (v57)), (4, .inl (v58)), (5, .inl (v35))]) (st' := [.inl (((sg_g σ 140 (((4 * a1) + v16))) + v57)), .inr (.inr (.ref 142)), .inl (v58)]) (σ' := σ36) rfl ?_
                      obtain ⟨c91, w⟩ := w
                      refine wk_ia tt_230 rfl rfl c91.1 c91.2 c90 ?_
                      rw [show (sg_g σ36 142 (((sg_g σ 140 (((4 * a1) + v16))) + v57))) = (sg_g σ 142 (((sg_g σ 140 (((4 * a1) + v16))) + v57))) from by rw [sg_F_ga hF37 rfl, sg_F_ga hF18 rfl, sg_F_ga hF3 rfl]]
                      obtain ⟨c92, w⟩ := w
                      obtain ⟨c93, w⟩ := w
                      refine wk_b tt_230 4 (pc' := 54) (ls' := [(3, .inl ((v57 + 1))), (4, .inl ((v58 + (sg_g σ 142 (((sg_g σ 140 (((4 * a1) + v16))) + v57)))))), (0, .inr (.inr (.ref 88))), (1, .inl (a1)), (2, .inl (v16)), (5, .inl (v35))]) (st' := []) (σ' := σ36) rfl ?_
                      obtain ⟨m94, hm94, w⟩ := w
                      exact wk_ls [(0, .inr (.inr (.ref 88))), (1, .inl (a1)), (2, .inl (v16)), (3, .inl ((v57 + 1))), (4, .inl ((v58 + (sg_g σ 142 (((sg_g σ 140 (((4 * a1) + v16))) + v57)))))), (5, .inl (v35))] rfl ⟨rfl, rfl, rfl, rfl, rfl, rfl, trivial⟩ (ih66 m94 hm94 ((v57 + 1)) ((v58 + (sg_g σ 142 (((sg_g σ 140 (((4 * a1) + v16))) + v57)))))  c93 c92  w)
                exact wk_ls [(0, .inr (.inr (.ref 88))), (1, .inl (a1)), (2, .inl (v16)), (3, .inl (v33)), (4, .inl (v34)), (5, .inl (v35))] rfl ⟨rfl, rfl, rfl, rfl, rfl, rfl, trivial⟩ (lp68 μ62 (v33) (v34)  r41 r42  w69)
          exact wk_ls [(0, .inr (.inr (.ref 88))), (1, .inl (a1)), (2, .inl (v16)), (3, .inl (0)), (4, .inl (0)), (5, .inl (0))] rfl ⟨rfl, rfl, rfl, rfl, rfl, rfl, trivial⟩ (lp46 μ39 (0) (0) (0) σ17 (by decide) (by decide) (by decide) (sg_F_r _ _) w47)
    exact wk_ls [(0, .inr (.inr (.ref 88))), (1, .inl (a1)), (2, .inl (0))] rfl ⟨rfl, rfl, rfl, trivial⟩ (lp25 μ20 (0) σ2 (by decide) (sg_F_r _ _) w26)
  have lp10 : ∀ (n14 : Nat) (v1 : Int) (σ2 : sg_S), sg_R v1 → sg_F [144] σ σ2 → I4 n14 v1 σ2 → wx z 1 230 2 [(0, .inr (.inr (.ref 88))), (1, .inl (a1)), (2, .inl (v1))] [] σ2 (fun v σ' => v = none ∧ sg_F [144] σ σ' ∧ Q σ') := by
    intro n14
    induction n14 using Nat.strongRecOn with
    | _ n14 ih8 =>
      intro v1 σ2 r7 hF3 w
      have w := w12 n14 v1 σ2 r7 hF3 w
      refine wk_b tt_230 3 (pc' := 5) (ls' := [(0, .inr (.inr (.ref 88))), (1, .inl (a1)), (2, .inl (v1))]) (st' := [.inl (a1), .inr (.inr (.ref 88)), .inl (v1)]) (σ' := σ2) rfl ?_
      obtain ⟨c95, w⟩ := w
      have c95 : p_lanesOf σ2 (a1) := by
        rw [pF_lanesOf hF3 rfl]; exact c95
      refine wk_callp tt_230 rfl rfl rfl rfl rfl tt_277 rfl (by decide) (w_lanesOf z σ2 (a1) ra1 c95) ?_
      rw [vF_lanesOf hF3 rfl]
      have r96 := vr_lanesOf σ  (a1) ra1 (by have q := c95; rw [pF_lanesOf hF3 rfl] at q; exact q)
      refine wk_if2 tt_230 (tgt := 24) rfl rfl r7 r96 (fun (h97 : (v_lanesOf σ (a1)) < v1) => ?_) (fun (h97 : v1 ≤ (v_lanesOf σ (a1))) => ?_)
      ·
        have w := w.1 h97
        exact wk_ls [(0, .inr (.inr (.ref 88))), (1, .inl (a1))] rfl ⟨rfl, rfl, trivial⟩ (ex15  σ2  (sg_F_t (sg_F_r [144] σ) (sg_F_m (L := [144]) hF3 rfl)) w)
      ·
        have w := w.2 h97
        refine wk_b tt_230 4 (pc' := 17) (ls' := [(0, .inr (.inr (.ref 88))), (1, .inl (a1)), (2, .inl (v1))]) (st' := [.inl (v1), .inl (v1), .inr (.inr (.ref 144))]) (σ' := σ2) rfl ?_
        obtain ⟨c98, w⟩ := w
        refine wk_is tt_230 rfl rfl c98.1 c98.2 r7 ?_
        generalize hs100 : (sg_w σ2 144 (v1) (v1)) = σ99
        have w := w σ99 hs100.symm
        have hF101 : sg_F [144] σ2 σ99 := by rw [← hs100]; exact sg_F_w (sg_F_r _ _) rfl _
        obtain ⟨c102, w⟩ := w
        refine wk_b tt_230 2 (pc' := 2) (ls' := [(2, .inl ((v1 + 1))), (0, .inr (.inr (.ref 88))), (1, .inl (a1))]) (st' := []) (σ' := σ99) rfl ?_
        obtain ⟨m103, hm103, w⟩ := w
        exact wk_ls [(0, .inr (.inr (.ref 88))), (1, .inl (a1)), (2, .inl ((v1 + 1)))] rfl ⟨rfl, rfl, rfl, trivial⟩ (ih8 m103 hm103 ((v1 + 1)) σ99 c102 (sg_F_t (sg_F_t (sg_F_r [144] σ) (sg_F_m (L := [144]) hF3 rfl)) (sg_F_m (L := [144]) hF101 rfl)) w)
  exact wk_ls [(0, .inr (.inr (.ref 88))), (1, .inl (a1)), (2, .inl (0))] rfl ⟨rfl, rfl, rfl, trivial⟩ (lp10 μ5 (0) σ (by decide) (sg_F_r _ _) w11)
-- NestedVectorsModel.extentOfLanes
def V_extentOfLanes (σ : sg_S) (a1 : Int) (Q : Int → sg_S → Prop) : Prop := V_findBegins σ (a1) (fun σ2 => sg_F [144] σ σ2 → (∃ (I11 : Nat → Int → Int → Prop) (X13 : Int → Prop), (∃ n, I11 n (0) (0)) ∧ (∀ (n22 : Nat) (v7 : Int) (v8 : Int), sg_RL v7 → sg_R v8 → I11 n22 v7 v8 → (((sg_g σ 88 93) ≤ v8 → X13 (v7)) ∧ (v8 < (sg_g σ 88 93) → (0 ≤ v8 ∧ v8 < 13000) ∧ ∀ v28 : Int, v28 = (if 0 ≤ (sg_g σ 143 (v8)) then (0 : Int) else (1 : Int)) → sg_RL v28 → sg_RL (v7 + v28) ∧ (∃ (I36 : Nat → Int → Int → Prop) (X38 : Int → Prop), (∃ n, I36 n ((v7 + v28)) (0)) ∧ (∀ (n47 : Nat) (v32 : Int) (v33 : Int), sg_RL v32 → sg_R v33 → I36 n47 v32 v33 → (0 ≤ a1 ∧ a1 < 30000) ∧ (((sg_g σ 139 (a1)) < v33 → X38 (v32)) ∧ (v33 ≤ (sg_g σ 139 (a1)) → (((sg_g σ 143 (v8)) < 0 → X38 (v32)) ∧ (0 ≤ (sg_g σ 143 (v8)) → sg_R (13000 * v33) ∧ sg_R ((13000 * v33) + (sg_g σ 143 (v8))) ∧ sg_R (((13000 * v33) + (sg_g σ 143 (v8))) + 1) ∧ (0 ≤ (((13000 * v33) + (sg_g σ 143 (v8))) + 1) ∧ (((13000 * v33) + (sg_g σ 143 (v8))) + 1) < 52000) ∧ (0 ≤ ((13000 * v33) + (sg_g σ 143 (v8))) ∧ ((13000 * v33) + (sg_g σ 143 (v8))) < 52000) ∧ sg_R ((sg_g σ2 144 ((((13000 * v33) + (sg_g σ 143 (v8))) + 1))) - (sg_g σ2 144 (((13000 * v33) + (sg_g σ 143 (v8)))))) ∧ sg_RL (v32 + ((sg_g σ2 144 ((((13000 * v33) + (sg_g σ 143 (v8))) + 1))) - (sg_g σ2 144 (((13000 * v33) + (sg_g σ 143 (v8))))))) ∧ sg_R (v33 + 1) ∧ (∃ m, m < n47 ∧ I36 m ((v32 + ((sg_g σ2 144 ((((13000 * v33) + (sg_g σ 143 (v8))) + 1))) - (sg_g σ2 144 (((13000 * v33) + (sg_g σ 143 (v8)))))))) ((v33 + 1)))))))) ∧ (∀ (v32 : Int), sg_RL v32 → X38 v32 → sg_R (v8 + 1) ∧ (∃ m, m < n22 ∧ I11 m (v32) ((v8 + 1)))))))) ∧ (∀ (v7 : Int), sg_RL v7 → X13 v7 → Q (v7) σ2)))
set_option maxHeartbeats 4000000 in
set_option maxRecDepth 8000 in
theorem w_extentOfLanes (z : Value) (σ : sg_S) (a1 : Int) (Q : Int → sg_S → Prop) (ra1 : sg_R a1) (w : V_extentOfLanes σ a1 Q) : wx z 2 227 0 [(0, .inr (.inr (.ref 88))), (1, .inl (a1))] [] σ (fun v σ' => ∃ q, v = some (.inr (.inl q)) ∧ sg_RL q ∧ sg_F [144] σ σ' ∧ Q q σ') := by
  unfold V_extentOfLanes at w
  refine wk_b tt_227 2 (pc' := 2) (ls' := [(0, .inr (.inr (.ref 88))), (1, .inl (a1))]) (st' := [.inl (a1), .inr (.inr (.ref 88))]) (σ' := σ) rfl ?_
  refine wk_call tt_227 rfl rfl rfl rfl rfl tt_230 rfl (by decide) (w_findBegins z σ (a1) _ ra1 w) (fun u6 σ2 hq4 => ?_)
  obtain ⟨rfl, hF3, w⟩ := hq4
  have w := w hF3
  refine wk_b tt_227 4 (pc' := 10) (ls' := [(4, .inl (0)), (2, .inr (.inl (0))), (0, .inr (.inr (.ref 88))), (1, .inl (a1))]) (st' := []) (σ' := σ2) rfl ?_
  obtain ⟨I11, X13, ⟨μ12, w19⟩, w20, w21⟩ := w
  have ex23 : ∀ (v7 : Int), sg_RL v7 → X13 v7 → wx z 2 227 118 [(2, .inr (.inl (v7)))] [] σ2 (fun v σ' => ∃ q, v = some (.inr (.inl q)) ∧ sg_RL q ∧ sg_F [144] σ σ' ∧ Q q σ') := by
    intro v7 r14 w
    have w := w21 v7 r14 w
    refine wk_b tt_227 1 (pc' := 119) (ls' := [(2, .inr (.inl (v7)))]) (st' := [.inr (.inl (v7))]) (σ' := σ2) rfl ?_
    exact wk_rL tt_227 rfl rfl ⟨_, rfl, r14, (sg_F_t (sg_F_r [144] σ) (sg_F_m (L := [144]) hF3 rfl)), w⟩
  have lp18 : ∀ (n22 : Nat) (v7 : Int) (v8 : Int), sg_RL v7 → sg_R v8 → I11 n22 v7 v8 → wx z 2 227 10 [(0, .inr (.inr (.ref 88))), (1, .inl (a1)), (2, .inr (.inl (v7))), (4, .inl (v8))] [] σ2 (fun v σ' => ∃ q, v = some (.inr (.inl q)) ∧ sg_RL q ∧ sg_F [144] σ σ' ∧ Q q σ') := by
    intro n22
    induction n22 using Nat.strongRecOn with
    | _ n22 ih16 =>
      intro v7 v8 r14 r15 w
      have w := w20 n22 v7 v8 r14 r15 w
      refine wk_b tt_227 3 (pc' := 16) (ls' := [(0, .inr (.inr (.ref 88))), (1, .inl (a1)), (2, .inr (.inl (v7))), (4, .inl (v8))]) (st' := [.inl ((sg_g σ2 88 93)), .inl (v8)]) (σ' := σ2) rfl ?_
      rw [show (sg_g σ2 88 93) = (sg_g σ 88 93) from by rw [sg_F_ga hF3 rfl]]
      refine wk_if2 tt_227 (tgt := 118) rfl rfl r15 (sg_Rg _ _ _) (fun (h24 : (sg_g σ 88 93) ≤ v8) => ?_) (fun (h24 : v8 < (sg_g σ 88 93)) => ?_)
      ·
        have w := w.1 h24
        exact wk_ls [(2, .inr (.inl (v7)))] rfl ⟨rfl, trivial⟩ (ex23 (v7)  r14  w)
      ·
        have w := w.2 h24
        refine wk_b tt_227 4 (pc' := 26) (ls' := [(0, .inr (.inr (.ref 88))), (1, .inl (a1)), (2, .inr (.inl (v7))), (4, .inl (v8))]) (st' := [.inl (v8), .inr (.inr (.ref 143)), .inr (.inl (v7))]) (σ' := σ2) rfl ?_
        obtain ⟨c25, w⟩ := w
        refine wk_ia tt_227 rfl rfl c25.1 c25.2 r15 ?_
        rw [show (sg_g σ2 143 (v8)) = (sg_g σ 143 (v8)) from by rw [sg_F_ga hF3 rfl]]
        have jn27 : ∀ v28 : Int, v28 = (if 0 ≤ (sg_g σ 143 (v8)) then (0 : Int) else (1 : Int)) → sg_RL v28 → wx z 2 227 35 [(0, .inr (.inr (.ref 88))), (1, .inl (a1)), (4, .inl (v8))] [.inr (.inl (v28)), .inr (.inl (v7))] σ2 (fun v σ' => ∃ q, v = some (.inr (.inl q)) ∧ sg_RL q ∧ sg_F [144] σ σ' ∧ Q q σ') := by
          intro v28 e30 r29
          have w := w v28 e30 r29
          obtain ⟨c31, w⟩ := w
          refine wk_b tt_227 4 (pc' := 40) (ls' := [(5, .inl (0)), (2, .inr (.inl ((v7 + v28)))), (0, .inr (.inr (.ref 88))), (1, .inl (a1)), (4, .inl (v8))]) (st' := []) (σ' := σ2) rfl ?_
          obtain ⟨I36, X38, ⟨μ37, w44⟩, w45, w46⟩ := w
          have ex48 : ∀ (v32 : Int), sg_RL v32 → X38 v32 → wx z 2 227 112 [(0, .inr (.inr (.ref 88))), (1, .inl (a1)), (2, .inr (.inl (v32))), (4, .inl (v8))] [] σ2 (fun v σ' => ∃ q, v = some (.inr (.inl q)) ∧ sg_RL q ∧ sg_F [144] σ σ' ∧ Q q σ') := by
            intro v32 r39 w
            have w := w46 v32 r39 w
            obtain ⟨c49, w⟩ := w
            refine wk_b tt_227 2 (pc' := 10) (ls' := [(4, .inl ((v8 + 1))), (0, .inr (.inr (.ref 88))), (1, .inl (a1)), (2, .inr (.inl (v32)))]) (st' := []) (σ' := σ2) rfl ?_
            obtain ⟨m50, hm50, w⟩ := w
            exact wk_ls [(0, .inr (.inr (.ref 88))), (1, .inl (a1)), (2, .inr (.inl (v32))), (4, .inl ((v8 + 1)))] rfl ⟨rfl, rfl, rfl, rfl, trivial⟩ (ih16 m50 hm50 (v32) ((v8 + 1))  r39 c49  w)
          have lp43 : ∀ (n47 : Nat) (v32 : Int) (v33 : Int), sg_RL v32 → sg_R v33 → I36 n47 v32 v33 → wx z 2 227 40 [(0, .inr (.inr (.ref 88))), (1, .inl (a1)), (2, .inr (.inl (v32))), (4, .inl (v8)), (5, .inl (v33))] [] σ2 (fun v σ' => ∃ q, v = some (.inr (.inl q)) ∧ sg_RL q ∧ sg_F [144] σ σ' ∧ Q q σ') := by
            intro n47
            induction n47 using Nat.strongRecOn with
            | _ n47 ih41 =>
              intro v32 v33 r39 r40 w
              have w := w45 n47 v32 v33 r39 r40 w
              refine wk_b tt_227 4 (pc' := 47) (ls' := [(0, .inr (.inr (.ref 88))), (1, .inl (a1)), (2, .inr (.inl (v32))), (4, .inl (v8)), (5, .inl (v33))]) (st' := [.inl (a1), .inr (.inr (.ref 139)), .inl (v33)]) (σ' := σ2) rfl ?_
              obtain ⟨c51, w⟩ := w
              refine wk_ia tt_227 rfl rfl c51.1 c51.2 ra1 ?_
              rw [show (sg_g σ2 139 (a1)) = (sg_g σ 139 (a1)) from by rw [sg_F_ga hF3 rfl]]
              refine wk_if2 tt_227 (tgt := 112) rfl rfl r40 (sg_Rg _ _ _) (fun (h52 : (sg_g σ 139 (a1)) < v33) => ?_) (fun (h52 : v33 ≤ (sg_g σ 139 (a1))) => ?_)
              ·
                have w := w.1 h52
                exact wk_ls [(0, .inr (.inr (.ref 88))), (1, .inl (a1)), (2, .inr (.inl (v32))), (4, .inl (v8))] rfl ⟨rfl, rfl, rfl, rfl, trivial⟩ (ex48 (v32)  r39  w)
              ·
                have w := w.2 h52
                refine wk_b tt_227 3 (pc' := 57) (ls' := [(0, .inr (.inr (.ref 88))), (1, .inl (a1)), (2, .inr (.inl (v32))), (4, .inl (v8)), (5, .inl (v33))]) (st' := [.inl (v8), .inr (.inr (.ref 143))]) (σ' := σ2) rfl ?_
                refine wk_ia tt_227 rfl rfl c25.1 c25.2 r15 ?_
                rw [show (sg_g σ2 143 (v8)) = (sg_g σ 143 (v8)) from by rw [sg_F_ga hF3 rfl]]
                refine wk_if tt_227 (tgt := 112) rfl rfl (sg_Rg _ _ _) (fun (h53 : (sg_g σ 143 (v8)) < 0) => ?_) (fun (h53 : 0 ≤ (sg_g σ 143 (v8))) => ?_)
                ·
                  have w := w.1 h53
                  exact wk_ls [(0, .inr (.inr (.ref 88))), (1, .inl (a1)), (2, .inr (.inl (v32))), (4, .inl (v8))] rfl ⟨rfl, rfl, rfl, rfl, trivial⟩ (ex48 (v32)  r39  w)
                ·
                  have w := w.2 h53
                  obtain ⟨c54, w⟩ := w
                  refine wk_b tt_227 9 (pc' := 78) (ls' := [(0, .inr (.inr (.ref 88))), (1, .inl (a1)), (2, .inr (.inl (v32))), (4, .inl (v8)), (5, .inl (v33))]) (st' := [.inl (v8), .inr (.inr (.ref 143)), .inl ((13000 * v33)), .inr (.inr (.ref 144)), .inr (.inl (v32))]) (σ' := σ2) rfl ?_
                  refine wk_ia tt_227 rfl rfl c25.1 c25.2 r15 ?_
                  rw [show (sg_g σ2 143 (v8)) = (sg_g σ 143 (v8)) from by rw [sg_F_ga hF3 rfl]]
                  obtain ⟨c55, w⟩ := w
                  obtain ⟨c56, w⟩ := w
                  refine wk_b tt_227 3 (pc' := 82) (ls' := [(0, .inr (.inr (.ref 88))), (1, .inl (a1)), (2, .inr (.inl (v32))), (4, .inl (v8)), (5, .inl (v33))]) (st' := [.inl ((((13000 * v33) + (sg_g σ 143 (v8))) + 1)), .inr (.inr (.ref 144)), .inr (.inl (v32))]) (σ' := σ2) rfl ?_
                  obtain ⟨c57, w⟩ := w
                  refine wk_ia tt_227 rfl rfl c57.1 c57.2 c56 ?_
                  refine wk_b tt_227 8 (pc' := 99) (ls' := [(0, .inr (.inr (.ref 88))), (1, .inl (a1)), (2, .inr (.inl (v32))), (4, .inl (v8)), (5, .inl (v33))]) (st' := [.inl (v8), .inr (.inr (.ref 143)), .inl ((13000 * v33)), .inr (.inr (.ref 144)), .inl ((sg_g σ2 144 ((((13000 * v33) + (sg_g σ 143 (v8))) + 1)))), .inr (.inl (v32))]) (σ' := σ2) rfl ?_
                  refine wk_ia tt_227 rfl rfl c25.1 c25.2 r15 ?_
                  rw [show (sg_g σ2 143 (v8)) = (sg_g σ 143 (v8)) from by rw [sg_F_ga hF3 rfl]]
                  refine wk_b tt_227 1 (pc' := 101) (ls' := [(0, .inr (.inr (.ref 88))), (1, .inl (a1)), (2, .inr (.inl (v32))), (4, .inl (v8)), (5, .inl (v33))]) (st' := [.inl (((13000 * v33) + (sg_g σ 143 (v8)))), .inr (.inr (.ref 144)), .inl ((sg_g σ2 144 ((((13000 * v33) + (sg_g σ 143 (v8))) + 1)))), .inr (.inl (v32))]) (σ' := σ2) rfl ?_
                  obtain ⟨c58, w⟩ := w
                  refine wk_ia tt_227 rfl rfl c58.1 c58.2 c55 ?_
                  obtain ⟨c59, w⟩ := w
                  obtain ⟨c60, w⟩ := w
                  obtain ⟨c61, w⟩ := w
                  refine wk_b tt_227 6 (pc' := 40) (ls' := [(5, .inl ((v33 + 1))), (2, .inr (.inl ((v32 + (sg_n (((sg_g σ2 144 ((((13000 * v33) + (sg_g σ 143 (v8))) + 1))) - (sg_g σ2 144 (((13000 * v33) + (sg_g σ 143 (v8)))))))))))), (0, .inr (.inr (.ref 88))), (1, .inl (a1)), (4, .inl (v8))]) (st' := []) (σ' := σ2) rfl ?_
                  rw [show (sg_n (((sg_g σ2 144 ((((13000 * v33) + (sg_g σ 143 (v8))) + 1))) - (sg_g σ2 144 (((13000 * v33) + (sg_g σ 143 (v8)))))))) = ((sg_g σ2 144 ((((13000 * v33) + (sg_g σ 143 (v8))) + 1))) - (sg_g σ2 144 (((13000 * v33) + (sg_g σ 143 (v8)))))) from by rw [sg_id c59]]
                  obtain ⟨m62, hm62, w⟩ := w
                  exact wk_ls [(0, .inr (.inr (.ref 88))), (1, .inl (a1)), (2, .inr (.inl ((v32 + ((sg_g σ2 144 ((((13000 * v33) + (sg_g σ 143 (v8))) + 1))) - (sg_g σ2 144 (((13000 * v33) + (sg_g σ 143 (v8)))))))))), (4, .inl (v8)), (5, .inl ((v33 + 1)))] rfl ⟨rfl, rfl, rfl, rfl, rfl, trivial⟩ (ih41 m62 hm62 ((v32 + ((sg_g σ2 144 ((((13000 * v33) + (sg_g σ 143 (v8))) + 1))) - (sg_g σ2 144 (((13000 * v33) + (sg_g σ 143 (v8)))))))) ((v33 + 1))  c60 c61  w)
          exact wk_ls [(0, .inr (.inr (.ref 88))), (1, .inl (a1)), (2, .inr (.inl ((v7 + v28)))), (4, .inl (v8)), (5, .inl (0))] rfl ⟨rfl, rfl, rfl, rfl, rfl, trivial⟩ (lp43 μ37 ((v7 + v28)) (0)  c31 (by decide)  w44)
        refine wk_if tt_227 (tgt := 34) rfl rfl (sg_Rg _ _ _) (fun (h26 : 0 ≤ (sg_g σ 143 (v8))) => ?_) (fun (h26 : (sg_g σ 143 (v8)) < 0) => ?_)
        ·
          clear w
          refine wk_b tt_227 1 (pc' := 35) (ls' := [(0, .inr (.inr (.ref 88))), (1, .inl (a1)), (2, .inr (.inl (v7))), (4, .inl (v8))]) (st' := [.inr (.inl (0)), .inr (.inl (v7))]) (σ' := σ2) rfl ?_
          exact wk_ls [(0, .inr (.inr (.ref 88))), (1, .inl (a1)), (4, .inl (v8))] rfl ⟨rfl, rfl, rfl, trivial⟩ (jn27 (0) (by simp only [if_pos h26]) (by decide))
        ·
          clear w
          refine wk_b tt_227 2 (pc' := 35) (ls' := [(0, .inr (.inr (.ref 88))), (1, .inl (a1)), (2, .inr (.inl (v7))), (4, .inl (v8))]) (st' := [.inr (.inl (1)), .inr (.inl (v7))]) (σ' := σ2) rfl ?_
          exact wk_ls [(0, .inr (.inr (.ref 88))), (1, .inl (a1)), (4, .inl (v8))] rfl ⟨rfl, rfl, rfl, trivial⟩ (jn27 (1) (by simp only [if_neg (show ¬ (0 ≤ (sg_g σ 143 (v8))) by omega)]) (by decide))
  exact wk_ls [(0, .inr (.inr (.ref 88))), (1, .inl (a1)), (2, .inr (.inl (0))), (4, .inl (0))] rfl ⟨rfl, rfl, rfl, rfl, trivial⟩ (lp18 μ12 (0) (0)  (by decide) (by decide)  w19)
