/-! Conditions of the reference's methods, by program (6). -/
-- NestedVectorsModel.acted
def V_acted_d (σ : sg_S) (b1 : Int) (b2 : Int) (b3 : Int) (Q : Int → sg_S → Prop) : Prop := V_parted σ (b1) (b2) (b3) (fun q1 σ2 => sg_R q1 → sg_F [122, 123, 124, 125, 57088, 61088, 74088] σ σ2 → Q (q1) σ2)
set_option maxHeartbeats 4000000 in
set_option maxRecDepth 8000 in
theorem w_acted_d (z : Value) (σ : sg_S) (b1 : Int) (b2 : Int) (b3 : Int) (Q : Int → sg_S → Prop) (rb1 : sg_R b1) (rb2 : sg_R b2) (rb3 : sg_R b3) (w : V_acted_d σ b1 b2 b3 Q) : wx z 2 211 628 [(0, .inr (.inr (.ref 88))), (1, .inl (b1)), (2, .inl (b2)), (3, .inl (b3))] [] σ (fun v σ' => ∃ q, v = some (.inl q) ∧ sg_R q ∧ sg_F [122, 123, 124, 125, 57088, 61088, 74088] σ σ' ∧ Q q σ') := by
  unfold V_acted_d at w
  refine wk_b tt_211 4 (pc' := 632) (ls' := [(0, .inr (.inr (.ref 88))), (1, .inl (b1)), (2, .inl (b2)), (3, .inl (b3))]) (st' := [.inl (b3), .inl (b2), .inl (b1), .inr (.inr (.ref 88))]) (σ' := σ) rfl ?_
  refine wk_call tt_211 rfl rfl rfl rfl rfl tt_303 rfl (by decide) (w_parted z σ (b1) (b2) (b3) _ rb1 rb2 rb3 w) (fun u6 σ2 hq4 => ?_)
  obtain ⟨q1, rfl, r5, hF3, w⟩ := hq4
  have w := w r5 hF3
  exact wk_rI tt_211 rfl rfl ⟨_, rfl, r5, (sg_F_t (sg_F_r [122, 123, 124, 125, 57088, 61088, 74088] σ) (sg_F_m (L := [122, 123, 124, 125, 57088, 61088, 74088]) hF3 rfl)), w⟩
-- NestedVectorsModel.acted
def V_acted (σ : sg_S) (a1 : Int) (a2 : Int) (a3 : Int) (Q : Int → sg_S → Prop) : Prop := (0 ≤ a1 ∧ a1 < 210) ∧ (((sg_g σ 93 (a1)) = 16 → V_acted_16 σ (a2) ((sg_g σ 88 60)) Q) ∧ (¬ (sg_g σ 93 (a1)) = 16 → (((sg_g σ 93 (a1)) = 17 → V_acted_17 σ (a1) (a2) (a3) ((sg_g σ 88 60)) Q) ∧ (¬ (sg_g σ 93 (a1)) = 17 → (((sg_g σ 93 (a1)) = 18 → V_acted_18 σ (a2) Q) ∧ (¬ (sg_g σ 93 (a1)) = 18 → (((sg_g σ 93 (a1)) = 19 → V_acted_19 σ (a1) (a2) Q) ∧ (¬ (sg_g σ 93 (a1)) = 19 → (((sg_g σ 93 (a1)) = 20 → V_acted_19 σ (a1) (a2) Q) ∧ (¬ (sg_g σ 93 (a1)) = 20 → (((sg_g σ 93 (a1)) = 21 → V_acted_21 σ (a2) ((sg_g σ 88 60)) Q) ∧ (¬ (sg_g σ 93 (a1)) = 21 → (((sg_g σ 93 (a1)) = 22 → V_acted_22 σ (a1) (a2) ((sg_g σ 88 60)) Q) ∧ (¬ (sg_g σ 93 (a1)) = 22 → (((sg_g σ 93 (a1)) = 23 → V_acted_23 σ (a1) (a2) (a3) ((sg_g σ 88 60)) Q) ∧ (¬ (sg_g σ 93 (a1)) = 23 → (((sg_g σ 93 (a1)) = 24 → V_acted_24 σ (a1) (a2) Q) ∧ (¬ (sg_g σ 93 (a1)) = 24 → (((sg_g σ 93 (a1)) = 25 → V_acted_25 σ (a1) (a2) (a3) ((sg_g σ 88 60)) Q) ∧ (¬ (sg_g σ 93 (a1)) = 25 → (((sg_g σ 93 (a1)) = 26 → V_acted_26 σ (a1) (a2) (a3) Q) ∧ (¬ (sg_g σ 93 (a1)) = 26 → V_acted_d σ (a1) (a2) (a3) Q))))))))))))))))))))))
set_option maxHeartbeats 4000000 in
set_option maxRecDepth 8000 in
theorem w_acted (z : Value) (σ : sg_S) (a1 : Int) (a2 : Int) (a3 : Int) (Q : Int → sg_S → Prop) (ra1 : sg_R a1) (ra2 : sg_R a2) (ra3 : sg_R a3) (w : V_acted σ a1 a2 a3 Q) : wx z 3 211 0 [(0, .inr (.inr (.ref 88))), (1, .inl (a1)), (2, .inl (a2)), (3, .inl (a3))] [] σ (fun v σ' => ∃ q, v = some (.inl q) ∧ sg_R q ∧ sg_F [122, 123, 124, 125, 135, 57088, 61088, 74088] σ σ' ∧ Q q σ') := by
  unfold V_acted at w
  refine wk_b tt_211 8 (pc' := 14) (ls' := [(5, .inl (0)), (4, .inl ((sg_g σ 88 60))), (0, .inr (.inr (.ref 88))), (1, .inl (a1)), (2, .inl (a2)), (3, .inl (a3))]) (st' := [.inl (a1), .inr (.inr (.ref 93))]) (σ' := σ) rfl ?_
  obtain ⟨c1, w⟩ := w
  refine wk_ia tt_211 rfl rfl c1.1 c1.2 ra1 ?_
  by_cases e2 : (sg_g σ 93 (a1)) = 16
  · have w := w.1 e2
    refine wk_ts tt_211 (off := 57) (tgt := 72) rfl (sg_Rg _ _ _) (by rw [e2]; decide) rfl ?_
    refine wk_ls [(0, .inr (.inr (.ref 88))), (2, .inl (a2)), (4, .inl ((sg_g σ 88 60)))] rfl ⟨rfl, rfl, rfl, trivial⟩ ?_
    exact wk_post (wk_d (by decide) (w_acted_16 z σ (a2) ((sg_g σ 88 60)) Q ra2 (sg_Rg _ _ _) w)) (fun v σ' ⟨q, e, r, hF, hQ⟩ => ⟨q, e, r, sg_F_t (sg_F_r [122, 123, 124, 125, 135, 57088, 61088, 74088] σ) (sg_F_m hF rfl), hQ⟩)
  have w := w.2 e2
  by_cases e4 : (sg_g σ 93 (a1)) = 17
  · have w := w.1 e4
    refine wk_ts tt_211 (off := 106) (tgt := 121) rfl (sg_Rg _ _ _) (by rw [e4]; decide) rfl ?_
    refine wk_ls [(0, .inr (.inr (.ref 88))), (1, .inl (a1)), (2, .inl (a2)), (3, .inl (a3)), (4, .inl ((sg_g σ 88 60)))] rfl ⟨rfl, rfl, rfl, rfl, rfl, trivial⟩ ?_
    exact wk_post (wk_d (by decide) (w_acted_17 z σ (a1) (a2) (a3) ((sg_g σ 88 60)) Q ra1 ra2 ra3 (sg_Rg _ _ _) w)) (fun v σ' ⟨q, e, r, hF, hQ⟩ => ⟨q, e, r, sg_F_t (sg_F_r [122, 123, 124, 125, 135, 57088, 61088, 74088] σ) (sg_F_m hF rfl), hQ⟩)
  have w := w.2 e4
  by_cases e6 : (sg_g σ 93 (a1)) = 18
  · have w := w.1 e6
    refine wk_ts tt_211 (off := 159) (tgt := 174) rfl (sg_Rg _ _ _) (by rw [e6]; decide) rfl ?_
    refine wk_ls [(0, .inr (.inr (.ref 88))), (2, .inl (a2)), (5, .inl (0))] rfl ⟨rfl, rfl, rfl, trivial⟩ ?_
    exact wk_post (wk_d (by decide) (w_acted_18 z σ (a2) Q ra2 w)) (fun v σ' ⟨q, e, r, hF, hQ⟩ => ⟨q, e, r, (by rw [← hF]; exact (sg_F_r [122, 123, 124, 125, 135, 57088, 61088, 74088] σ)), hQ⟩)
  have w := w.2 e6
  by_cases e8 : (sg_g σ 93 (a1)) = 19
  · have w := w.1 e8
    refine wk_ts tt_211 (off := 194) (tgt := 209) rfl (sg_Rg _ _ _) (by rw [e8]; decide) rfl ?_
    refine wk_ls [(0, .inr (.inr (.ref 88))), (1, .inl (a1)), (2, .inl (a2))] rfl ⟨rfl, rfl, rfl, trivial⟩ ?_
    exact wk_post (wk_d (by decide) (w_acted_19 z σ (a1) (a2) Q ra1 ra2 w)) (fun v σ' ⟨q, e, r, hF, hQ⟩ => ⟨q, e, r, sg_F_t (sg_F_r [122, 123, 124, 125, 135, 57088, 61088, 74088] σ) (sg_F_m hF rfl), hQ⟩)
  have w := w.2 e8
  by_cases e10 : (sg_g σ 93 (a1)) = 20
  · have w := w.1 e10
    refine wk_ts tt_211 (off := 194) (tgt := 209) rfl (sg_Rg _ _ _) (by rw [e10]; decide) rfl ?_
    refine wk_ls [(0, .inr (.inr (.ref 88))), (1, .inl (a1)), (2, .inl (a2))] rfl ⟨rfl, rfl, rfl, trivial⟩ ?_
    exact wk_post (wk_d (by decide) (w_acted_19 z σ (a1) (a2) Q ra1 ra2 w)) (fun v σ' ⟨q, e, r, hF, hQ⟩ => ⟨q, e, r, sg_F_t (sg_F_r [122, 123, 124, 125, 135, 57088, 61088, 74088] σ) (sg_F_m hF rfl), hQ⟩)
  have w := w.2 e10
  by_cases e12 : (sg_g σ 93 (a1)) = 21
  · have w := w.1 e12
    refine wk_ts tt_211 (off := 294) (tgt := 309) rfl (sg_Rg _ _ _) (by rw [e12]; decide) rfl ?_
    refine wk_ls [(0, .inr (.inr (.ref 88))), (2, .inl (a2)), (4, .inl ((sg_g σ 88 60))), (5, .inl (0))] rfl ⟨rfl, rfl, rfl, rfl, trivial⟩ ?_
    exact wk_post (wk_d (by decide) (w_acted_21 z σ (a2) ((sg_g σ 88 60)) Q ra2 (sg_Rg _ _ _) w)) (fun v σ' ⟨q, e, r, hF, hQ⟩ => ⟨q, e, r, sg_F_t (sg_F_r [122, 123, 124, 125, 135, 57088, 61088, 74088] σ) (sg_F_m hF rfl), hQ⟩)
  have w := w.2 e12
  by_cases e14 : (sg_g σ 93 (a1)) = 22
  · have w := w.1 e14
    refine wk_ts tt_211 (off := 346) (tgt := 361) rfl (sg_Rg _ _ _) (by rw [e14]; decide) rfl ?_
    refine wk_ls [(0, .inr (.inr (.ref 88))), (1, .inl (a1)), (2, .inl (a2)), (4, .inl ((sg_g σ 88 60)))] rfl ⟨rfl, rfl, rfl, rfl, trivial⟩ ?_
    exact wk_post (wk_d (by decide) (w_acted_22 z σ (a1) (a2) ((sg_g σ 88 60)) Q ra1 ra2 (sg_Rg _ _ _) w)) (fun v σ' ⟨q, e, r, hF, hQ⟩ => ⟨q, e, r, sg_F_t (sg_F_r [122, 123, 124, 125, 135, 57088, 61088, 74088] σ) (sg_F_m hF rfl), hQ⟩)
  have w := w.2 e14
  by_cases e16 : (sg_g σ 93 (a1)) = 23
  · have w := w.1 e16
    refine wk_ts tt_211 (off := 397) (tgt := 412) rfl (sg_Rg _ _ _) (by rw [e16]; decide) rfl ?_
    refine wk_ls [(0, .inr (.inr (.ref 88))), (1, .inl (a1)), (2, .inl (a2)), (3, .inl (a3)), (4, .inl ((sg_g σ 88 60)))] rfl ⟨rfl, rfl, rfl, rfl, rfl, trivial⟩ ?_
    exact wk_post (wk_d (by decide) (w_acted_23 z σ (a1) (a2) (a3) ((sg_g σ 88 60)) Q ra1 ra2 ra3 (sg_Rg _ _ _) w)) (fun v σ' ⟨q, e, r, hF, hQ⟩ => ⟨q, e, r, sg_F_t (sg_F_r [122, 123, 124, 125, 135, 57088, 61088, 74088] σ) (sg_F_m hF rfl), hQ⟩)
  have w := w.2 e16
  by_cases e18 : (sg_g σ 93 (a1)) = 24
  · have w := w.1 e18
    refine wk_ts tt_211 (off := 515) (tgt := 530) rfl (sg_Rg _ _ _) (by rw [e18]; decide) rfl ?_
    refine wk_ls [(0, .inr (.inr (.ref 88))), (1, .inl (a1)), (2, .inl (a2))] rfl ⟨rfl, rfl, rfl, trivial⟩ ?_
    exact wk_post (wk_d (by decide) (w_acted_24 z σ (a1) (a2) Q ra1 ra2 w)) (fun v σ' ⟨q, e, r, hF, hQ⟩ => ⟨q, e, r, sg_F_t (sg_F_r [122, 123, 124, 125, 135, 57088, 61088, 74088] σ) (sg_F_m hF rfl), hQ⟩)
  have w := w.2 e18
  by_cases e20 : (sg_g σ 93 (a1)) = 25
  · have w := w.1 e20
    refine wk_ts tt_211 (off := 522) (tgt := 537) rfl (sg_Rg _ _ _) (by rw [e20]; decide) rfl ?_
    refine wk_ls [(0, .inr (.inr (.ref 88))), (1, .inl (a1)), (2, .inl (a2)), (3, .inl (a3)), (4, .inl ((sg_g σ 88 60)))] rfl ⟨rfl, rfl, rfl, rfl, rfl, trivial⟩ ?_
    exact wk_post (wk_d (by decide) (w_acted_25 z σ (a1) (a2) (a3) ((sg_g σ 88 60)) Q ra1 ra2 ra3 (sg_Rg _ _ _) w)) (fun v σ' ⟨q, e, r, hF, hQ⟩ => ⟨q, e, r, sg_F_t (sg_F_r [122, 123, 124, 125, 135, 57088, 61088, 74088] σ) (sg_F_m hF rfl), hQ⟩)
  have w := w.2 e20
  by_cases e22 : (sg_g σ 93 (a1)) = 26
  · have w := w.1 e22
    refine wk_ts tt_211 (off := 605) (tgt := 620) rfl (sg_Rg _ _ _) (by rw [e22]; decide) rfl ?_
    refine wk_ls [(0, .inr (.inr (.ref 88))), (1, .inl (a1)), (2, .inl (a2)), (3, .inl (a3))] rfl ⟨rfl, rfl, rfl, rfl, trivial⟩ ?_
    exact wk_post (wk_d (by decide) (w_acted_26 z σ (a1) (a2) (a3) Q ra1 ra2 ra3 w)) (fun v σ' ⟨q, e, r, hF, hQ⟩ => ⟨q, e, r, sg_F_t (sg_F_r [122, 123, 124, 125, 135, 57088, 61088, 74088] σ) (sg_F_m hF rfl), hQ⟩)
  have w := w.2 e22
  refine wk_ts tt_211 (off := 613) (tgt := 628) rfl (sg_Rg _ _ _) (by rcases sw_lo ((sg_g σ 93 (a1))) 16 with h | h; (unfold bm_swt; rw [if_pos (Or.inl h)]); (unfold bm_swt; rw [if_pos (Or.inr (Int.lt_of_add_one_le (sw_st (k := 26) (sw_st (k := 25) (sw_st (k := 24) (sw_st (k := 23) (sw_st (k := 22) (sw_st (k := 21) (sw_st (k := 20) (sw_st (k := 19) (sw_st (k := 18) (sw_st (k := 17) (sw_st (k := 16) h e2) e4) e6) e8) e10) e12) e14) e16) e18) e20) e22)))])) rfl ?_
  refine wk_ls [(0, .inr (.inr (.ref 88))), (1, .inl (a1)), (2, .inl (a2)), (3, .inl (a3))] rfl ⟨rfl, rfl, rfl, rfl, trivial⟩ ?_
  exact wk_post (wk_d (by decide) (w_acted_d z σ (a1) (a2) (a3) Q ra1 ra2 ra3 w)) (fun v σ' ⟨q, e, r, hF, hQ⟩ => ⟨q, e, r, sg_F_t (sg_F_r [122, 123, 124, 125, 135, 57088, 61088, 74088] σ) (sg_F_m hF rfl), hQ⟩)
-- NestedVectorsModel.alike
def V_alike (σ : sg_S) (Q : Int → sg_S → Prop) : Prop := ∀ σ1, σ1 = (sg_w σ 88 0 (0)) → (((sg_g σ 88 51) = 0 → Q ((-4)) σ1) ∧ (¬ (sg_g σ 88 51) = 0 → (((sg_g σ 88 81) = 0 → Q ((-4)) σ1) ∧ (¬ (sg_g σ 88 81) = 0 → ((6 < (sg_g σ 88 53) → Q ((-4)) σ1) ∧ ((sg_g σ 88 53) ≤ 6 → (((sg_g σ 88 83) ≤ 6 → ((¬ (sg_g σ 88 53) = 0 → (((sg_g σ 88 53) = 0 → Q (0) σ1) ∧ (¬ (sg_g σ 88 53) = 0 → (((sg_g σ 88 83) = 0 → Q (0) σ1) ∧ (¬ (sg_g σ 88 83) = 0 → Q (2) σ1))))) ∧ ((sg_g σ 88 53) = 0 → (((sg_g σ 88 83) = 0 → ∀ v14 : Int, v14 = (if ¬ (sg_g σ 88 76) = (sg_g σ 88 77) then (0 : Int) else (1 : Int)) → sg_R v14 → (∃ (I21 : Nat → Int → Int → Prop) (X23 : Int → Prop), (∃ n, I21 n (v14) (0)) ∧ (∀ (n32 : Nat) (v17 : Int) (v18 : Int), sg_R v17 → sg_R v18 → I21 n32 v17 v18 → (((sg_g σ 88 76) ≤ v18 → X23 (v17)) ∧ (v18 < (sg_g σ 88 76) → ((v17 = 0 → X23 (v17)) ∧ (¬ v17 = 0 → (0 ≤ v18 ∧ v18 < 160000) ∧ sg_R (80000 + v18) ∧ (0 ≤ (80000 + v18) ∧ (80000 + v18) < 160000) ∧ ∀ v42 : Int, v42 = (if ¬ (sg_g σ 136 (v18)) = (sg_g σ 136 ((80000 + v18))) then (0 : Int) else (1 : Int)) → sg_R v42 → sg_R (v18 + 1) ∧ (∃ m, m < n32 ∧ I21 m (v42) ((v18 + 1)))))))) ∧ (∀ (v17 : Int), sg_R v17 → X23 v17 → ((v17 = 0 → Q (0) σ1) ∧ (¬ v17 = 0 → Q (1) σ1))))) ∧ (¬ (sg_g σ 88 83) = 0 → (((sg_g σ 88 53) = 0 → Q (0) σ1) ∧ (¬ (sg_g σ 88 53) = 0 → (((sg_g σ 88 83) = 0 → Q (0) σ1) ∧ (¬ (sg_g σ 88 83) = 0 → Q (2) σ1))))))))) ∧ (6 < (sg_g σ 88 83) → Q ((-4)) σ1))))))))
set_option maxHeartbeats 4000000 in
set_option maxRecDepth 8000 in
theorem w_alike (z : Value) (σ : sg_S) (Q : Int → sg_S → Prop)  (w : V_alike σ  Q) : wx z 0 213 0 [(0, .inr (.inr (.ref 88)))] [] σ (fun v σ' => ∃ q, v = some (.inl q) ∧ sg_R q ∧ sg_F [1088] σ σ' ∧ Q q σ') := by
  unfold V_alike at w
  refine wk_b tt_213 3 (pc' := 5) (ls' := [(0, .inr (.inr (.ref 88)))]) (st' := []) (σ' := (sg_w σ 88 0 (0))) rfl ?_
  generalize hs2 : (sg_w σ 88 0 (0)) = σ1
  have w := w σ1 hs2.symm
  have hF3 : sg_F [1088] σ σ1 := by rw [← hs2]; exact sg_F_w (sg_F_r _ _) rfl _
  refine wk_b tt_213 2 (pc' := 9) (ls' := [(0, .inr (.inr (.ref 88)))]) (st' := [.inl ((sg_g σ1 88 51))]) (σ' := σ1) rfl ?_
  rw [show (sg_g σ1 88 51) = (sg_g σ 88 51) from by rw [sg_F_g hF3 rfl]]
  refine wk_if tt_213 (tgt := 37) rfl rfl (sg_Rg _ _ _) (fun (h4 : (sg_g σ 88 51) = 0) => ?_) (fun (h4 : ¬ (sg_g σ 88 51) = 0) => ?_)
  ·
    have w := w.1 h4
    refine wk_b tt_213 1 (pc' := 39) (ls' := [(0, .inr (.inr (.ref 88)))]) (st' := [.inl ((-4))]) (σ' := σ1) rfl ?_
    exact wk_rI tt_213 rfl rfl ⟨_, rfl, (by decide), (sg_F_t (sg_F_r [1088] σ) (sg_F_m (L := [1088]) hF3 rfl)), w⟩
  ·
    have w := w.2 h4
    refine wk_b tt_213 2 (pc' := 16) (ls' := [(0, .inr (.inr (.ref 88)))]) (st' := [.inl ((sg_g σ1 88 81))]) (σ' := σ1) rfl ?_
    rw [show (sg_g σ1 88 81) = (sg_g σ 88 81) from by rw [sg_F_g hF3 rfl]]
    refine wk_if tt_213 (tgt := 37) rfl rfl (sg_Rg _ _ _) (fun (h5 : (sg_g σ 88 81) = 0) => ?_) (fun (h5 : ¬ (sg_g σ 88 81) = 0) => ?_)
    ·
      have w := w.1 h5
      refine wk_b tt_213 1 (pc' := 39) (ls' := [(0, .inr (.inr (.ref 88)))]) (st' := [.inl ((-4))]) (σ' := σ1) rfl ?_
      exact wk_rI tt_213 rfl rfl ⟨_, rfl, (by decide), (sg_F_t (sg_F_r [1088] σ) (sg_F_m (L := [1088]) hF3 rfl)), w⟩
    ·
      have w := w.2 h5
      refine wk_b tt_213 3 (pc' := 25) (ls' := [(0, .inr (.inr (.ref 88)))]) (st' := [.inl (6), .inl ((sg_g σ1 88 53))]) (σ' := σ1) rfl ?_
      rw [show (sg_g σ1 88 53) = (sg_g σ 88 53) from by rw [sg_F_g hF3 rfl]]
      refine wk_if2 tt_213 (tgt := 37) rfl rfl (sg_Rg _ _ _) (by decide) (fun (h6 : 6 < (sg_g σ 88 53)) => ?_) (fun (h6 : (sg_g σ 88 53) ≤ 6) => ?_)
      ·
        have w := w.1 h6
        refine wk_b tt_213 1 (pc' := 39) (ls' := [(0, .inr (.inr (.ref 88)))]) (st' := [.inl ((-4))]) (σ' := σ1) rfl ?_
        exact wk_rI tt_213 rfl rfl ⟨_, rfl, (by decide), (sg_F_t (sg_F_r [1088] σ) (sg_F_m (L := [1088]) hF3 rfl)), w⟩
      ·
        have w := w.2 h6
        refine wk_b tt_213 3 (pc' := 34) (ls' := [(0, .inr (.inr (.ref 88)))]) (st' := [.inl (6), .inl ((sg_g σ1 88 83))]) (σ' := σ1) rfl ?_
        rw [show (sg_g σ1 88 83) = (sg_g σ 88 83) from by rw [sg_F_g hF3 rfl]]
        refine wk_if2 tt_213 (tgt := 40) rfl rfl (sg_Rg _ _ _) (by decide) (fun (h7 : (sg_g σ 88 83) ≤ 6) => ?_) (fun (h7 : 6 < (sg_g σ 88 83)) => ?_)
        ·
          have w := w.1 h7
          refine wk_b tt_213 2 (pc' := 44) (ls' := [(0, .inr (.inr (.ref 88)))]) (st' := [.inl ((sg_g σ1 88 53))]) (σ' := σ1) rfl ?_
          rw [show (sg_g σ1 88 53) = (sg_g σ 88 53) from by rw [sg_F_g hF3 rfl]]
          refine wk_if tt_213 (tgt := 54) rfl rfl (sg_Rg _ _ _) (fun (h8 : ¬ (sg_g σ 88 53) = 0) => ?_) (fun (h8 : (sg_g σ 88 53) = 0) => ?_)
          ·
            have w := w.1 h8
            refine wk_b tt_213 2 (pc' := 58) (ls' := [(0, .inr (.inr (.ref 88)))]) (st' := [.inl ((sg_g σ1 88 53))]) (σ' := σ1) rfl ?_
            rw [show (sg_g σ1 88 53) = (sg_g σ 88 53) from by rw [sg_F_g hF3 rfl]]
            refine wk_if tt_213 (tgt := 72) rfl rfl (sg_Rg _ _ _) (fun (h9 : (sg_g σ 88 53) = 0) => ?_) (fun (h9 : ¬ (sg_g σ 88 53) = 0) => ?_)
            ·
              have w := w.1 h9
              refine wk_b tt_213 1 (pc' := 73) (ls' := [(0, .inr (.inr (.ref 88)))]) (st' := [.inl (0)]) (σ' := σ1) rfl ?_
              exact wk_rI tt_213 rfl rfl ⟨_, rfl, (by decide), (sg_F_t (sg_F_r [1088] σ) (sg_F_m (L := [1088]) hF3 rfl)), w⟩
            ·
              have w := w.2 h9
              refine wk_b tt_213 2 (pc' := 65) (ls' := [(0, .inr (.inr (.ref 88)))]) (st' := [.inl ((sg_g σ1 88 83))]) (σ' := σ1) rfl ?_
              rw [show (sg_g σ1 88 83) = (sg_g σ 88 83) from by rw [sg_F_g hF3 rfl]]
              refine wk_if tt_213 (tgt := 72) rfl rfl (sg_Rg _ _ _) (fun (h10 : (sg_g σ 88 83) = 0) => ?_) (fun (h10 : ¬ (sg_g σ 88 83) = 0) => ?_)
              ·
                have w := w.1 h10
                refine wk_b tt_213 1 (pc' := 73) (ls' := [(0, .inr (.inr (.ref 88)))]) (st' := [.inl (0)]) (σ' := σ1) rfl ?_
                exact wk_rI tt_213 rfl rfl ⟨_, rfl, (by decide), (sg_F_t (sg_F_r [1088] σ) (sg_F_m (L := [1088]) hF3 rfl)), w⟩
              ·
                have w := w.2 h10
                refine wk_b tt_213 2 (pc' := 73) (ls' := [(0, .inr (.inr (.ref 88)))]) (st' := [.inl (2)]) (σ' := σ1) rfl ?_
                exact wk_rI tt_213 rfl rfl ⟨_, rfl, (by decide), (sg_F_t (sg_F_r [1088] σ) (sg_F_m (L := [1088]) hF3 rfl)), w⟩
          ·
            have w := w.2 h8
            refine wk_b tt_213 2 (pc' := 51) (ls' := [(0, .inr (.inr (.ref 88)))]) (st' := [.inl ((sg_g σ1 88 83))]) (σ' := σ1) rfl ?_
            rw [show (sg_g σ1 88 83) = (sg_g σ 88 83) from by rw [sg_F_g hF3 rfl]]
            refine wk_if tt_213 (tgt := 74) rfl rfl (sg_Rg _ _ _) (fun (h11 : (sg_g σ 88 83) = 0) => ?_) (fun (h11 : ¬ (sg_g σ 88 83) = 0) => ?_)
            ·
              have w := w.1 h11
              refine wk_b tt_213 4 (pc' := 82) (ls' := [(0, .inr (.inr (.ref 88)))]) (st' := [.inl ((sg_g σ1 88 77)), .inl ((sg_g σ1 88 76))]) (σ' := σ1) rfl ?_
              rw [show (sg_g σ1 88 76) = (sg_g σ 88 76) from by rw [sg_F_g hF3 rfl]]
              rw [show (sg_g σ1 88 77) = (sg_g σ 88 77) from by rw [sg_F_g hF3 rfl]]
              have jn13 : ∀ v14 : Int, v14 = (if ¬ (sg_g σ 88 76) = (sg_g σ 88 77) then (0 : Int) else (1 : Int)) → sg_R v14 → wx z 0 213 90 [(0, .inr (.inr (.ref 88)))] [.inl (v14)] σ1 (fun v σ' => ∃ q, v = some (.inl q) ∧ sg_R q ∧ sg_F [1088] σ σ' ∧ Q q σ') := by
                intro v14 e16 r15
                have w := w v14 e16 r15
                refine wk_b tt_213 3 (pc' := 93) (ls' := [(2, .inl (0)), (1, .inl (v14)), (0, .inr (.inr (.ref 88)))]) (st' := []) (σ' := σ1) rfl ?_
                obtain ⟨I21, X23, ⟨μ22, w29⟩, w30, w31⟩ := w
                have ex33 : ∀ (v17 : Int), sg_R v17 → X23 v17 → wx z 0 213 136 [(1, .inl (v17))] [] σ1 (fun v σ' => ∃ q, v = some (.inl q) ∧ sg_R q ∧ sg_F [1088] σ σ' ∧ Q q σ') := by
                  intro v17 r24 w
                  have w := w31 v17 r24 w
                  refine wk_b tt_213 1 (pc' := 137) (ls' := [(1, .inl (v17))]) (st' := [.inl (v17)]) (σ' := σ1) rfl ?_
                  refine wk_if tt_213 (tgt := 144) rfl rfl r24 (fun (h34 : v17 = 0) => ?_) (fun (h34 : ¬ v17 = 0) => ?_)
                  ·
                    have w := w.1 h34
                    refine wk_b tt_213 1 (pc' := 145) (ls' := [(1, .inl (v17))]) (st' := [.inl (0)]) (σ' := σ1) rfl ?_
                    exact wk_rI tt_213 rfl rfl ⟨_, rfl, (by decide), (sg_F_t (sg_F_r [1088] σ) (sg_F_m (L := [1088]) hF3 rfl)), w⟩
                  ·
                    have w := w.2 h34
                    refine wk_b tt_213 2 (pc' := 145) (ls' := [(1, .inl (v17))]) (st' := [.inl (1)]) (σ' := σ1) rfl ?_
                    exact wk_rI tt_213 rfl rfl ⟨_, rfl, (by decide), (sg_F_t (sg_F_r [1088] σ) (sg_F_m (L := [1088]) hF3 rfl)), w⟩
                have lp28 : ∀ (n32 : Nat) (v17 : Int) (v18 : Int), sg_R v17 → sg_R v18 → I21 n32 v17 v18 → wx z 0 213 93 [(0, .inr (.inr (.ref 88))), (1, .inl (v17)), (2, .inl (v18))] [] σ1 (fun v σ' => ∃ q, v = some (.inl q) ∧ sg_R q ∧ sg_F [1088] σ σ' ∧ Q q σ') := by
                  intro n32
                  induction n32 using Nat.strongRecOn with
                  | _ n32 ih26 =>
                    intro v17 v18 r24 r25 w
                    have w := w30 n32 v17 v18 r24 r25 w
                    refine wk_b tt_213 3 (pc' := 98) (ls' := [(0, .inr (.inr (.ref 88))), (1, .inl (v17)), (2, .inl (v18))]) (st' := [.inl ((sg_g σ1 88 76)), .inl (v18)]) (σ' := σ1) rfl ?_
                    rw [show (sg_g σ1 88 76) = (sg_g σ 88 76) from by rw [sg_F_g hF3 rfl]]
                    refine wk_if2 tt_213 (tgt := 136) rfl rfl r25 (sg_Rg _ _ _) (fun (h35 : (sg_g σ 88 76) ≤ v18) => ?_) (fun (h35 : v18 < (sg_g σ 88 76)) => ?_)
                    ·
                      have w := w.1 h35
                      exact wk_ls [(1, .inl (v17))] rfl ⟨rfl, trivial⟩ (ex33 (v17)  r24  w)
                    ·
                      have w := w.2 h35
                      refine wk_b tt_213 1 (pc' := 102) (ls' := [(0, .inr (.inr (.ref 88))), (1, .inl (v17)), (2, .inl (v18))]) (st' := [.inl (v17)]) (σ' := σ1) rfl ?_
                      refine wk_if tt_213 (tgt := 136) rfl rfl r24 (fun (h36 : v17 = 0) => ?_) (fun (h36 : ¬ v17 = 0) => ?_)
                      ·
                        have w := w.1 h36
                        exact wk_ls [(1, .inl (v17))] rfl ⟨rfl, trivial⟩ (ex33 (v17)  r24  w)
                      ·
                        have w := w.2 h36
                        refine wk_b tt_213 3 (pc' := 110) (ls' := [(0, .inr (.inr (.ref 88))), (1, .inl (v17)), (2, .inl (v18))]) (st' := [.inl (v18), .inr (.inr (.ref 136))]) (σ' := σ1) rfl ?_
                        obtain ⟨c37, w⟩ := w
                        refine wk_ia tt_213 rfl rfl c37.1 c37.2 r25 ?_
                        rw [show (sg_g σ1 136 (v18)) = (sg_g σ 136 (v18)) from by rw [sg_F_ga hF3 rfl]]
                        obtain ⟨c38, w⟩ := w
                        refine wk_b tt_213 5 (pc' := 120) (ls' := [(0, .inr (.inr (.ref 88))), (1, .inl (v17)), (2, .inl (v18))]) (st' := [.inl ((80000 + v18)), .inr (.inr (.ref 136)), .inl ((sg_g σ 136 (v18)))]) (σ' := σ1) rfl ?_
                        obtain ⟨c39, w⟩ := w
                        refine wk_ia tt_213 rfl rfl c39.1 c39.2 c38 ?_
                        rw [show (sg_g σ1 136 ((80000 + v18))) = (sg_g σ 136 ((80000 + v18))) from by rw [sg_F_ga hF3 rfl]]
                        have jn41 : ∀ v42 : Int, v42 = (if ¬ (sg_g σ 136 (v18)) = (sg_g σ 136 ((80000 + v18))) then (0 : Int) else (1 : Int)) → sg_R v42 → wx z 0 213 129 [(0, .inr (.inr (.ref 88))), (2, .inl (v18))] [.inl (v42)] σ1 (fun v σ' => ∃ q, v = some (.inl q) ∧ sg_R q ∧ sg_F [1088] σ σ' ∧ Q q σ') := by
                          intro v42 e44 r43
                          have w := w v42 e44 r43
                          obtain ⟨c45, w⟩ := w
                          refine wk_b tt_213 3 (pc' := 93) (ls' := [(2, .inl ((v18 + 1))), (1, .inl (v42)), (0, .inr (.inr (.ref 88)))]) (st' := []) (σ' := σ1) rfl ?_
                          obtain ⟨m46, hm46, w⟩ := w
                          exact wk_ls [(0, .inr (.inr (.ref 88))), (1, .inl (v42)), (2, .inl ((v18 + 1)))] rfl ⟨rfl, rfl, rfl, trivial⟩ (ih26 m46 hm46 (v42) ((v18 + 1))  r43 c45  w)
                        refine wk_if2 tt_213 (tgt := 128) rfl rfl (sg_Rg _ _ _) (sg_Rg _ _ _) (fun (h40 : ¬ (sg_g σ 136 (v18)) = (sg_g σ 136 ((80000 + v18)))) => ?_) (fun (h40 : (sg_g σ 136 (v18)) = (sg_g σ 136 ((80000 + v18)))) => ?_)
                        ·
                          clear w
                          refine wk_b tt_213 1 (pc' := 129) (ls' := [(0, .inr (.inr (.ref 88))), (1, .inl (v17)), (2, .inl (v18))]) (st' := [.inl (0)]) (σ' := σ1) rfl ?_
                          exact wk_ls [(0, .inr (.inr (.ref 88))), (2, .inl (v18))] rfl ⟨rfl, rfl, trivial⟩ (jn41 (0) (by simp only [if_pos h40]) (by decide))
                        ·
                          clear w
                          refine wk_b tt_213 2 (pc' := 129) (ls' := [(0, .inr (.inr (.ref 88))), (1, .inl (v17)), (2, .inl (v18))]) (st' := [.inl (1)]) (σ' := σ1) rfl ?_
                          exact wk_ls [(0, .inr (.inr (.ref 88))), (2, .inl (v18))] rfl ⟨rfl, rfl, trivial⟩ (jn41 (1) (by simp only [if_neg (show ¬ (¬ (sg_g σ 136 (v18)) = (sg_g σ 136 ((80000 + v18)))) by omega)]) (by decide))
                exact wk_ls [(0, .inr (.inr (.ref 88))), (1, .inl (v14)), (2, .inl (0))] rfl ⟨rfl, rfl, rfl, trivial⟩ (lp28 μ22 (v14) (0)  r15 (by decide)  w29)
              refine wk_if2 tt_213 (tgt := 89) rfl rfl (sg_Rg _ _ _) (sg_Rg _ _ _) (fun (h12 : ¬ (sg_g σ 88 76) = (sg_g σ 88 77)) => ?_) (fun (h12 : (sg_g σ 88 76) = (sg_g σ 88 77)) => ?_)
              ·
                clear w
                refine wk_b tt_213 1 (pc' := 90) (ls' := [(0, .inr (.inr (.ref 88)))]) (st' := [.inl (0)]) (σ' := σ1) rfl ?_
                exact wk_ls [(0, .inr (.inr (.ref 88)))] rfl ⟨rfl, trivial⟩ (jn13 (0) (by simp only [if_pos h12]) (by decide))
              ·
                clear w
                refine wk_b tt_213 2 (pc' := 90) (ls' := [(0, .inr (.inr (.ref 88)))]) (st' := [.inl (1)]) (σ' := σ1) rfl ?_
                exact wk_ls [(0, .inr (.inr (.ref 88)))] rfl ⟨rfl, trivial⟩ (jn13 (1) (by simp only [if_neg (show ¬ (¬ (sg_g σ 88 76) = (sg_g σ 88 77)) by omega)]) (by decide))
            ·
              have w := w.2 h11
              refine wk_b tt_213 2 (pc' := 58) (ls' := [(0, .inr (.inr (.ref 88)))]) (st' := [.inl ((sg_g σ1 88 53))]) (σ' := σ1) rfl ?_
              rw [show (sg_g σ1 88 53) = (sg_g σ 88 53) from by rw [sg_F_g hF3 rfl]]
              refine wk_if tt_213 (tgt := 72) rfl rfl (sg_Rg _ _ _) (fun (h47 : (sg_g σ 88 53) = 0) => ?_) (fun (h47 : ¬ (sg_g σ 88 53) = 0) => ?_)
              ·
                have w := w.1 h47
                refine wk_b tt_213 1 (pc' := 73) (ls' := [(0, .inr (.inr (.ref 88)))]) (st' := [.inl (0)]) (σ' := σ1) rfl ?_
                exact wk_rI tt_213 rfl rfl ⟨_, rfl, (by decide), (sg_F_t (sg_F_r [1088] σ) (sg_F_m (L := [1088]) hF3 rfl)), w⟩
              ·
                have w := w.2 h47
                refine wk_b tt_213 2 (pc' := 65) (ls' := [(0, .inr (.inr (.ref 88)))]) (st' := [.inl ((sg_g σ1 88 83))]) (σ' := σ1) rfl ?_
                rw [show (sg_g σ1 88 83) = (sg_g σ 88 83) from by rw [sg_F_g hF3 rfl]]
                refine wk_if tt_213 (tgt := 72) rfl rfl (sg_Rg _ _ _) (fun (h48 : (sg_g σ 88 83) = 0) => ?_) (fun (h48 : ¬ (sg_g σ 88 83) = 0) => ?_)
                ·
                  have w := w.1 h48
                  refine wk_b tt_213 1 (pc' := 73) (ls' := [(0, .inr (.inr (.ref 88)))]) (st' := [.inl (0)]) (σ' := σ1) rfl ?_
                  exact wk_rI tt_213 rfl rfl ⟨_, rfl, (by decide), (sg_F_t (sg_F_r [1088] σ) (sg_F_m (L := [1088]) hF3 rfl)), w⟩
                ·
                  have w := w.2 h48
                  refine wk_b tt_213 2 (pc' := 73) (ls' := [(0, .inr (.inr (.ref 88)))]) (st' := [.inl (2)]) (σ' := σ1) rfl ?_
                  exact wk_rI tt_213 rfl rfl ⟨_, rfl, (by decide), (sg_F_t (sg_F_r [1088] σ) (sg_F_m (L := [1088]) hF3 rfl)), w⟩
        ·
          have w := w.2 h7
          refine wk_b tt_213 1 (pc' := 39) (ls' := [(0, .inr (.inr (.ref 88)))]) (st' := [.inl ((-4))]) (σ' := σ1) rfl ?_
          exact wk_rI tt_213 rfl rfl ⟨_, rfl, (by decide), (sg_F_t (sg_F_r [1088] σ) (sg_F_m (L := [1088]) hF3 rfl)), w⟩
-- NestedVectorsModel.works
def V_works (σ : sg_S) (a1 : Int) (Q : sg_S → Prop) : Prop := (∃ P3 : sg_S → Prop, ((¬ (sg_g σ 88 73) = 0 → P3 σ) ∧ ((sg_g σ 88 73) = 0 → sg_RL ((sg_g σ 88 54) + a1) ∧ ((((sg_g σ 88 54) + a1) ≤ 3000 → P3 σ) ∧ (3000 < ((sg_g σ 88 54) + a1) → ∀ σ19, σ19 = (sg_w σ 88 73 (7)) → P3 σ19)))) ∧ (∀ (σ4 : sg_S), sg_F [74088] σ σ4 → P3 σ4 → ((¬ (sg_g σ4 88 73) = 0 → sg_R ((sg_g σ 88 54) + 0) ∧ ∀ σ9, σ9 = (sg_w σ4 88 54 (((sg_g σ 88 54) + 0))) → Q σ9) ∧ ((sg_g σ4 88 73) = 0 → sg_R (a1) ∧ sg_R ((sg_g σ 88 54) + a1) ∧ ∀ σ14, σ14 = (sg_w σ4 88 54 (((sg_g σ 88 54) + a1))) → Q σ14))))
set_option maxHeartbeats 4000000 in
set_option maxRecDepth 8000 in
theorem w_works (z : Value) (σ : sg_S) (a1 : Int) (Q : sg_S → Prop) (ra1 : sg_RL a1) (w : V_works σ a1 Q) : wx z 0 335 0 [(0, .inr (.inr (.ref 88))), (1, .inr (.inl (a1)))] [] σ (fun v σ' => v = none ∧ sg_F [55088, 74088] σ σ' ∧ Q σ') := by
  unfold V_works at w
  refine wk_b tt_335 2 (pc' := 4) (ls' := [(0, .inr (.inr (.ref 88))), (1, .inr (.inl (a1)))]) (st' := [.inl ((sg_g σ 88 73))]) (σ' := σ) rfl ?_
  obtain ⟨P3, w, w6⟩ := w
  have jn2 : ∀ (σ4 : sg_S), sg_F [74088] σ σ4 → P3 σ4 → wx z 0 335 27 [(0, .inr (.inr (.ref 88))), (1, .inr (.inl (a1)))] [] σ4 (fun v σ' => v = none ∧ sg_F [55088, 74088] σ σ' ∧ Q σ') := by
    intro σ4 hF5 w
    have w := w6 σ4 hF5 w
    refine wk_b tt_335 5 (pc' := 36) (ls' := [(0, .inr (.inr (.ref 88))), (1, .inr (.inl (a1)))]) (st' := [.inl ((sg_g σ4 88 73)), .inl ((sg_g σ4 88 54)), .inr (.inr (.ref 88))]) (σ' := σ4) rfl ?_
    rw [show (sg_g σ4 88 54) = (sg_g σ 88 54) from by rw [sg_F_g hF5 rfl]]
    refine wk_if tt_335 (tgt := 44) rfl rfl (sg_Rg _ _ _) (fun (h7 : ¬ (sg_g σ4 88 73) = 0) => ?_) (fun (h7 : (sg_g σ4 88 73) = 0) => ?_)
    ·
      have w := w.1 h7
      obtain ⟨c8, w⟩ := w
      refine wk_b tt_335 3 (pc' := 49) (ls' := [(0, .inr (.inr (.ref 88))), (1, .inr (.inl (a1)))]) (st' := []) (σ' := (sg_w σ4 88 54 (((sg_g σ 88 54) + 0)))) rfl ?_
      generalize hs10 : (sg_w σ4 88 54 (((sg_g σ 88 54) + 0))) = σ9
      have w := w σ9 hs10.symm
      have hF11 : sg_F [55088] σ4 σ9 := by rw [← hs10]; exact sg_F_w (sg_F_r _ _) rfl _
      exact wk_rV tt_335 rfl rfl ⟨rfl, (sg_F_t (sg_F_t (sg_F_r [55088, 74088] σ) (sg_F_m (L := [55088, 74088]) hF5 rfl)) (sg_F_m (L := [55088, 74088]) hF11 rfl)), w⟩
    ·
      have w := w.2 h7
      obtain ⟨c12, w⟩ := w
      refine wk_b tt_335 2 (pc' := 41) (ls' := [(0, .inr (.inr (.ref 88))), (1, .inr (.inl (a1)))]) (st' := [.inl (a1), .inl ((sg_g σ 88 54)), .inr (.inr (.ref 88))]) (σ' := σ4) rfl ?_
      obtain ⟨c13, w⟩ := w
      refine wk_b tt_335 3 (pc' := 49) (ls' := [(0, .inr (.inr (.ref 88))), (1, .inr (.inl (a1)))]) (st' := []) (σ' := (sg_w σ4 88 54 (((sg_g σ 88 54) + a1)))) rfl ?_
      generalize hs15 : (sg_w σ4 88 54 (((sg_g σ 88 54) + a1))) = σ14
      have w := w σ14 hs15.symm
      have hF16 : sg_F [55088] σ4 σ14 := by rw [← hs15]; exact sg_F_w (sg_F_r _ _) rfl _
      exact wk_rV tt_335 rfl rfl ⟨rfl, (sg_F_t (sg_F_t (sg_F_r [55088, 74088] σ) (sg_F_m (L := [55088, 74088]) hF5 rfl)) (sg_F_m (L := [55088, 74088]) hF16 rfl)), w⟩
  refine wk_if tt_335 (tgt := 27) rfl rfl (sg_Rg _ _ _) (fun (h1 : ¬ (sg_g σ 88 73) = 0) => ?_) (fun (h1 : (sg_g σ 88 73) = 0) => ?_)
  ·
    have w := w.1 h1
    exact wk_ls [(0, .inr (.inr (.ref 88))), (1, .inr (.inl (a1)))] rfl ⟨rfl, rfl, trivial⟩ (jn2 σ (sg_F_r [74088] σ) w)
  ·
    have w := w.2 h1
    obtain ⟨c17, w⟩ := w
    refine wk_b tt_335 6 (pc' := 17) (ls' := [(0, .inr (.inr (.ref 88))), (1, .inr (.inl (a1)))]) (st' := [.inr (.inl (3000)), .inr (.inl (((sg_n ((sg_g σ 88 54))) + a1)))]) (σ' := σ) rfl ?_
    rw [show (sg_n ((sg_g σ 88 54))) = (sg_g σ 88 54) from by rw [sg_id (sg_Rg _ _ _)]]
    refine wk_lcif tt_335 (tgt := 27) rfl rfl rfl c17 (by decide) (fun (h18 : ((sg_g σ 88 54) + a1) ≤ 3000) => ?_) (fun (h18 : 3000 < ((sg_g σ 88 54) + a1)) => ?_)
    ·
      have w := w.1 h18
      exact wk_ls [(0, .inr (.inr (.ref 88))), (1, .inr (.inl (a1)))] rfl ⟨rfl, rfl, trivial⟩ (jn2 σ (sg_F_r [74088] σ) w)
    ·
      have w := w.2 h18
      refine wk_b tt_335 3 (pc' := 27) (ls' := [(0, .inr (.inr (.ref 88))), (1, .inr (.inl (a1)))]) (st' := []) (σ' := (sg_w σ 88 73 (7))) rfl ?_
      generalize hs20 : (sg_w σ 88 73 (7)) = σ19
      have w := w σ19 hs20.symm
      have hF21 : sg_F [74088] σ σ19 := by rw [← hs20]; exact sg_F_w (sg_F_r _ _) rfl _
      exact wk_ls [(0, .inr (.inr (.ref 88))), (1, .inr (.inl (a1)))] rfl ⟨rfl, rfl, trivial⟩ (jn2 σ19 (sg_F_t (sg_F_r [74088] σ) (sg_F_m (L := [74088]) hF21 rfl)) w)
-- NestedVectorsModel.begin
def V_begin (σ : sg_S) (a1 : Int) (Q : sg_S → Prop) : Prop := V_works σ (1) (fun σ2 => sg_F [55088, 74088] σ σ2 → (0 ≤ (sg_g σ 88 62) ∧ (sg_g σ 88 62) < 4000) ∧ ∀ σ8, σ8 = (sg_w σ2 126 ((sg_g σ 88 62)) (a1)) → ∀ σ11, σ11 = (sg_w σ8 127 ((sg_g σ 88 62)) (0)) → ∀ σ14, σ14 = (sg_w σ11 128 ((sg_g σ 88 62)) ((sg_g σ 88 70))) → ∀ σ17, σ17 = (sg_w σ14 129 ((sg_g σ 88 62)) (1)) → ∀ σ20, σ20 = (sg_w σ17 130 ((sg_g σ 88 62)) (0)) → ∀ σ23, σ23 = (sg_w σ20 131 ((sg_g σ 88 62)) (0)) → ∀ σ26, σ26 = (sg_w σ23 132 ((sg_g σ 88 62)) (0)) → sg_R ((sg_g σ 88 62) + 1) ∧ ∀ σ30, σ30 = (sg_w σ26 88 62 (((sg_g σ 88 62) + 1))) → Q σ30)
set_option maxHeartbeats 4000000 in
set_option maxRecDepth 8000 in
theorem w_begin (z : Value) (σ : sg_S) (a1 : Int) (Q : sg_S → Prop) (ra1 : sg_R a1) (w : V_begin σ a1 Q) : wx z 1 214 0 [(0, .inr (.inr (.ref 88))), (1, .inl (a1))] [] σ (fun v σ' => v = none ∧ sg_F [126, 127, 128, 129, 130, 131, 132, 55088, 63088, 74088] σ σ' ∧ Q σ') := by
  unfold V_begin at w
  refine wk_b tt_214 2 (pc' := 2) (ls' := [(0, .inr (.inr (.ref 88))), (1, .inl (a1))]) (st' := [.inr (.inl (1)), .inr (.inr (.ref 88))]) (σ' := σ) rfl ?_
  refine wk_call tt_214 rfl rfl rfl rfl rfl tt_335 rfl (by decide) (w_works z σ (1) _ (by decide) w) (fun u6 σ2 hq4 => ?_)
  obtain ⟨rfl, hF3, w⟩ := hq4
  have w := w hF3
  refine wk_b tt_214 5 (pc' := 14) (ls' := [(0, .inr (.inr (.ref 88))), (1, .inl (a1))]) (st' := [.inl (a1), .inl ((sg_g σ2 88 62)), .inr (.inr (.ref 126))]) (σ' := σ2) rfl ?_
  rw [show (sg_g σ2 88 62) = (sg_g σ 88 62) from by rw [sg_F_g hF3 rfl]]
  obtain ⟨c7, w⟩ := w
  refine wk_is tt_214 rfl rfl c7.1 c7.2 (sg_Rg _ _ _) ?_
  generalize hs9 : (sg_w σ2 126 ((sg_g σ 88 62)) (a1)) = σ8
  have w := w σ8 hs9.symm
  have hF10 : sg_F [126] σ2 σ8 := by rw [← hs9]; exact sg_F_w (sg_F_r _ _) rfl _
  refine wk_b tt_214 5 (pc' := 24) (ls' := [(0, .inr (.inr (.ref 88))), (1, .inl (a1))]) (st' := [.inl (0), .inl ((sg_g σ8 88 62)), .inr (.inr (.ref 127))]) (σ' := σ8) rfl ?_
  rw [show (sg_g σ8 88 62) = (sg_g σ 88 62) from by rw [sg_F_ga hF10 rfl, sg_F_g hF3 rfl]]
  refine wk_is tt_214 rfl rfl c7.1 c7.2 (sg_Rg _ _ _) ?_
  generalize hs12 : (sg_w σ8 127 ((sg_g σ 88 62)) (0)) = σ11
  have w := w σ11 hs12.symm
  have hF13 : sg_F [127] σ8 σ11 := by rw [← hs12]; exact sg_F_w (sg_F_r _ _) rfl _
  refine wk_b tt_214 6 (pc' := 37) (ls' := [(0, .inr (.inr (.ref 88))), (1, .inl (a1))]) (st' := [.inl ((sg_g σ11 88 70)), .inl ((sg_g σ11 88 62)), .inr (.inr (.ref 128))]) (σ' := σ11) rfl ?_
  rw [show (sg_g σ11 88 62) = (sg_g σ 88 62) from by rw [sg_F_ga hF13 rfl, sg_F_ga hF10 rfl, sg_F_g hF3 rfl]]
  rw [show (sg_g σ11 88 70) = (sg_g σ 88 70) from by rw [sg_F_ga hF13 rfl, sg_F_ga hF10 rfl, sg_F_g hF3 rfl]]
  refine wk_is tt_214 rfl rfl c7.1 c7.2 (sg_Rg _ _ _) ?_
  generalize hs15 : (sg_w σ11 128 ((sg_g σ 88 62)) ((sg_g σ 88 70))) = σ14
  have w := w σ14 hs15.symm
  have hF16 : sg_F [128] σ11 σ14 := by rw [← hs15]; exact sg_F_w (sg_F_r _ _) rfl _
  refine wk_b tt_214 5 (pc' := 47) (ls' := [(0, .inr (.inr (.ref 88))), (1, .inl (a1))]) (st' := [.inl (1), .inl ((sg_g σ14 88 62)), .inr (.inr (.ref 129))]) (σ' := σ14) rfl ?_
  rw [show (sg_g σ14 88 62) = (sg_g σ 88 62) from by rw [sg_F_ga hF16 rfl, sg_F_ga hF13 rfl, sg_F_ga hF10 rfl, sg_F_g hF3 rfl]]
  refine wk_is tt_214 rfl rfl c7.1 c7.2 (sg_Rg _ _ _) ?_
  generalize hs18 : (sg_w σ14 129 ((sg_g σ 88 62)) (1)) = σ17
  have w := w σ17 hs18.symm
  have hF19 : sg_F [129] σ14 σ17 := by rw [← hs18]; exact sg_F_w (sg_F_r _ _) rfl _
  refine wk_b tt_214 5 (pc' := 57) (ls' := [(0, .inr (.inr (.ref 88))), (1, .inl (a1))]) (st' := [.inl (0), .inl ((sg_g σ17 88 62)), .inr (.inr (.ref 130))]) (σ' := σ17) rfl ?_
  rw [show (sg_g σ17 88 62) = (sg_g σ 88 62) from by rw [sg_F_ga hF19 rfl, sg_F_ga hF16 rfl, sg_F_ga hF13 rfl, sg_F_ga hF10 rfl, sg_F_g hF3 rfl]]
  refine wk_is tt_214 rfl rfl c7.1 c7.2 (sg_Rg _ _ _) ?_
  generalize hs21 : (sg_w σ17 130 ((sg_g σ 88 62)) (0)) = σ20
  have w := w σ20 hs21.symm
  have hF22 : sg_F [130] σ17 σ20 := by rw [← hs21]; exact sg_F_w (sg_F_r _ _) rfl _
  refine wk_b tt_214 5 (pc' := 67) (ls' := [(0, .inr (.inr (.ref 88))), (1, .inl (a1))]) (st' := [.inl (0), .inl ((sg_g σ20 88 62)), .inr (.inr (.ref 131))]) (σ' := σ20) rfl ?_
  rw [show (sg_g σ20 88 62) = (sg_g σ 88 62) from by rw [sg_F_ga hF22 rfl, sg_F_ga hF19 rfl, sg_F_ga hF16 rfl, sg_F_ga hF13 rfl, sg_F_ga hF10 rfl, sg_F_g hF3 rfl]]
  refine wk_is tt_214 rfl rfl c7.1 c7.2 (sg_Rg _ _ _) ?_
  generalize hs24 : (sg_w σ20 131 ((sg_g σ 88 62)) (0)) = σ23
  have w := w σ23 hs24.symm
  have hF25 : sg_F [131] σ20 σ23 := by rw [← hs24]; exact sg_F_w (sg_F_r _ _) rfl _
  refine wk_b tt_214 5 (pc' := 77) (ls' := [(0, .inr (.inr (.ref 88))), (1, .inl (a1))]) (st' := [.inl (0), .inl ((sg_g σ23 88 62)), .inr (.inr (.ref 132))]) (σ' := σ23) rfl ?_
  rw [show (sg_g σ23 88 62) = (sg_g σ 88 62) from by rw [sg_F_ga hF25 rfl, sg_F_ga hF22 rfl, sg_F_ga hF19 rfl, sg_F_ga hF16 rfl, sg_F_ga hF13 rfl, sg_F_ga hF10 rfl, sg_F_g hF3 rfl]]
  refine wk_is tt_214 rfl rfl c7.1 c7.2 (sg_Rg _ _ _) ?_
  generalize hs27 : (sg_w σ23 132 ((sg_g σ 88 62)) (0)) = σ26
  have w := w σ26 hs27.symm
  have hF28 : sg_F [132] σ23 σ26 := by rw [← hs27]; exact sg_F_w (sg_F_r _ _) rfl _
  obtain ⟨c29, w⟩ := w
  refine wk_b tt_214 6 (pc' := 88) (ls' := [(0, .inr (.inr (.ref 88))), (1, .inl (a1))]) (st' := []) (σ' := (sg_w σ26 88 62 (((sg_g σ26 88 62) + 1)))) rfl ?_
  rw [show (sg_g σ26 88 62) = (sg_g σ 88 62) from by rw [sg_F_ga hF28 rfl, sg_F_ga hF25 rfl, sg_F_ga hF22 rfl, sg_F_ga hF19 rfl, sg_F_ga hF16 rfl, sg_F_ga hF13 rfl, sg_F_ga hF10 rfl, sg_F_g hF3 rfl]]
  generalize hs31 : (sg_w σ26 88 62 (((sg_g σ 88 62) + 1))) = σ30
  have w := w σ30 hs31.symm
  have hF32 : sg_F [63088] σ26 σ30 := by rw [← hs31]; exact sg_F_w (sg_F_r _ _) rfl _
  exact wk_rV tt_214 rfl rfl ⟨rfl, (sg_F_t (sg_F_t (sg_F_t (sg_F_t (sg_F_t (sg_F_t (sg_F_t (sg_F_t (sg_F_t (sg_F_r [126, 127, 128, 129, 130, 131, 132, 55088, 63088, 74088] σ) (sg_F_m (L := [126, 127, 128, 129, 130, 131, 132, 55088, 63088, 74088]) hF3 rfl)) (sg_F_m (L := [126, 127, 128, 129, 130, 131, 132, 55088, 63088, 74088]) hF10 rfl)) (sg_F_m (L := [126, 127, 128, 129, 130, 131, 132, 55088, 63088, 74088]) hF13 rfl)) (sg_F_m (L := [126, 127, 128, 129, 130, 131, 132, 55088, 63088, 74088]) hF16 rfl)) (sg_F_m (L := [126, 127, 128, 129, 130, 131, 132, 55088, 63088, 74088]) hF19 rfl)) (sg_F_m (L := [126, 127, 128, 129, 130, 131, 132, 55088, 63088, 74088]) hF22 rfl)) (sg_F_m (L := [126, 127, 128, 129, 130, 131, 132, 55088, 63088, 74088]) hF25 rfl)) (sg_F_m (L := [126, 127, 128, 129, 130, 131, 132, 55088, 63088, 74088]) hF28 rfl)) (sg_F_m (L := [126, 127, 128, 129, 130, 131, 132, 55088, 63088, 74088]) hF32 rfl)), w⟩
