/-! Conditions of the reference's methods, by program (12). -/
-- NestedVectorsModel.endNested
def V_endNested (σ : sg_S) (a1 : Int) (a2 : Int) (Q : sg_S → Prop) : Prop := (0 ≤ a1 ∧ a1 < 210) ∧ (((sg_g σ 93 (a1)) = 0 → V_endNested_0 σ (a1) Q) ∧ (¬ (sg_g σ 93 (a1)) = 0 → (((sg_g σ 93 (a1)) = 1 → V_endNested_1 σ (a1) Q) ∧ (¬ (sg_g σ 93 (a1)) = 1 → (((sg_g σ 93 (a1)) = 2 → V_endNested_2 σ (a2) Q) ∧ (¬ (sg_g σ 93 (a1)) = 2 → (((sg_g σ 93 (a1)) = 11 → V_endNested_11 σ (a2) Q) ∧ (¬ (sg_g σ 93 (a1)) = 11 → (((sg_g σ 93 (a1)) = 12 → V_endNested_12 σ (a2) Q) ∧ (¬ (sg_g σ 93 (a1)) = 12 → (((sg_g σ 93 (a1)) = 13 → V_endNested_2 σ (a2) Q) ∧ (¬ (sg_g σ 93 (a1)) = 13 → (((sg_g σ 93 (a1)) = 14 → V_endNested_14 σ (a1) (a2) Q) ∧ (¬ (sg_g σ 93 (a1)) = 14 → V_endNested_d σ (a1) (a2) Q))))))))))))))
set_option maxHeartbeats 4000000 in
set_option maxRecDepth 8000 in
theorem w_endNested (z : Value) (σ : sg_S) (a1 : Int) (a2 : Int) (Q : sg_S → Prop) (ra1 : sg_R a1) (ra2 : sg_R a2) (w : V_endNested σ a1 a2 Q) : wx z 4 223 0 [(0, .inr (.inr (.ref 88))), (1, .inl (a1)), (2, .inl (a2))] [] σ (fun v σ' => v = none ∧ sg_F [122, 123, 124, 125, 129, 131, 133, 135, 55088, 56088, 57088, 61088, 63088, 71088, 74088] σ σ' ∧ Q σ') := by
  unfold V_endNested at w
  refine wk_b tt_223 3 (pc' := 5) (ls' := [(0, .inr (.inr (.ref 88))), (1, .inl (a1)), (2, .inl (a2))]) (st' := [.inl (a1), .inr (.inr (.ref 93))]) (σ' := σ) rfl ?_
  obtain ⟨c1, w⟩ := w
  refine wk_ia tt_223 rfl rfl c1.1 c1.2 ra1 ?_
  by_cases e2 : (sg_g σ 93 (a1)) = 0
  · have w := w.1 e2
    refine wk_ts tt_223 (off := 74) (tgt := 80) rfl (sg_Rg _ _ _) (by rw [e2]; decide) rfl ?_
    refine wk_ls [(0, .inr (.inr (.ref 88))), (1, .inl (a1))] rfl ⟨rfl, rfl, trivial⟩ ?_
    exact wk_post (wk_d (by decide) (w_endNested_0 z σ (a1) Q ra1 w)) (fun v σ' ⟨e, hF, hQ⟩ => ⟨e, sg_F_t (sg_F_r [122, 123, 124, 125, 129, 131, 133, 135, 55088, 56088, 57088, 61088, 63088, 71088, 74088] σ) (sg_F_m hF rfl), hQ⟩)
  have w := w.2 e2
  by_cases e4 : (sg_g σ 93 (a1)) = 1
  · have w := w.1 e4
    refine wk_ts tt_223 (off := 85) (tgt := 91) rfl (sg_Rg _ _ _) (by rw [e4]; decide) rfl ?_
    refine wk_ls [(0, .inr (.inr (.ref 88))), (1, .inl (a1))] rfl ⟨rfl, rfl, trivial⟩ ?_
    exact wk_post (wk_d (by decide) (w_endNested_1 z σ (a1) Q ra1 w)) (fun v σ' ⟨e, hF, hQ⟩ => ⟨e, sg_F_t (sg_F_r [122, 123, 124, 125, 129, 131, 133, 135, 55088, 56088, 57088, 61088, 63088, 71088, 74088] σ) (sg_F_m hF rfl), hQ⟩)
  have w := w.2 e4
  by_cases e6 : (sg_g σ 93 (a1)) = 2
  · have w := w.1 e6
    refine wk_ts tt_223 (off := 100) (tgt := 106) rfl (sg_Rg _ _ _) (by rw [e6]; decide) rfl ?_
    refine wk_ls [(0, .inr (.inr (.ref 88))), (2, .inl (a2))] rfl ⟨rfl, rfl, trivial⟩ ?_
    exact wk_post (wk_d (by decide) (w_endNested_2 z σ (a2) Q ra2 w)) (fun v σ' ⟨e, hF, hQ⟩ => ⟨e, sg_F_t (sg_F_r [122, 123, 124, 125, 129, 131, 133, 135, 55088, 56088, 57088, 61088, 63088, 71088, 74088] σ) (sg_F_m hF rfl), hQ⟩)
  have w := w.2 e6
  by_cases e8 : (sg_g σ 93 (a1)) = 11
  · have w := w.1 e8
    refine wk_ts tt_223 (off := 110) (tgt := 116) rfl (sg_Rg _ _ _) (by rw [e8]; decide) rfl ?_
    refine wk_ls [(0, .inr (.inr (.ref 88))), (2, .inl (a2))] rfl ⟨rfl, rfl, trivial⟩ ?_
    exact wk_post (wk_d (by decide) (w_endNested_11 z σ (a2) Q ra2 w)) (fun v σ' ⟨e, hF, hQ⟩ => ⟨e, sg_F_t (sg_F_r [122, 123, 124, 125, 129, 131, 133, 135, 55088, 56088, 57088, 61088, 63088, 71088, 74088] σ) (sg_F_m hF rfl), hQ⟩)
  have w := w.2 e8
  by_cases e10 : (sg_g σ 93 (a1)) = 12
  · have w := w.1 e10
    refine wk_ts tt_223 (off := 125) (tgt := 131) rfl (sg_Rg _ _ _) (by rw [e10]; decide) rfl ?_
    refine wk_ls [(0, .inr (.inr (.ref 88))), (2, .inl (a2))] rfl ⟨rfl, rfl, trivial⟩ ?_
    exact wk_post (wk_d (by decide) (w_endNested_12 z σ (a2) Q ra2 w)) (fun v σ' ⟨e, hF, hQ⟩ => ⟨e, sg_F_t (sg_F_r [122, 123, 124, 125, 129, 131, 133, 135, 55088, 56088, 57088, 61088, 63088, 71088, 74088] σ) (sg_F_m hF rfl), hQ⟩)
  have w := w.2 e10
  by_cases e12 : (sg_g σ 93 (a1)) = 13
  · have w := w.1 e12
    refine wk_ts tt_223 (off := 100) (tgt := 106) rfl (sg_Rg _ _ _) (by rw [e12]; decide) rfl ?_
    refine wk_ls [(0, .inr (.inr (.ref 88))), (2, .inl (a2))] rfl ⟨rfl, rfl, trivial⟩ ?_
    exact wk_post (wk_d (by decide) (w_endNested_2 z σ (a2) Q ra2 w)) (fun v σ' ⟨e, hF, hQ⟩ => ⟨e, sg_F_t (sg_F_r [122, 123, 124, 125, 129, 131, 133, 135, 55088, 56088, 57088, 61088, 63088, 71088, 74088] σ) (sg_F_m hF rfl), hQ⟩)
  have w := w.2 e12
  by_cases e14 : (sg_g σ 93 (a1)) = 14
  · have w := w.1 e14
    refine wk_ts tt_223 (off := 183) (tgt := 189) rfl (sg_Rg _ _ _) (by rw [e14]; decide) rfl ?_
    refine wk_ls [(0, .inr (.inr (.ref 88))), (1, .inl (a1)), (2, .inl (a2))] rfl ⟨rfl, rfl, rfl, trivial⟩ ?_
    exact wk_post (wk_d (by decide) (w_endNested_14 z σ (a1) (a2) Q ra1 ra2 w)) (fun v σ' ⟨e, hF, hQ⟩ => ⟨e, sg_F_t (sg_F_r [122, 123, 124, 125, 129, 131, 133, 135, 55088, 56088, 57088, 61088, 63088, 71088, 74088] σ) (sg_F_m hF rfl), hQ⟩)
  have w := w.2 e14
  refine wk_ts tt_223 (off := 244) (tgt := 250) rfl (sg_Rg _ _ _) (by rcases sw_lo ((sg_g σ 93 (a1))) 0 with h | h; (unfold bm_swt; rw [if_pos (Or.inl h)]); by_cases g3 : (sg_g σ 93 (a1)) = 3; (rw [g3]; decide); by_cases g4 : (sg_g σ 93 (a1)) = 4; (rw [g4]; decide); by_cases g5 : (sg_g σ 93 (a1)) = 5; (rw [g5]; decide); by_cases g6 : (sg_g σ 93 (a1)) = 6; (rw [g6]; decide); by_cases g7 : (sg_g σ 93 (a1)) = 7; (rw [g7]; decide); by_cases g8 : (sg_g σ 93 (a1)) = 8; (rw [g8]; decide); by_cases g9 : (sg_g σ 93 (a1)) = 9; (rw [g9]; decide); by_cases g10 : (sg_g σ 93 (a1)) = 10; (rw [g10]; decide); (unfold bm_swt; rw [if_pos (Or.inr (Int.lt_of_add_one_le (sw_st (k := 14) (sw_st (k := 13) (sw_st (k := 12) (sw_st (k := 11) (sw_st (k := 10) (sw_st (k := 9) (sw_st (k := 8) (sw_st (k := 7) (sw_st (k := 6) (sw_st (k := 5) (sw_st (k := 4) (sw_st (k := 3) (sw_st (k := 2) (sw_st (k := 1) (sw_st (k := 0) h e2) e4) e6) g3) g4) g5) g6) g7) g8) g9) g10) e8) e10) e12) e14)))])) rfl ?_
  refine wk_ls [(0, .inr (.inr (.ref 88))), (1, .inl (a1)), (2, .inl (a2))] rfl ⟨rfl, rfl, rfl, trivial⟩ ?_
  exact wk_post (wk_d (by decide) (w_endNested_d z σ (a1) (a2) Q ra1 ra2 w)) (fun v σ' ⟨e, hF, hQ⟩ => ⟨e, sg_F_t (sg_F_r [122, 123, 124, 125, 129, 131, 133, 135, 55088, 56088, 57088, 61088, 63088, 71088, 74088] σ) (sg_F_m hF rfl), hQ⟩)
-- NestedVectorsModel.wrong
def V_wrong (σ : sg_S) (a1 : Int) (a2 : Int) (Q : sg_S → Prop) : Prop := ((¬ (sg_g σ 88 29) = 0 → Q σ) ∧ ((sg_g σ 88 29) = 0 → ∀ σ2, σ2 = (sg_w σ 88 29 (a1)) → ∀ σ5, σ5 = (sg_w σ2 88 30 (a2)) → Q σ5))
set_option maxHeartbeats 4000000 in
set_option maxRecDepth 8000 in
theorem w_wrong (z : Value) (σ : sg_S) (a1 : Int) (a2 : Int) (Q : sg_S → Prop) (ra1 : sg_R a1) (ra2 : sg_R a2) (w : V_wrong σ a1 a2 Q) : wx z 0 336 0 [(0, .inr (.inr (.ref 88))), (1, .inl (a1)), (2, .inl (a2))] [] σ (fun v σ' => v = none ∧ sg_F [30088, 31088] σ σ' ∧ Q σ') := by
  unfold V_wrong at w
  refine wk_b tt_336 2 (pc' := 4) (ls' := [(0, .inr (.inr (.ref 88))), (1, .inl (a1)), (2, .inl (a2))]) (st' := [.inl ((sg_g σ 88 29))]) (σ' := σ) rfl ?_
  refine wk_if tt_336 (tgt := 17) rfl rfl (sg_Rg _ _ _) (fun (h1 : ¬ (sg_g σ 88 29) = 0) => ?_) (fun (h1 : (sg_g σ 88 29) = 0) => ?_)
  ·
    have w := w.1 h1
    exact wk_rV tt_336 rfl rfl ⟨rfl, (sg_F_r [30088, 31088] σ), w⟩
  ·
    have w := w.2 h1
    refine wk_b tt_336 3 (pc' := 12) (ls' := [(0, .inr (.inr (.ref 88))), (1, .inl (a1)), (2, .inl (a2))]) (st' := []) (σ' := (sg_w σ 88 29 (a1))) rfl ?_
    generalize hs3 : (sg_w σ 88 29 (a1)) = σ2
    have w := w σ2 hs3.symm
    have hF4 : sg_F [30088] σ σ2 := by rw [← hs3]; exact sg_F_w (sg_F_r _ _) rfl _
    refine wk_b tt_336 3 (pc' := 17) (ls' := [(0, .inr (.inr (.ref 88))), (1, .inl (a1)), (2, .inl (a2))]) (st' := []) (σ' := (sg_w σ2 88 30 (a2))) rfl ?_
    generalize hs6 : (sg_w σ2 88 30 (a2)) = σ5
    have w := w σ5 hs6.symm
    have hF7 : sg_F [31088] σ2 σ5 := by rw [← hs6]; exact sg_F_w (sg_F_r _ _) rfl _
    exact wk_rV tt_336 rfl rfl ⟨rfl, (sg_F_t (sg_F_t (sg_F_r [30088, 31088] σ) (sg_F_m (L := [30088, 31088]) hF4 rfl)) (sg_F_m (L := [30088, 31088]) hF7 rfl)), w⟩
-- NestedVectorsModel.enter
def V_enter (σ : sg_S) (Q : sg_S → Prop) : Prop := sg_R ((sg_g σ 88 36) + 1) ∧ ∀ σ2, σ2 = (sg_w σ 88 36 (((sg_g σ 88 36) + 1))) → ((((sg_g σ 88 36) + 1) ≤ 12 → Q σ2) ∧ (12 < ((sg_g σ 88 36) + 1) → (0 ≤ (sg_g σ 88 7) ∧ (sg_g σ 88 7) < 1210) ∧ V_wrong σ2 (1) ((sg_g σ 91 ((sg_g σ 88 7)))) (fun σ8 => sg_F [30088, 31088] σ2 σ8 → Q σ8)))
set_option maxHeartbeats 4000000 in
set_option maxRecDepth 8000 in
theorem w_enter (z : Value) (σ : sg_S) (Q : sg_S → Prop)  (w : V_enter σ  Q) : wx z 1 225 0 [(0, .inr (.inr (.ref 88)))] [] σ (fun v σ' => v = none ∧ sg_F [30088, 31088, 37088] σ σ' ∧ Q σ') := by
  unfold V_enter at w
  obtain ⟨c1, w⟩ := w
  refine wk_b tt_225 6 (pc' := 10) (ls' := [(0, .inr (.inr (.ref 88)))]) (st' := []) (σ' := (sg_w σ 88 36 (((sg_g σ 88 36) + 1)))) rfl ?_
  generalize hs3 : (sg_w σ 88 36 (((sg_g σ 88 36) + 1))) = σ2
  have w := w σ2 hs3.symm
  have hF4 : sg_F [37088] σ σ2 := by rw [← hs3]; exact sg_F_w (sg_F_r _ _) rfl _
  refine wk_b tt_225 3 (pc' := 16) (ls' := [(0, .inr (.inr (.ref 88)))]) (st' := [.inl (12), .inl ((sg_g σ2 88 36))]) (σ' := σ2) rfl ?_
  rw [show (sg_g σ2 88 36) = ((sg_g σ 88 36) + 1) from by rw [(show sg_g σ2 88 36 = ((sg_g σ 88 36) + 1) from by rw [← hs3]; exact sg_gw_e _ _ _ _ c1)]]
  refine wk_if2 tt_225 (tgt := 33) rfl rfl c1 (by decide) (fun (h5 : ((sg_g σ 88 36) + 1) ≤ 12) => ?_) (fun (h5 : 12 < ((sg_g σ 88 36) + 1)) => ?_)
  ·
    have w := w.1 h5
    exact wk_rV tt_225 rfl rfl ⟨rfl, (sg_F_t (sg_F_r [30088, 31088, 37088] σ) (sg_F_m (L := [30088, 31088, 37088]) hF4 rfl)), w⟩
  ·
    have w := w.2 h5
    refine wk_b tt_225 6 (pc' := 29) (ls' := [(0, .inr (.inr (.ref 88)))]) (st' := [.inl ((sg_g σ2 88 7)), .inr (.inr (.ref 91)), .inl (1), .inr (.inr (.ref 88))]) (σ' := σ2) rfl ?_
    rw [show (sg_g σ2 88 7) = (sg_g σ 88 7) from by rw [sg_F_g hF4 rfl]]
    obtain ⟨c6, w⟩ := w
    refine wk_ia tt_225 rfl rfl c6.1 c6.2 (sg_Rg _ _ _) ?_
    rw [show (sg_g σ2 91 ((sg_g σ 88 7))) = (sg_g σ 91 ((sg_g σ 88 7))) from by rw [sg_F_ga hF4 rfl]]
    refine wk_call tt_225 rfl rfl rfl rfl rfl tt_336 rfl (by decide) (w_wrong z σ2 (1) ((sg_g σ 91 ((sg_g σ 88 7)))) _ (by decide) (sg_Rg _ _ _) w) (fun u12 σ8 hq10 => ?_)
    obtain ⟨rfl, hF9, w⟩ := hq10
    have w := w hF9
    exact wk_rV tt_225 rfl rfl ⟨rfl, (sg_F_t (sg_F_t (sg_F_r [30088, 31088, 37088] σ) (sg_F_m (L := [30088, 31088, 37088]) hF4 rfl)) (sg_F_m (L := [30088, 31088, 37088]) hF9 rfl)), w⟩
-- NestedVectorsModel.extentOf
def V_extentOf (σ : sg_S) (a1 : Int) (Q : Int → sg_S → Prop) : Prop := (∃ (I5 : Nat → Int → Int → Prop) (X7 : Int → Prop), (∃ n, I5 n (0) (0)) ∧ (∀ (n16 : Nat) (v1 : Int) (v2 : Int), sg_R v1 → sg_R v2 → I5 n16 v1 v2 → (0 ≤ a1 ∧ a1 < 30000) ∧ (((sg_g σ 139 (a1)) < v2 → X7 (v1)) ∧ (v2 ≤ (sg_g σ 139 (a1)) → sg_R (4 * a1) ∧ sg_R ((4 * a1) + v2) ∧ (0 ≤ ((4 * a1) + v2) ∧ ((4 * a1) + v2) < 120000) ∧ sg_R (v1 + (sg_g σ 141 (((4 * a1) + v2)))) ∧ sg_R (v2 + 1) ∧ (∃ m, m < n16 ∧ I5 m ((v1 + (sg_g σ 141 (((4 * a1) + v2))))) ((v2 + 1)))))) ∧ (∀ (v1 : Int), sg_R v1 → X7 v1 → Q (v1) σ))
set_option maxHeartbeats 4000000 in
set_option maxRecDepth 8000 in
theorem w_extentOf (z : Value) (σ : sg_S) (a1 : Int) (Q : Int → sg_S → Prop) (ra1 : sg_R a1) (w : V_extentOf σ a1 Q) : wx z 0 226 0 [(0, .inr (.inr (.ref 88))), (1, .inl (a1))] [] σ (fun v σ' => ∃ q, v = some (.inl q) ∧ sg_R q ∧ σ = σ' ∧ Q q σ') := by
  unfold V_extentOf at w
  refine wk_b tt_226 4 (pc' := 4) (ls' := [(3, .inl (0)), (2, .inl (0)), (0, .inr (.inr (.ref 88))), (1, .inl (a1))]) (st' := []) (σ' := σ) rfl ?_
  obtain ⟨I5, X7, ⟨μ6, w13⟩, w14, w15⟩ := w
  have ex17 : ∀ (v1 : Int), sg_R v1 → X7 v1 → wx z 0 226 33 [(2, .inl (v1))] [] σ (fun v σ' => ∃ q, v = some (.inl q) ∧ sg_R q ∧ σ = σ' ∧ Q q σ') := by
    intro v1 r8 w
    have w := w15 v1 r8 w
    refine wk_b tt_226 1 (pc' := 34) (ls' := [(2, .inl (v1))]) (st' := [.inl (v1)]) (σ' := σ) rfl ?_
    exact wk_rI tt_226 rfl rfl ⟨_, rfl, r8, rfl, w⟩
  have lp12 : ∀ (n16 : Nat) (v1 : Int) (v2 : Int), sg_R v1 → sg_R v2 → I5 n16 v1 v2 → wx z 0 226 4 [(0, .inr (.inr (.ref 88))), (1, .inl (a1)), (2, .inl (v1)), (3, .inl (v2))] [] σ (fun v σ' => ∃ q, v = some (.inl q) ∧ sg_R q ∧ σ = σ' ∧ Q q σ') := by
    intro n16
    induction n16 using Nat.strongRecOn with
    | _ n16 ih10 =>
      intro v1 v2 r8 r9 w
      have w := w14 n16 v1 v2 r8 r9 w
      refine wk_b tt_226 4 (pc' := 10) (ls' := [(0, .inr (.inr (.ref 88))), (1, .inl (a1)), (2, .inl (v1)), (3, .inl (v2))]) (st' := [.inl (a1), .inr (.inr (.ref 139)), .inl (v2)]) (σ' := σ) rfl ?_
      obtain ⟨c18, w⟩ := w
      refine wk_ia tt_226 rfl rfl c18.1 c18.2 ra1 ?_
      refine wk_if2 tt_226 (tgt := 33) rfl rfl r9 (sg_Rg _ _ _) (fun (h19 : (sg_g σ 139 (a1)) < v2) => ?_) (fun (h19 : v2 ≤ (sg_g σ 139 (a1))) => ?_)
      ·
        have w := w.1 h19
        exact wk_ls [(2, .inl (v1))] rfl ⟨rfl, trivial⟩ (ex17 (v1)  r8  w)
      ·
        have w := w.2 h19
        obtain ⟨c20, w⟩ := w
        obtain ⟨c21, w⟩ := w
        refine wk_b tt_226 8 (pc' := 24) (ls' := [(0, .inr (.inr (.ref 88))), (1, .inl (a1)), (2, .inl (v1)), (3, .inl (v2))]) (st' := [.inl (((4 * a1) + v2)), .inr (.inr (.ref 141)), .inl (v1)]) (σ' := σ) rfl ?_
        obtain ⟨c22, w⟩ := w
        refine wk_ia tt_226 rfl rfl c22.1 c22.2 c21 ?_
        obtain ⟨c23, w⟩ := w
        obtain ⟨c24, w⟩ := w
        refine wk_b tt_226 4 (pc' := 4) (ls' := [(3, .inl ((v2 + 1))), (2, .inl ((v1 + (sg_g σ 141 (((4 * a1) + v2)))))), (0, .inr (.inr (.ref 88))), (1, .inl (a1))]) (st' := []) (σ' := σ) rfl ?_
        obtain ⟨m25, hm25, w⟩ := w
        exact wk_ls [(0, .inr (.inr (.ref 88))), (1, .inl (a1)), (2, .inl ((v1 + (sg_g σ 141 (((4 * a1) + v2)))))), (3, .inl ((v2 + 1)))] rfl ⟨rfl, rfl, rfl, rfl, trivial⟩ (ih10 m25 hm25 ((v1 + (sg_g σ 141 (((4 * a1) + v2))))) ((v2 + 1))  c23 c24  w)
  exact wk_ls [(0, .inr (.inr (.ref 88))), (1, .inl (a1)), (2, .inl (0)), (3, .inl (0))] rfl ⟨rfl, rfl, rfl, rfl, trivial⟩ (lp12 μ6 (0) (0)  (by decide) (by decide)  w13)
-- NestedVectorsModel.fault
def V_fault (σ : sg_S) (Q : Int → sg_S → Prop) : Prop := ∀ σ1, σ1 = (sg_w σ 88 0 (0)) → Q ((sg_g σ 88 29)) σ1
set_option maxHeartbeats 4000000 in
set_option maxRecDepth 8000 in
theorem w_fault (z : Value) (σ : sg_S) (Q : Int → sg_S → Prop)  (w : V_fault σ  Q) : wx z 0 228 0 [(0, .inr (.inr (.ref 88)))] [] σ (fun v σ' => ∃ q, v = some (.inl q) ∧ sg_R q ∧ sg_F [1088] σ σ' ∧ Q q σ') := by
  unfold V_fault at w
  refine wk_b tt_228 3 (pc' := 5) (ls' := [(0, .inr (.inr (.ref 88)))]) (st' := []) (σ' := (sg_w σ 88 0 (0))) rfl ?_
  generalize hs2 : (sg_w σ 88 0 (0)) = σ1
  have w := w σ1 hs2.symm
  have hF3 : sg_F [1088] σ σ1 := by rw [← hs2]; exact sg_F_w (sg_F_r _ _) rfl _
  refine wk_b tt_228 2 (pc' := 9) (ls' := [(0, .inr (.inr (.ref 88)))]) (st' := [.inl ((sg_g σ1 88 29))]) (σ' := σ1) rfl ?_
  rw [show (sg_g σ1 88 29) = (sg_g σ 88 29) from by rw [sg_F_g hF3 rfl]]
  exact wk_rI tt_228 rfl rfl ⟨_, rfl, (sg_Rg _ _ _), (sg_F_t (sg_F_r [1088] σ) (sg_F_m (L := [1088]) hF3 rfl)), w⟩
-- NestedVectorsModel.feed
def V_feed (σ : sg_S) (a1 : Int) (Q : Int → sg_S → Prop) : Prop := ∀ σ1, σ1 = (sg_w σ 88 0 (0)) → (∃ (I7 : Nat → Int → Prop) (X9 : Int → Prop), (∃ n, I7 n (0)) ∧ (∀ (n17 : Nat) (v4 : Int), sg_R v4 → I7 n17 v4 → ((8 ≤ v4 → X9 (v4)) ∧ (v4 < 8 → sg_R (8 * v4) ∧ ((((sg_l (((sg_l (a1) >>> ((sg_i ((8 * v4))).toInt64 &&& 63)).toInt)) &&& sg_l (255)).toInt) = 0 → X9 (v4)) ∧ (¬ ((sg_l (((sg_l (a1) >>> ((sg_i ((8 * v4))).toInt64 &&& 63)).toInt)) &&& sg_l (255)).toInt) = 0 → sg_R (v4 + 1) ∧ (∃ m, m < n17 ∧ I7 m ((v4 + 1)))))))) ∧ (∀ (v4 : Int), sg_R v4 → X9 v4 → sg_R ((sg_g σ 88 2) + v4) ∧ ((((sg_g σ 88 2) + v4) ≤ 1200 → (∃ (I24 : Nat → Int → sg_S → Prop) (X26 : sg_S → Prop), (∃ n, I24 n (0) σ1) ∧ (∀ (n34 : Nat) (v21 : Int) (σ22 : sg_S), sg_R v21 → sg_F [89] σ1 σ22 → I24 n34 v21 σ22 → ((v4 ≤ v21 → X26 σ22) ∧ (v21 < v4 → sg_R ((sg_g σ 88 2) + v21) ∧ sg_R (8 * v21) ∧ sg_R (((sg_l (((sg_l (a1) >>> ((sg_i ((8 * v21))).toInt64 &&& 63)).toInt)) &&& sg_l (255)).toInt)) ∧ (0 ≤ ((sg_g σ 88 2) + v21) ∧ ((sg_g σ 88 2) + v21) < 1200) ∧ ∀ σ44, σ44 = (sg_w σ22 89 (((sg_g σ 88 2) + v21)) (((sg_l (((sg_l (a1) >>> ((sg_i ((8 * v21))).toInt64 &&& 63)).toInt)) &&& sg_l (255)).toInt))) → sg_R (v21 + 1) ∧ (∃ m, m < n34 ∧ I24 m ((v21 + 1)) σ44)))) ∧ (∀ (σ22 : sg_S), sg_F [89] σ1 σ22 → X26 σ22 → ∀ σ36, σ36 = (sg_w σ22 88 2 (((sg_g σ 88 2) + v4))) → Q (((sg_g σ 88 2) + v4)) σ36))) ∧ (1200 < ((sg_g σ 88 2) + v4) → Q ((-3)) σ1))))
set_option maxHeartbeats 4000000 in
set_option maxRecDepth 8000 in
theorem w_feed (z : Value) (σ : sg_S) (a1 : Int) (Q : Int → sg_S → Prop) (ra1 : sg_RL a1) (w : V_feed σ a1 Q) : wx z 0 229 0 [(0, .inr (.inr (.ref 88))), (1, .inr (.inl (a1)))] [] σ (fun v σ' => ∃ q, v = some (.inl q) ∧ sg_R q ∧ sg_F [89, 1088, 3088] σ σ' ∧ Q q σ') := by
  unfold V_feed at w
  refine wk_b tt_229 3 (pc' := 5) (ls' := [(0, .inr (.inr (.ref 88))), (1, .inr (.inl (a1)))]) (st' := []) (σ' := (sg_w σ 88 0 (0))) rfl ?_
  generalize hs2 : (sg_w σ 88 0 (0)) = σ1
  have w := w σ1 hs2.symm
  have hF3 : sg_F [1088] σ σ1 := by rw [← hs2]; exact sg_F_w (sg_F_r _ _) rfl _
  refine wk_b tt_229 2 (pc' := 7) (ls' := [(3, .inl (0)), (0, .inr (.inr (.ref 88))), (1, .inr (.inl (a1)))]) (st' := []) (σ' := σ1) rfl ?_
  obtain ⟨I7, X9, ⟨μ8, w14⟩, w15, w16⟩ := w
  have ex18 : ∀ (v4 : Int), sg_R v4 → X9 v4 → wx z 0 229 34 [(0, .inr (.inr (.ref 88))), (1, .inr (.inl (a1))), (3, .inl (v4))] [] σ1 (fun v σ' => ∃ q, v = some (.inl q) ∧ sg_R q ∧ sg_F [89, 1088, 3088] σ σ' ∧ Q q σ') := by
    intro v4 r10 w
    have w := w16 v4 r10 w
    obtain ⟨c19, w⟩ := w
    refine wk_b tt_229 5 (pc' := 43) (ls' := [(0, .inr (.inr (.ref 88))), (1, .inr (.inl (a1))), (3, .inl (v4))]) (st' := [.inl (1200), .inl (((sg_g σ1 88 2) + v4))]) (σ' := σ1) rfl ?_
    rw [show (sg_g σ1 88 2) = (sg_g σ 88 2) from by rw [sg_F_g hF3 rfl]]
    refine wk_if2 tt_229 (tgt := 49) rfl rfl c19 (by decide) (fun (h20 : ((sg_g σ 88 2) + v4) ≤ 1200) => ?_) (fun (h20 : 1200 < ((sg_g σ 88 2) + v4)) => ?_)
    ·
      have w := w.1 h20
      refine wk_b tt_229 2 (pc' := 52) (ls' := [(4, .inl (0)), (0, .inr (.inr (.ref 88))), (1, .inr (.inl (a1))), (3, .inl (v4))]) (st' := []) (σ' := σ1) rfl ?_
      obtain ⟨I24, X26, ⟨μ25, w31⟩, w32, w33⟩ := w
      have ex35 : ∀ (σ22 : sg_S), sg_F [89] σ1 σ22 → X26 σ22 → wx z 0 229 88 [(0, .inr (.inr (.ref 88))), (3, .inl (v4))] [] σ22 (fun v σ' => ∃ q, v = some (.inl q) ∧ sg_R q ∧ sg_F [89, 1088, 3088] σ σ' ∧ Q q σ') := by
        intro σ22 hF23 w
        have w := w33 σ22 hF23 w
        refine wk_b tt_229 6 (pc' := 98) (ls' := [(0, .inr (.inr (.ref 88))), (3, .inl (v4))]) (st' := []) (σ' := (sg_w σ22 88 2 (((sg_g σ22 88 2) + v4)))) rfl ?_
        rw [show (sg_g σ22 88 2) = (sg_g σ 88 2) from by rw [sg_F_ga hF23 rfl, sg_F_g hF3 rfl]]
        generalize hs37 : (sg_w σ22 88 2 (((sg_g σ 88 2) + v4))) = σ36
        have w := w σ36 hs37.symm
        have hF38 : sg_F [3088] σ22 σ36 := by rw [← hs37]; exact sg_F_w (sg_F_r _ _) rfl _
        refine wk_b tt_229 2 (pc' := 102) (ls' := [(0, .inr (.inr (.ref 88))), (3, .inl (v4))]) (st' := [.inl ((sg_g σ36 88 2))]) (σ' := σ36) rfl ?_
        rw [show (sg_g σ36 88 2) = ((sg_g σ 88 2) + v4) from by rw [(show sg_g σ36 88 2 = ((sg_g σ 88 2) + v4) from by rw [← hs37]; exact sg_gw_e _ _ _ _ c19)]]
        exact wk_rI tt_229 rfl rfl ⟨_, rfl, c19, (sg_F_t (sg_F_t (sg_F_t (sg_F_r [89, 1088, 3088] σ) (sg_F_m (L := [89, 1088, 3088]) hF3 rfl)) (sg_F_m (L := [89, 1088, 3088]) hF23 rfl)) (sg_F_m (L := [89, 1088, 3088]) hF38 rfl)), w⟩
      have lp30 : ∀ (n34 : Nat) (v21 : Int) (σ22 : sg_S), sg_R v21 → sg_F [89] σ1 σ22 → I24 n34 v21 σ22 → wx z 0 229 52 [(0, .inr (.inr (.ref 88))), (1, .inr (.inl (a1))), (3, .inl (v4)), (4, .inl (v21))] [] σ22 (fun v σ' => ∃ q, v = some (.inl q) ∧ sg_R q ∧ sg_F [89, 1088, 3088] σ σ' ∧ Q q σ') := by
        intro n34
        induction n34 using Nat.strongRecOn with
        | _ n34 ih28 =>
          intro v21 σ22 r27 hF23 w
          have w := w32 n34 v21 σ22 r27 hF23 w
          refine wk_b tt_229 2 (pc' := 55) (ls' := [(0, .inr (.inr (.ref 88))), (1, .inr (.inl (a1))), (3, .inl (v4)), (4, .inl (v21))]) (st' := [.inl (v4), .inl (v21)]) (σ' := σ22) rfl ?_
          refine wk_if2 tt_229 (tgt := 88) rfl rfl r27 r10 (fun (h39 : v4 ≤ v21) => ?_) (fun (h39 : v21 < v4) => ?_)
          ·
            have w := w.1 h39
            exact wk_ls [(0, .inr (.inr (.ref 88))), (3, .inl (v4))] rfl ⟨rfl, rfl, trivial⟩ (ex35  σ22  (sg_F_t (sg_F_r [89] σ1) (sg_F_m (L := [89]) hF23 rfl)) w)
          ·
            have w := w.2 h39
            obtain ⟨c40, w⟩ := w
            obtain ⟨c41, w⟩ := w
            obtain ⟨c42, w⟩ := w
            refine wk_b tt_229 14 (pc' := 81) (ls' := [(0, .inr (.inr (.ref 88))), (1, .inr (.inl (a1))), (3, .inl (v4)), (4, .inl (v21))]) (st' := [.inl (((sg_l (((sg_l (a1) >>> ((sg_i ((8 * v21))).toInt64 &&& 63)).toInt)) &&& sg_l (255)).toInt)), .inl (((sg_g σ22 88 2) + v21)), .inr (.inr (.ref 89))]) (σ' := σ22) rfl ?_
            rw [show (sg_g σ22 88 2) = (sg_g σ 88 2) from by rw [sg_F_ga hF23 rfl, sg_F_g hF3 rfl]]
            obtain ⟨c43, w⟩ := w
            refine wk_is tt_229 rfl rfl c43.1 c43.2 c40 ?_
            generalize hs45 : (sg_w σ22 89 (((sg_g σ 88 2) + v21)) (((sg_l (((sg_l (a1) >>> ((sg_i ((8 * v21))).toInt64 &&& 63)).toInt)) &&& sg_l (255)).toInt))) = σ44
            have w := w σ44 hs45.symm
            have hF46 : sg_F [89] σ22 σ44 := by rw [← hs45]; exact sg_F_w (sg_F_r _ _) rfl _
            obtain ⟨c47, w⟩ := w
            refine wk_b tt_229 2 (pc' := 52) (ls' := [(4, .inl ((v21 + 1))), (0, .inr (.inr (.ref 88))), (1, .inr (.inl (a1))), (3, .inl (v4))]) (st' := []) (σ' := σ44) rfl ?_
            obtain ⟨m48, hm48, w⟩ := w
            exact wk_ls [(0, .inr (.inr (.ref 88))), (1, .inr (.inl (a1))), (3, .inl (v4)), (4, .inl ((v21 + 1)))] rfl ⟨rfl, rfl, rfl, rfl, trivial⟩ (ih28 m48 hm48 ((v21 + 1)) σ44 c47 (sg_F_t (sg_F_t (sg_F_r [89] σ1) (sg_F_m (L := [89]) hF23 rfl)) (sg_F_m (L := [89]) hF46 rfl)) w)
      exact wk_ls [(0, .inr (.inr (.ref 88))), (1, .inr (.inl (a1))), (3, .inl (v4)), (4, .inl (0))] rfl ⟨rfl, rfl, rfl, rfl, trivial⟩ (lp30 μ25 (0) σ1 (by decide) (sg_F_r _ _) w31)
    ·
      have w := w.2 h20
      refine wk_b tt_229 1 (pc' := 48) (ls' := [(0, .inr (.inr (.ref 88))), (1, .inr (.inl (a1))), (3, .inl (v4))]) (st' := [.inl ((-3))]) (σ' := σ1) rfl ?_
      exact wk_rI tt_229 rfl rfl ⟨_, rfl, (by decide), (sg_F_t (sg_F_r [89, 1088, 3088] σ) (sg_F_m (L := [89, 1088, 3088]) hF3 rfl)), w⟩
  have lp13 : ∀ (n17 : Nat) (v4 : Int), sg_R v4 → I7 n17 v4 → wx z 0 229 7 [(0, .inr (.inr (.ref 88))), (1, .inr (.inl (a1))), (3, .inl (v4))] [] σ1 (fun v σ' => ∃ q, v = some (.inl q) ∧ sg_R q ∧ sg_F [89, 1088, 3088] σ σ' ∧ Q q σ') := by
    intro n17
    induction n17 using Nat.strongRecOn with
    | _ n17 ih11 =>
      intro v4 r10 w
      have w := w15 n17 v4 r10 w
      refine wk_b tt_229 2 (pc' := 10) (ls' := [(0, .inr (.inr (.ref 88))), (1, .inr (.inl (a1))), (3, .inl (v4))]) (st' := [.inl (8), .inl (v4)]) (σ' := σ1) rfl ?_
      refine wk_if2 tt_229 (tgt := 34) rfl rfl r10 (by decide) (fun (h49 : 8 ≤ v4) => ?_) (fun (h49 : v4 < 8) => ?_)
      ·
        have w := w.1 h49
        exact wk_ls [(0, .inr (.inr (.ref 88))), (1, .inr (.inl (a1))), (3, .inl (v4))] rfl ⟨rfl, rfl, rfl, trivial⟩ (ex18 (v4)  r10  w)
      ·
        have w := w.2 h49
        obtain ⟨c50, w⟩ := w
        refine wk_b tt_229 8 (pc' := 24) (ls' := [(0, .inr (.inr (.ref 88))), (1, .inr (.inl (a1))), (3, .inl (v4))]) (st' := [.inr (.inl (0)), .inr (.inl (((sg_l (((sg_l (a1) >>> ((sg_i ((8 * v4))).toInt64 &&& 63)).toInt)) &&& sg_l (255)).toInt)))]) (σ' := σ1) rfl ?_
        refine wk_lcif tt_229 (tgt := 34) rfl rfl rfl (sg_RLr _) (by decide) (fun (h51 : ((sg_l (((sg_l (a1) >>> ((sg_i ((8 * v4))).toInt64 &&& 63)).toInt)) &&& sg_l (255)).toInt) = 0) => ?_) (fun (h51 : ¬ ((sg_l (((sg_l (a1) >>> ((sg_i ((8 * v4))).toInt64 &&& 63)).toInt)) &&& sg_l (255)).toInt) = 0) => ?_)
        ·
          have w := w.1 h51
          exact wk_ls [(0, .inr (.inr (.ref 88))), (1, .inr (.inl (a1))), (3, .inl (v4))] rfl ⟨rfl, rfl, rfl, trivial⟩ (ex18 (v4)  r10  w)
        ·
          have w := w.2 h51
          obtain ⟨c52, w⟩ := w
          refine wk_b tt_229 2 (pc' := 7) (ls' := [(3, .inl ((v4 + 1))), (0, .inr (.inr (.ref 88))), (1, .inr (.inl (a1)))]) (st' := []) (σ' := σ1) rfl ?_
          obtain ⟨m53, hm53, w⟩ := w
          exact wk_ls [(0, .inr (.inr (.ref 88))), (1, .inr (.inl (a1))), (3, .inl ((v4 + 1)))] rfl ⟨rfl, rfl, rfl, trivial⟩ (ih11 m53 hm53 ((v4 + 1))  c52  w)
  exact wk_ls [(0, .inr (.inr (.ref 88))), (1, .inr (.inl (a1))), (3, .inl (0))] rfl ⟨rfl, rfl, rfl, trivial⟩ (lp13 μ8 (0)  (by decide)  w14)
-- NestedVectorsModel.flatBegin
def V_flatBegin (σ : sg_S) (a1 : Int) (a2 : Int) (Q : sg_S → Prop) : Prop := V_stepped σ (0) (fun q1 σ2 => (q1 = 0 ∨ q1 = 1) → sg_F [74088, 85088, 86088] σ σ2 → ((¬ q1 = 0 → ∀ v10 : Int, v10 = (if a2 ≤ (sg_g σ 88 86) then (sg_g σ 88 86) else a2) → sg_R v10 → ∀ σ13, σ13 = (sg_w σ2 88 86 (v10)) → (0 ≤ (sg_g σ 88 62) ∧ (sg_g σ 88 62) < 4000) ∧ ∀ σ17, σ17 = (sg_w σ13 126 ((sg_g σ 88 62)) (a1)) → ∀ σ20, σ20 = (sg_w σ17 127 ((sg_g σ 88 62)) (0)) → ∀ σ23, σ23 = (sg_w σ20 128 ((sg_g σ 88 62)) ((sg_g σ 88 70))) → ∀ σ26, σ26 = (sg_w σ23 145 ((sg_g σ 88 62)) (a2)) → ∀ σ29, σ29 = (sg_w σ26 146 ((sg_g σ 88 62)) ((sg_g σ 88 99))) → sg_R ((sg_g σ 88 62) + 1) ∧ ∀ σ33, σ33 = (sg_w σ29 88 62 (((sg_g σ 88 62) + 1))) → Q σ33) ∧ (q1 = 0 → Q σ2)))
set_option maxHeartbeats 4000000 in
set_option maxRecDepth 8000 in
theorem w_flatBegin (z : Value) (σ : sg_S) (a1 : Int) (a2 : Int) (Q : sg_S → Prop) (ra1 : sg_R a1) (ra2 : sg_R a2) (w : V_flatBegin σ a1 a2 Q) : wx z 1 232 0 [(0, .inr (.inr (.ref 88))), (1, .inl (a1)), (2, .inl (a2))] [] σ (fun v σ' => v = none ∧ sg_F [126, 127, 128, 145, 146, 63088, 74088, 85088, 86088, 87088] σ σ' ∧ Q σ') := by
  unfold V_flatBegin at w
  refine wk_b tt_232 2 (pc' := 2) (ls' := [(0, .inr (.inr (.ref 88))), (1, .inl (a1)), (2, .inl (a2))]) (st' := [.inr (.inl (0)), .inr (.inr (.ref 88))]) (σ' := σ) rfl ?_
  refine wk_call tt_232 rfl rfl rfl rfl rfl tt_329 rfl (by decide) (w_stepped z σ (0) _ (by decide) w) (fun u6 σ2 hq4 => ?_)
  obtain ⟨q1, rfl, r5, hF3, w⟩ := hq4
  have w := w r5 hF3
  refine wk_if tt_232 (tgt := 9) rfl rfl (sg_Rz r5) (fun (h7 : ¬ q1 = 0) => ?_) (fun (h7 : q1 = 0) => ?_)
  ·
    have w := w.1 h7
    refine wk_b tt_232 4 (pc' := 15) (ls' := [(0, .inr (.inr (.ref 88))), (1, .inl (a1)), (2, .inl (a2))]) (st' := [.inl ((sg_g σ2 88 86)), .inl (a2), .inr (.inr (.ref 88))]) (σ' := σ2) rfl ?_
    rw [show (sg_g σ2 88 86) = (sg_g σ 88 86) from by rw [sg_F_g hF3 rfl]]
    have jn9 : ∀ v10 : Int, v10 = (if a2 ≤ (sg_g σ 88 86) then (sg_g σ 88 86) else a2) → sg_R v10 → wx z 1 232 26 [(0, .inr (.inr (.ref 88))), (1, .inl (a1)), (2, .inl (a2))] [.inl (v10), .inr (.inr (.ref 88))] σ2 (fun v σ' => v = none ∧ sg_F [126, 127, 128, 145, 146, 63088, 74088, 85088, 86088, 87088] σ σ' ∧ Q σ') := by
      intro v10 e12 r11
      have w := w v10 e12 r11
      refine wk_b tt_232 1 (pc' := 29) (ls' := [(0, .inr (.inr (.ref 88))), (1, .inl (a1)), (2, .inl (a2))]) (st' := []) (σ' := (sg_w σ2 88 86 (v10))) rfl ?_
      generalize hs14 : (sg_w σ2 88 86 (v10)) = σ13
      have w := w σ13 hs14.symm
      have hF15 : sg_F [87088] σ2 σ13 := by rw [← hs14]; exact sg_F_w (sg_F_r _ _) rfl _
      refine wk_b tt_232 5 (pc' := 38) (ls' := [(0, .inr (.inr (.ref 88))), (1, .inl (a1)), (2, .inl (a2))]) (st' := [.inl (a1), .inl ((sg_g σ13 88 62)), .inr (.inr (.ref 126))]) (σ' := σ13) rfl ?_
      rw [show (sg_g σ13 88 62) = (sg_g σ 88 62) from by rw [sg_F_g hF15 rfl, sg_F_g hF3 rfl]]
      obtain ⟨c16, w⟩ := w
      refine wk_is tt_232 rfl rfl c16.1 c16.2 (sg_Rg _ _ _) ?_
      generalize hs18 : (sg_w σ13 126 ((sg_g σ 88 62)) (a1)) = σ17
      have w := w σ17 hs18.symm
      have hF19 : sg_F [126] σ13 σ17 := by rw [← hs18]; exact sg_F_w (sg_F_r _ _) rfl _
      refine wk_b tt_232 5 (pc' := 48) (ls' := [(0, .inr (.inr (.ref 88))), (1, .inl (a1)), (2, .inl (a2))]) (st' := [.inl (0), .inl ((sg_g σ17 88 62)), .inr (.inr (.ref 127))]) (σ' := σ17) rfl ?_
      rw [show (sg_g σ17 88 62) = (sg_g σ 88 62) from by rw [sg_F_ga hF19 rfl, sg_F_g hF15 rfl, sg_F_g hF3 rfl]]
      refine wk_is tt_232 rfl rfl c16.1 c16.2 (sg_Rg _ _ _) ?_
      generalize hs21 : (sg_w σ17 127 ((sg_g σ 88 62)) (0)) = σ20
      have w := w σ20 hs21.symm
      have hF22 : sg_F [127] σ17 σ20 := by rw [← hs21]; exact sg_F_w (sg_F_r _ _) rfl _
      refine wk_b tt_232 6 (pc' := 61) (ls' := [(0, .inr (.inr (.ref 88))), (1, .inl (a1)), (2, .inl (a2))]) (st' := [.inl ((sg_g σ20 88 70)), .inl ((sg_g σ20 88 62)), .inr (.inr (.ref 128))]) (σ' := σ20) rfl ?_
      rw [show (sg_g σ20 88 62) = (sg_g σ 88 62) from by rw [sg_F_ga hF22 rfl, sg_F_ga hF19 rfl, sg_F_g hF15 rfl, sg_F_g hF3 rfl]]
      rw [show (sg_g σ20 88 70) = (sg_g σ 88 70) from by rw [sg_F_ga hF22 rfl, sg_F_ga hF19 rfl, sg_F_g hF15 rfl, sg_F_g hF3 rfl]]
      refine wk_is tt_232 rfl rfl c16.1 c16.2 (sg_Rg _ _ _) ?_
      generalize hs24 : (sg_w σ20 128 ((sg_g σ 88 62)) ((sg_g σ 88 70))) = σ23
      have w := w σ23 hs24.symm
      have hF25 : sg_F [128] σ20 σ23 := by rw [← hs24]; exact sg_F_w (sg_F_r _ _) rfl _
      refine wk_b tt_232 5 (pc' := 71) (ls' := [(0, .inr (.inr (.ref 88))), (1, .inl (a1)), (2, .inl (a2))]) (st' := [.inl (a2), .inl ((sg_g σ23 88 62)), .inr (.inr (.ref 145))]) (σ' := σ23) rfl ?_
      rw [show (sg_g σ23 88 62) = (sg_g σ 88 62) from by rw [sg_F_ga hF25 rfl, sg_F_ga hF22 rfl, sg_F_ga hF19 rfl, sg_F_g hF15 rfl, sg_F_g hF3 rfl]]
      refine wk_is tt_232 rfl rfl c16.1 c16.2 (sg_Rg _ _ _) ?_
      generalize hs27 : (sg_w σ23 145 ((sg_g σ 88 62)) (a2)) = σ26
      have w := w σ26 hs27.symm
      have hF28 : sg_F [145] σ23 σ26 := by rw [← hs27]; exact sg_F_w (sg_F_r _ _) rfl _
      refine wk_b tt_232 6 (pc' := 84) (ls' := [(0, .inr (.inr (.ref 88))), (1, .inl (a1)), (2, .inl (a2))]) (st' := [.inl ((sg_g σ26 88 99)), .inl ((sg_g σ26 88 62)), .inr (.inr (.ref 146))]) (σ' := σ26) rfl ?_
      rw [show (sg_g σ26 88 62) = (sg_g σ 88 62) from by rw [sg_F_ga hF28 rfl, sg_F_ga hF25 rfl, sg_F_ga hF22 rfl, sg_F_ga hF19 rfl, sg_F_g hF15 rfl, sg_F_g hF3 rfl]]
      rw [show (sg_g σ26 88 99) = (sg_g σ 88 99) from by rw [sg_F_ga hF28 rfl, sg_F_ga hF25 rfl, sg_F_ga hF22 rfl, sg_F_ga hF19 rfl, sg_F_g hF15 rfl, sg_F_g hF3 rfl]]
      refine wk_is tt_232 rfl rfl c16.1 c16.2 (sg_Rg _ _ _) ?_
      generalize hs30 : (sg_w σ26 146 ((sg_g σ 88 62)) ((sg_g σ 88 99))) = σ29
      have w := w σ29 hs30.symm
      have hF31 : sg_F [146] σ26 σ29 := by rw [← hs30]; exact sg_F_w (sg_F_r _ _) rfl _
      obtain ⟨c32, w⟩ := w
      refine wk_b tt_232 6 (pc' := 95) (ls' := [(0, .inr (.inr (.ref 88))), (1, .inl (a1)), (2, .inl (a2))]) (st' := []) (σ' := (sg_w σ29 88 62 (((sg_g σ29 88 62) + 1)))) rfl ?_
      rw [show (sg_g σ29 88 62) = (sg_g σ 88 62) from by rw [sg_F_ga hF31 rfl, sg_F_ga hF28 rfl, sg_F_ga hF25 rfl, sg_F_ga hF22 rfl, sg_F_ga hF19 rfl, sg_F_g hF15 rfl, sg_F_g hF3 rfl]]
      generalize hs34 : (sg_w σ29 88 62 (((sg_g σ 88 62) + 1))) = σ33
      have w := w σ33 hs34.symm
      have hF35 : sg_F [63088] σ29 σ33 := by rw [← hs34]; exact sg_F_w (sg_F_r _ _) rfl _
      exact wk_rV tt_232 rfl rfl ⟨rfl, (sg_F_t (sg_F_t (sg_F_t (sg_F_t (sg_F_t (sg_F_t (sg_F_t (sg_F_t (sg_F_r [126, 127, 128, 145, 146, 63088, 74088, 85088, 86088, 87088] σ) (sg_F_m (L := [126, 127, 128, 145, 146, 63088, 74088, 85088, 86088, 87088]) hF3 rfl)) (sg_F_m (L := [126, 127, 128, 145, 146, 63088, 74088, 85088, 86088, 87088]) hF15 rfl)) (sg_F_m (L := [126, 127, 128, 145, 146, 63088, 74088, 85088, 86088, 87088]) hF19 rfl)) (sg_F_m (L := [126, 127, 128, 145, 146, 63088, 74088, 85088, 86088, 87088]) hF22 rfl)) (sg_F_m (L := [126, 127, 128, 145, 146, 63088, 74088, 85088, 86088, 87088]) hF25 rfl)) (sg_F_m (L := [126, 127, 128, 145, 146, 63088, 74088, 85088, 86088, 87088]) hF28 rfl)) (sg_F_m (L := [126, 127, 128, 145, 146, 63088, 74088, 85088, 86088, 87088]) hF31 rfl)) (sg_F_m (L := [126, 127, 128, 145, 146, 63088, 74088, 85088, 86088, 87088]) hF35 rfl)), w⟩
    refine wk_if2 tt_232 (tgt := 22) rfl rfl ra2 (sg_Rg _ _ _) (fun (h8 : a2 ≤ (sg_g σ 88 86)) => ?_) (fun (h8 : (sg_g σ 88 86) < a2) => ?_)
    ·
      clear w
      refine wk_b tt_232 2 (pc' := 26) (ls' := [(0, .inr (.inr (.ref 88))), (1, .inl (a1)), (2, .inl (a2))]) (st' := [.inl ((sg_g σ2 88 86)), .inr (.inr (.ref 88))]) (σ' := σ2) rfl ?_
      rw [show (sg_g σ2 88 86) = (sg_g σ 88 86) from by rw [sg_F_g hF3 rfl]]
      exact wk_ls [(0, .inr (.inr (.ref 88))), (1, .inl (a1)), (2, .inl (a2))] rfl ⟨rfl, rfl, rfl, trivial⟩ (jn9 ((sg_g σ 88 86)) (by simp only [if_pos h8]) (sg_Rg _ _ _))
    ·
      clear w
      refine wk_b tt_232 2 (pc' := 26) (ls' := [(0, .inr (.inr (.ref 88))), (1, .inl (a1)), (2, .inl (a2))]) (st' := [.inl (a2), .inr (.inr (.ref 88))]) (σ' := σ2) rfl ?_
      exact wk_ls [(0, .inr (.inr (.ref 88))), (1, .inl (a1)), (2, .inl (a2))] rfl ⟨rfl, rfl, rfl, trivial⟩ (jn9 (a2) (by simp only [if_neg (show ¬ (a2 ≤ (sg_g σ 88 86)) by omega)]) ra2)
  ·
    have w := w.2 h7
    exact wk_rV tt_232 rfl rfl ⟨rfl, (sg_F_t (sg_F_r [126, 127, 128, 145, 146, 63088, 74088, 85088, 86088, 87088] σ) (sg_F_m (L := [126, 127, 128, 145, 146, 63088, 74088, 85088, 86088, 87088]) hF3 rfl)), w⟩
-- NestedVectorsModel.put
def V_put (σ : sg_S) (a1 : Int) (Q : sg_S → Prop) : Prop := (0 ≤ (sg_g σ 88 91) ∧ (sg_g σ 88 91) < 60000) ∧ ∀ σ2, σ2 = (sg_w σ 142 ((sg_g σ 88 91)) (a1)) → sg_R ((sg_g σ 88 91) + 1) ∧ ∀ σ6, σ6 = (sg_w σ2 88 91 (((sg_g σ 88 91) + 1))) → Q σ6
set_option maxHeartbeats 4000000 in
set_option maxRecDepth 8000 in
theorem w_put (z : Value) (σ : sg_S) (a1 : Int) (Q : sg_S → Prop) (ra1 : sg_R a1) (w : V_put σ a1 Q) : wx z 0 308 0 [(0, .inr (.inr (.ref 88))), (1, .inl (a1))] [] σ (fun v σ' => v = none ∧ sg_F [142, 92088] σ σ' ∧ Q σ') := by
  unfold V_put at w
  refine wk_b tt_308 5 (pc' := 9) (ls' := [(0, .inr (.inr (.ref 88))), (1, .inl (a1))]) (st' := [.inl (a1), .inl ((sg_g σ 88 91)), .inr (.inr (.ref 142))]) (σ' := σ) rfl ?_
  obtain ⟨c1, w⟩ := w
  refine wk_is tt_308 rfl rfl c1.1 c1.2 (sg_Rg _ _ _) ?_
  generalize hs3 : (sg_w σ 142 ((sg_g σ 88 91)) (a1)) = σ2
  have w := w σ2 hs3.symm
  have hF4 : sg_F [142] σ σ2 := by rw [← hs3]; exact sg_F_w (sg_F_r _ _) rfl _
  obtain ⟨c5, w⟩ := w
  refine wk_b tt_308 6 (pc' := 20) (ls' := [(0, .inr (.inr (.ref 88))), (1, .inl (a1))]) (st' := []) (σ' := (sg_w σ2 88 91 (((sg_g σ2 88 91) + 1)))) rfl ?_
  rw [show (sg_g σ2 88 91) = (sg_g σ 88 91) from by rw [sg_F_ga hF4 rfl]]
  generalize hs7 : (sg_w σ2 88 91 (((sg_g σ 88 91) + 1))) = σ6
  have w := w σ6 hs7.symm
  have hF8 : sg_F [92088] σ2 σ6 := by rw [← hs7]; exact sg_F_w (sg_F_r _ _) rfl _
  exact wk_rV tt_308 rfl rfl ⟨rfl, (sg_F_t (sg_F_t (sg_F_r [142, 92088] σ) (sg_F_m (L := [142, 92088]) hF4 rfl)) (sg_F_m (L := [142, 92088]) hF8 rfl)), w⟩
-- NestedVectorsModel.numbers
def V_numbers (σ : sg_S) (a1 : Int) (Q : Int → sg_S → Prop) : Prop := V_newFlat σ (0) (fun q1 σ2 => sg_R q1 → sg_F [139, 88088] σ σ2 → sg_R (4 * q1) ∧ (0 ≤ (4 * q1) ∧ (4 * q1) < 120000) ∧ ∀ σ9, σ9 = (sg_w σ2 140 ((4 * q1)) (a1)) → sg_R ((sg_g σ 88 91) - a1) ∧ ∀ σ13, σ13 = (sg_w σ9 141 ((4 * q1)) (((sg_g σ 88 91) - a1))) → Q (q1) σ13)
set_option maxHeartbeats 4000000 in
set_option maxRecDepth 8000 in
theorem w_numbers (z : Value) (σ : sg_S) (a1 : Int) (Q : Int → sg_S → Prop) (ra1 : sg_R a1) (w : V_numbers σ a1 Q) : wx z 1 296 0 [(0, .inr (.inr (.ref 88))), (1, .inl (a1))] [] σ (fun v σ' => ∃ q, v = some (.inl q) ∧ sg_R q ∧ sg_F [139, 140, 141, 88088] σ σ' ∧ Q q σ') := by
  unfold V_numbers at w
  refine wk_b tt_296 2 (pc' := 2) (ls' := [(0, .inr (.inr (.ref 88))), (1, .inl (a1))]) (st' := [.inl (0), .inr (.inr (.ref 88))]) (σ' := σ) rfl ?_
  refine wk_call tt_296 rfl rfl rfl rfl rfl tt_293 rfl (by decide) (w_newFlat z σ (0) _ (by decide) w) (fun u6 σ2 hq4 => ?_)
  obtain ⟨q1, rfl, r5, hF3, w⟩ := hq4
  have w := w r5 hF3
  obtain ⟨c7, w⟩ := w
  refine wk_b tt_296 7 (pc' := 14) (ls' := [(2, .inl (q1)), (0, .inr (.inr (.ref 88))), (1, .inl (a1))]) (st' := [.inl (a1), .inl ((4 * q1)), .inr (.inr (.ref 140))]) (σ' := σ2) rfl ?_
  obtain ⟨c8, w⟩ := w
  refine wk_is tt_296 rfl rfl c8.1 c8.2 c7 ?_
  generalize hs10 : (sg_w σ2 140 ((4 * q1)) (a1)) = σ9
  have w := w σ9 hs10.symm
  have hF11 : sg_F [140] σ2 σ9 := by rw [← hs10]; exact sg_F_w (sg_F_r _ _) rfl _
  obtain ⟨c12, w⟩ := w
  refine wk_b tt_296 9 (pc' := 28) (ls' := [(2, .inl (q1)), (0, .inr (.inr (.ref 88))), (1, .inl (a1))]) (st' := [.inl (((sg_g σ9 88 91) - a1)), .inl ((4 * q1)), .inr (.inr (.ref 141))]) (σ' := σ9) rfl ?_
  rw [show (sg_g σ9 88 91) = (sg_g σ 88 91) from by rw [sg_F_ga hF11 rfl, sg_F_g hF3 rfl]]
  refine wk_is tt_296 rfl rfl c8.1 c8.2 c7 ?_
  generalize hs14 : (sg_w σ9 141 ((4 * q1)) (((sg_g σ 88 91) - a1))) = σ13
  have w := w σ13 hs14.symm
  have hF15 : sg_F [141] σ9 σ13 := by rw [← hs14]; exact sg_F_w (sg_F_r _ _) rfl _
  refine wk_b tt_296 1 (pc' := 30) (ls' := [(2, .inl (q1)), (0, .inr (.inr (.ref 88))), (1, .inl (a1))]) (st' := [.inl (q1)]) (σ' := σ13) rfl ?_
  exact wk_rI tt_296 rfl rfl ⟨_, rfl, r5, (sg_F_t (sg_F_t (sg_F_t (sg_F_r [139, 140, 141, 88088] σ) (sg_F_m (L := [139, 140, 141, 88088]) hF3 rfl)) (sg_F_m (L := [139, 140, 141, 88088]) hF11 rfl)) (sg_F_m (L := [139, 140, 141, 88088]) hF15 rfl)), w⟩
/-! Conditions of the reference's methods, by program (13). -/
-- NestedVectorsModel.flatWorked
def V_flatWorked_0 (σ : sg_S) (b1 : Int) (b3 : Int) (Q : Int → sg_S → Prop) : Prop := V_stepped σ (b3) (fun q1 σ2 => (q1 = 0 ∨ q1 = 1) → sg_F [74088, 85088, 86088] σ σ2 → ((¬ q1 = 0 → (∃ (I11 : Nat → Int → sg_S → Prop) (X13 : sg_S → Prop), (∃ n, I11 n (0) σ2) ∧ (∀ (n21 : Nat) (v8 : Int) (σ9 : sg_S), sg_R v8 → sg_F [142, 92088] σ2 σ9 → I11 n21 v8 σ9 → ((b3 ≤ v8 → X13 σ9) ∧ (v8 < b3 → (0 ≤ b1 ∧ b1 < 210) ∧ V_put σ9 ((sg_n (sg_gl σ 95 (b1)))) (fun σ32 => sg_F [142, 92088] σ9 σ32 → sg_R (v8 + 1) ∧ (∃ m, m < n21 ∧ I11 m ((v8 + 1)) σ32))))) ∧ (∀ (σ9 : sg_S), sg_F [142, 92088] σ2 σ9 → X13 σ9 → V_numbers σ9 ((sg_g σ 88 91)) (fun q23 σ24 => sg_R q23 → sg_F [139, 140, 141, 88088] σ9 σ24 → Q (q23) σ24)))) ∧ (q1 = 0 → Q (0) σ2)))
set_option maxHeartbeats 4000000 in
set_option maxRecDepth 8000 in
theorem w_flatWorked_0 (z : Value) (σ : sg_S) (b1 : Int) (b3 : Int) (Q : Int → sg_S → Prop) (rb1 : sg_R b1) (rb3 : sg_R b3) (w : V_flatWorked_0 σ b1 b3 Q) : wx z 2 246 152 [(0, .inr (.inr (.ref 88))), (1, .inl (b1)), (3, .inl (b3))] [] σ (fun v σ' => ∃ q, v = some (.inl q) ∧ sg_R q ∧ sg_F [139, 140, 141, 142, 74088, 85088, 86088, 88088, 92088] σ σ' ∧ Q q σ') := by
  unfold V_flatWorked_0 at w
  refine wk_b tt_246 3 (pc' := 155) (ls' := [(0, .inr (.inr (.ref 88))), (1, .inl (b1)), (3, .inl (b3))]) (st' := [.inr (.inl ((sg_n (b3)))), .inr (.inr (.ref 88))]) (σ' := σ) rfl ?_
  rw [show (sg_n (b3)) = b3 from by rw [sg_id rb3]]
  refine wk_call tt_246 rfl rfl rfl rfl rfl tt_329 rfl (by decide) (w_stepped z σ (b3) _ (sg_Rgl2 rb3) w) (fun u6 σ2 hq4 => ?_)
  obtain ⟨q1, rfl, r5, hF3, w⟩ := hq4
  have w := w r5 hF3
  refine wk_if tt_246 (tgt := 163) rfl rfl (sg_Rz r5) (fun (h7 : ¬ q1 = 0) => ?_) (fun (h7 : q1 = 0) => ?_)
  ·
    have w := w.1 h7
    refine wk_b tt_246 5 (pc' := 172) (ls' := [(7, .inl (0)), (6, .inl ((sg_g σ2 88 91))), (0, .inr (.inr (.ref 88))), (1, .inl (b1)), (3, .inl (b3))]) (st' := []) (σ' := σ2) rfl ?_
    rw [show (sg_g σ2 88 91) = (sg_g σ 88 91) from by rw [sg_F_g hF3 rfl]]
    obtain ⟨I11, X13, ⟨μ12, w18⟩, w19, w20⟩ := w
    have ex22 : ∀ (σ9 : sg_S), sg_F [142, 92088] σ2 σ9 → X13 σ9 → wx z 2 246 195 [(0, .inr (.inr (.ref 88))), (6, .inl ((sg_g σ 88 91)))] [] σ9 (fun v σ' => ∃ q, v = some (.inl q) ∧ sg_R q ∧ sg_F [139, 140, 141, 142, 74088, 85088, 86088, 88088, 92088] σ σ' ∧ Q q σ') := by
      intro σ9 hF10 w
      have w := w20 σ9 hF10 w
      refine wk_b tt_246 2 (pc' := 198) (ls' := [(0, .inr (.inr (.ref 88))), (6, .inl ((sg_g σ 88 91)))]) (st' := [.inl ((sg_g σ 88 91)), .inr (.inr (.ref 88))]) (σ' := σ9) rfl ?_
      refine wk_call tt_246 rfl rfl rfl rfl rfl tt_296 rfl (by decide) (w_numbers z σ9 ((sg_g σ 88 91)) _ (sg_Rg _ _ _) w) (fun u28 σ24 hq26 => ?_)
      obtain ⟨q23, rfl, r27, hF25, w⟩ := hq26
      have w := w r27 hF25
      exact wk_rI tt_246 rfl rfl ⟨_, rfl, r27, (sg_F_t (sg_F_t (sg_F_t (sg_F_r [139, 140, 141, 142, 74088, 85088, 86088, 88088, 92088] σ) (sg_F_m (L := [139, 140, 141, 142, 74088, 85088, 86088, 88088, 92088]) hF3 rfl)) (sg_F_m (L := [139, 140, 141, 142, 74088, 85088, 86088, 88088, 92088]) hF10 rfl)) (sg_F_m (L := [139, 140, 141, 142, 74088, 85088, 86088, 88088, 92088]) hF25 rfl)), w⟩
    have lp17 : ∀ (n21 : Nat) (v8 : Int) (σ9 : sg_S), sg_R v8 → sg_F [142, 92088] σ2 σ9 → I11 n21 v8 σ9 → wx z 2 246 172 [(0, .inr (.inr (.ref 88))), (1, .inl (b1)), (3, .inl (b3)), (6, .inl ((sg_g σ 88 91))), (7, .inl (v8))] [] σ9 (fun v σ' => ∃ q, v = some (.inl q) ∧ sg_R q ∧ sg_F [139, 140, 141, 142, 74088, 85088, 86088, 88088, 92088] σ σ' ∧ Q q σ') := by
      intro n21
      induction n21 using Nat.strongRecOn with
      | _ n21 ih15 =>
        intro v8 σ9 r14 hF10 w
        have w := w19 n21 v8 σ9 r14 hF10 w
        refine wk_b tt_246 2 (pc' := 175) (ls' := [(0, .inr (.inr (.ref 88))), (1, .inl (b1)), (3, .inl (b3)), (6, .inl ((sg_g σ 88 91))), (7, .inl (v8))]) (st' := [.inl (b3), .inl (v8)]) (σ' := σ9) rfl ?_
        refine wk_if2 tt_246 (tgt := 195) rfl rfl r14 rb3 (fun (h29 : b3 ≤ v8) => ?_) (fun (h29 : v8 < b3) => ?_)
        ·
          have w := w.1 h29
          exact wk_ls [(0, .inr (.inr (.ref 88))), (6, .inl ((sg_g σ 88 91)))] rfl ⟨rfl, rfl, trivial⟩ (ex22  σ9  (sg_F_t (sg_F_r [142, 92088] σ2) (sg_F_m (L := [142, 92088]) hF10 rfl)) w)
        ·
          have w := w.2 h29
          refine wk_b tt_246 4 (pc' := 184) (ls' := [(0, .inr (.inr (.ref 88))), (1, .inl (b1)), (3, .inl (b3)), (6, .inl ((sg_g σ 88 91))), (7, .inl (v8))]) (st' := [.inl (b1), .inr (.inr (.ref 95)), .inr (.inr (.ref 88))]) (σ' := σ9) rfl ?_
          obtain ⟨c30, w⟩ := w
          refine wk_la tt_246 rfl rfl c30.1 c30.2 rb1 ?_
          rw [show (sg_gl σ9 95 (b1)) = (sg_gl σ 95 (b1)) from by rw [sg_F_gal hF10 rfl, sg_F_gal hF3 rfl]]
          refine wk_b tt_246 1 (pc' := 186) (ls' := [(0, .inr (.inr (.ref 88))), (1, .inl (b1)), (3, .inl (b3)), (6, .inl ((sg_g σ 88 91))), (7, .inl (v8))]) (st' := [.inl ((sg_gl σ 95 (b1))), .inr (.inr (.ref 88))]) (σ' := σ9) rfl ?_
          refine wk_n ?_
          refine wk_call tt_246 rfl rfl rfl rfl rfl tt_308 rfl (by decide) (w_put z σ9 ((sg_n (sg_gl σ 95 (b1)))) _ (sg_Rn _) w) (fun u36 σ32 hq34 => ?_)
          obtain ⟨rfl, hF33, w⟩ := hq34
          have w := w hF33
          obtain ⟨c37, w⟩ := w
          refine wk_b tt_246 2 (pc' := 172) (ls' := [(7, .inl ((v8 + 1))), (0, .inr (.inr (.ref 88))), (1, .inl (b1)), (3, .inl (b3)), (6, .inl ((sg_g σ 88 91)))]) (st' := []) (σ' := σ32) rfl ?_
          obtain ⟨m38, hm38, w⟩ := w
          exact wk_ls [(0, .inr (.inr (.ref 88))), (1, .inl (b1)), (3, .inl (b3)), (6, .inl ((sg_g σ 88 91))), (7, .inl ((v8 + 1)))] rfl ⟨rfl, rfl, rfl, rfl, rfl, trivial⟩ (ih15 m38 hm38 ((v8 + 1)) σ32 c37 (sg_F_t (sg_F_t (sg_F_r [142, 92088] σ2) (sg_F_m (L := [142, 92088]) hF10 rfl)) (sg_F_m (L := [142, 92088]) hF33 rfl)) w)
    exact wk_ls [(0, .inr (.inr (.ref 88))), (1, .inl (b1)), (3, .inl (b3)), (6, .inl ((sg_g σ 88 91))), (7, .inl (0))] rfl ⟨rfl, rfl, rfl, rfl, rfl, trivial⟩ (lp17 μ12 (0) σ2 (by decide) (sg_F_r _ _) w18)
  ·
    have w := w.2 h7
    refine wk_b tt_246 1 (pc' := 162) (ls' := [(0, .inr (.inr (.ref 88))), (1, .inl (b1)), (3, .inl (b3))]) (st' := [.inl (0)]) (σ' := σ2) rfl ?_
    exact wk_rI tt_246 rfl rfl ⟨_, rfl, (by decide), (sg_F_t (sg_F_r [139, 140, 141, 142, 74088, 85088, 86088, 88088, 92088] σ) (sg_F_m (L := [139, 140, 141, 142, 74088, 85088, 86088, 88088, 92088]) hF3 rfl)), w⟩
-- NestedVectorsModel.rowAt
def v_rowAt (σ : sg_S) (a1 : Int) (a2 : Int) : Int := (sg_g σ 142 (((sg_g σ 140 ((4 * a1))) + a2)))
def p_rowAt (σ : sg_S) (a1 : Int) (a2 : Int) : Prop := sg_R (4 * a1) ∧ (0 ≤ (4 * a1) ∧ (4 * a1) < 120000) ∧ sg_R ((sg_g σ 140 ((4 * a1))) + a2) ∧ (0 ≤ ((sg_g σ 140 ((4 * a1))) + a2) ∧ ((sg_g σ 140 ((4 * a1))) + a2) < 60000) ∧ True
set_option maxHeartbeats 4000000 in
set_option maxRecDepth 8000 in
theorem w_rowAt (z : Value) (σ : sg_S) (a1 : Int) (a2 : Int) (ra1 : sg_R a1) (ra2 : sg_R a2) (w : p_rowAt σ a1 a2) : wx z 0 322 0 [(0, .inr (.inr (.ref 88))), (1, .inl (a1)), (2, .inl (a2))] [] σ (fun v σ' => v = some (.inl (v_rowAt σ a1 a2)) ∧ σ' = σ) := by
  unfold p_rowAt at w
  obtain ⟨c1, w⟩ := w
  refine wk_b tt_322 7 (pc' := 11) (ls' := [(0, .inr (.inr (.ref 88))), (1, .inl (a1)), (2, .inl (a2))]) (st' := [.inl ((4 * a1)), .inr (.inr (.ref 140)), .inr (.inr (.ref 142))]) (σ' := σ) rfl ?_
  obtain ⟨c2, w⟩ := w
  refine wk_ia tt_322 rfl rfl c2.1 c2.2 c1 ?_
  obtain ⟨c3, w⟩ := w
  refine wk_b tt_322 2 (pc' := 14) (ls' := [(0, .inr (.inr (.ref 88))), (1, .inl (a1)), (2, .inl (a2))]) (st' := [.inl (((sg_g σ 140 ((4 * a1))) + a2)), .inr (.inr (.ref 142))]) (σ' := σ) rfl ?_
  obtain ⟨c4, w⟩ := w
  refine wk_ia tt_322 rfl rfl c4.1 c4.2 c3 ?_
  exact wk_rI tt_322 rfl rfl ⟨by rw [v_rowAt], rfl⟩
theorem vF_rowAt {L : List Nat} {σ σ' : sg_S} {a1 : Int} {a2 : Int} (hF : sg_F L σ σ') (h0 : sg_ca L 140 = true) (h1 : sg_ca L 142 = true) : v_rowAt σ' a1 a2 = v_rowAt σ a1 a2 := by
  unfold v_rowAt
  simp only [sg_F_ga (k := _) hF h0, sg_F_gal (k := _) hF h0, sg_F_ga (k := _) hF h1, sg_F_gal (k := _) hF h1]
theorem pF_rowAt {L : List Nat} {σ σ' : sg_S} {a1 : Int} {a2 : Int} (hF : sg_F L σ σ') (h0 : sg_ca L 140 = true) (h1 : sg_ca L 142 = true) : p_rowAt σ' a1 a2 = p_rowAt σ a1 a2 := by
  unfold p_rowAt
  simp only [sg_F_ga (k := _) hF h0, sg_F_gal (k := _) hF h0, sg_F_ga (k := _) hF h1, sg_F_gal (k := _) hF h1]
theorem vr_rowAt (σ : sg_S) (a1 : Int) (a2 : Int) (ra1 : sg_R a1) (ra2 : sg_R a2) (w : p_rowAt σ a1 a2) : sg_R (v_rowAt σ a1 a2) := by
  unfold v_rowAt
  unfold p_rowAt at w
  first | exact w.1 | exact w.2.1 | exact w.2.2.1 | exact sg_Rg _ _ _ | exact sg_Rgl _ _ _ | exact sg_Rr _ | exact sg_RLr _ | assumption | omega | (constructor <;> omega)
-- NestedVectorsModel.flatWorked
def V_flatWorked_11 (σ : sg_S) (b3 : Int) (b4 : Int) (Q : Int → sg_S → Prop) : Prop := V_stepped σ (b3) (fun q1 σ2 => (q1 = 0 ∨ q1 = 1) → sg_F [74088, 85088, 86088] σ σ2 → ((¬ q1 = 0 → (∃ (I11 : Nat → Int → sg_S → Prop) (X13 : sg_S → Prop), (∃ n, I11 n (0) σ2) ∧ (∀ (n21 : Nat) (v8 : Int) (σ9 : sg_S), sg_R v8 → sg_F [142, 92088] σ2 σ9 → I11 n21 v8 σ9 → ((b3 ≤ v8 → X13 σ9) ∧ (v8 < b3 → p_rowAt σ9 (b4) (v8) ∧ V_put σ9 ((v_rowAt σ9 (b4) (v8))) (fun σ33 => sg_F [142, 92088] σ9 σ33 → sg_R (v8 + 1) ∧ (∃ m, m < n21 ∧ I11 m ((v8 + 1)) σ33))))) ∧ (∀ (σ9 : sg_S), sg_F [142, 92088] σ2 σ9 → X13 σ9 → V_numbers σ9 ((sg_g σ 88 91)) (fun q23 σ24 => sg_R q23 → sg_F [139, 140, 141, 88088] σ9 σ24 → Q (q23) σ24)))) ∧ (q1 = 0 → Q (0) σ2)))
set_option maxHeartbeats 4000000 in
set_option maxRecDepth 8000 in
theorem w_flatWorked_11 (z : Value) (σ : sg_S) (b3 : Int) (b4 : Int) (Q : Int → sg_S → Prop) (rb3 : sg_R b3) (rb4 : sg_R b4) (w : V_flatWorked_11 σ b3 b4 Q) : wx z 2 246 202 [(0, .inr (.inr (.ref 88))), (3, .inl (b3)), (4, .inl (b4))] [] σ (fun v σ' => ∃ q, v = some (.inl q) ∧ sg_R q ∧ sg_F [139, 140, 141, 142, 74088, 85088, 86088, 88088, 92088] σ σ' ∧ Q q σ') := by
  unfold V_flatWorked_11 at w
  refine wk_b tt_246 3 (pc' := 205) (ls' := [(0, .inr (.inr (.ref 88))), (3, .inl (b3)), (4, .inl (b4))]) (st' := [.inr (.inl ((sg_n (b3)))), .inr (.inr (.ref 88))]) (σ' := σ) rfl ?_
  rw [show (sg_n (b3)) = b3 from by rw [sg_id rb3]]
  refine wk_call tt_246 rfl rfl rfl rfl rfl tt_329 rfl (by decide) (w_stepped z σ (b3) _ (sg_Rgl2 rb3) w) (fun u6 σ2 hq4 => ?_)
  obtain ⟨q1, rfl, r5, hF3, w⟩ := hq4
  have w := w r5 hF3
  refine wk_if tt_246 (tgt := 213) rfl rfl (sg_Rz r5) (fun (h7 : ¬ q1 = 0) => ?_) (fun (h7 : q1 = 0) => ?_)
  ·
    have w := w.1 h7
    refine wk_b tt_246 5 (pc' := 222) (ls' := [(7, .inl (0)), (6, .inl ((sg_g σ2 88 91))), (0, .inr (.inr (.ref 88))), (3, .inl (b3)), (4, .inl (b4))]) (st' := []) (σ' := σ2) rfl ?_
    rw [show (sg_g σ2 88 91) = (sg_g σ 88 91) from by rw [sg_F_g hF3 rfl]]
    obtain ⟨I11, X13, ⟨μ12, w18⟩, w19, w20⟩ := w
    have ex22 : ∀ (σ9 : sg_S), sg_F [142, 92088] σ2 σ9 → X13 σ9 → wx z 2 246 246 [(0, .inr (.inr (.ref 88))), (6, .inl ((sg_g σ 88 91)))] [] σ9 (fun v σ' => ∃ q, v = some (.inl q) ∧ sg_R q ∧ sg_F [139, 140, 141, 142, 74088, 85088, 86088, 88088, 92088] σ σ' ∧ Q q σ') := by
      intro σ9 hF10 w
      have w := w20 σ9 hF10 w
      refine wk_b tt_246 2 (pc' := 249) (ls' := [(0, .inr (.inr (.ref 88))), (6, .inl ((sg_g σ 88 91)))]) (st' := [.inl ((sg_g σ 88 91)), .inr (.inr (.ref 88))]) (σ' := σ9) rfl ?_
      refine wk_call tt_246 rfl rfl rfl rfl rfl tt_296 rfl (by decide) (w_numbers z σ9 ((sg_g σ 88 91)) _ (sg_Rg _ _ _) w) (fun u28 σ24 hq26 => ?_)
      obtain ⟨q23, rfl, r27, hF25, w⟩ := hq26
      have w := w r27 hF25
      exact wk_rI tt_246 rfl rfl ⟨_, rfl, r27, (sg_F_t (sg_F_t (sg_F_t (sg_F_r [139, 140, 141, 142, 74088, 85088, 86088, 88088, 92088] σ) (sg_F_m (L := [139, 140, 141, 142, 74088, 85088, 86088, 88088, 92088]) hF3 rfl)) (sg_F_m (L := [139, 140, 141, 142, 74088, 85088, 86088, 88088, 92088]) hF10 rfl)) (sg_F_m (L := [139, 140, 141, 142, 74088, 85088, 86088, 88088, 92088]) hF25 rfl)), w⟩
    have lp17 : ∀ (n21 : Nat) (v8 : Int) (σ9 : sg_S), sg_R v8 → sg_F [142, 92088] σ2 σ9 → I11 n21 v8 σ9 → wx z 2 246 222 [(0, .inr (.inr (.ref 88))), (3, .inl (b3)), (4, .inl (b4)), (6, .inl ((sg_g σ 88 91))), (7, .inl (v8))] [] σ9 (fun v σ' => ∃ q, v = some (.inl q) ∧ sg_R q ∧ sg_F [139, 140, 141, 142, 74088, 85088, 86088, 88088, 92088] σ σ' ∧ Q q σ') := by
      intro n21
      induction n21 using Nat.strongRecOn with
      | _ n21 ih15 =>
        intro v8 σ9 r14 hF10 w
        have w := w19 n21 v8 σ9 r14 hF10 w
        refine wk_b tt_246 2 (pc' := 225) (ls' := [(0, .inr (.inr (.ref 88))), (3, .inl (b3)), (4, .inl (b4)), (6, .inl ((sg_g σ 88 91))), (7, .inl (v8))]) (st' := [.inl (b3), .inl (v8)]) (σ' := σ9) rfl ?_
        refine wk_if2 tt_246 (tgt := 246) rfl rfl r14 rb3 (fun (h29 : b3 ≤ v8) => ?_) (fun (h29 : v8 < b3) => ?_)
        ·
          have w := w.1 h29
          exact wk_ls [(0, .inr (.inr (.ref 88))), (6, .inl ((sg_g σ 88 91)))] rfl ⟨rfl, rfl, trivial⟩ (ex22  σ9  (sg_F_t (sg_F_r [142, 92088] σ2) (sg_F_m (L := [142, 92088]) hF10 rfl)) w)
        ·
          have w := w.2 h29
          refine wk_b tt_246 4 (pc' := 234) (ls' := [(0, .inr (.inr (.ref 88))), (3, .inl (b3)), (4, .inl (b4)), (6, .inl ((sg_g σ 88 91))), (7, .inl (v8))]) (st' := [.inl (v8), .inl (b4), .inr (.inr (.ref 88)), .inr (.inr (.ref 88))]) (σ' := σ9) rfl ?_
          obtain ⟨c30, w⟩ := w
          refine wk_callp tt_246 rfl rfl rfl rfl rfl tt_322 rfl (by decide) (w_rowAt z σ9 (b4) (v8) rb4 r14 c30) ?_
          have r31 := vr_rowAt σ9  (b4) (v8) rb4 r14 c30
          refine wk_call tt_246 rfl rfl rfl rfl rfl tt_308 rfl (by decide) (w_put z σ9 ((v_rowAt σ9 (b4) (v8))) _ r31 w) (fun u37 σ33 hq35 => ?_)
          obtain ⟨rfl, hF34, w⟩ := hq35
          have w := w hF34
          obtain ⟨c38, w⟩ := w
          refine wk_b tt_246 2 (pc' := 222) (ls' := [(7, .inl ((v8 + 1))), (0, .inr (.inr (.ref 88))), (3, .inl (b3)), (4, .inl (b4)), (6, .inl ((sg_g σ 88 91)))]) (st' := []) (σ' := σ33) rfl ?_
          obtain ⟨m39, hm39, w⟩ := w
          exact wk_ls [(0, .inr (.inr (.ref 88))), (3, .inl (b3)), (4, .inl (b4)), (6, .inl ((sg_g σ 88 91))), (7, .inl ((v8 + 1)))] rfl ⟨rfl, rfl, rfl, rfl, rfl, trivial⟩ (ih15 m39 hm39 ((v8 + 1)) σ33 c38 (sg_F_t (sg_F_t (sg_F_r [142, 92088] σ2) (sg_F_m (L := [142, 92088]) hF10 rfl)) (sg_F_m (L := [142, 92088]) hF34 rfl)) w)
    exact wk_ls [(0, .inr (.inr (.ref 88))), (3, .inl (b3)), (4, .inl (b4)), (6, .inl ((sg_g σ 88 91))), (7, .inl (0))] rfl ⟨rfl, rfl, rfl, rfl, rfl, trivial⟩ (lp17 μ12 (0) σ2 (by decide) (sg_F_r _ _) w18)
  ·
    have w := w.2 h7
    refine wk_b tt_246 1 (pc' := 212) (ls' := [(0, .inr (.inr (.ref 88))), (3, .inl (b3)), (4, .inl (b4))]) (st' := [.inl (0)]) (σ' := σ2) rfl ?_
    exact wk_rI tt_246 rfl rfl ⟨_, rfl, (by decide), (sg_F_t (sg_F_r [139, 140, 141, 142, 74088, 85088, 86088, 88088, 92088] σ) (sg_F_m (L := [139, 140, 141, 142, 74088, 85088, 86088, 88088, 92088]) hF3 rfl)), w⟩
-- NestedVectorsModel.inner
def V_inner (σ : sg_S) (a1 : Int) (Q : Int → sg_S → Prop) : Prop := (0 ≤ a1 ∧ a1 < 30000) ∧ sg_R ((sg_g σ 139 (a1)) - 1) ∧ V_newFlat σ (((sg_g σ 139 (a1)) - 1)) (fun q3 σ4 => sg_R q3 → sg_F [139, 88088] σ σ4 → (∃ (I12 : Nat → Int → sg_S → Prop) (X14 : sg_S → Prop), (∃ n, I12 n (0) σ4) ∧ (∀ (n22 : Nat) (v9 : Int) (σ10 : sg_S), sg_R v9 → sg_F [140, 141] σ4 σ10 → I12 n22 v9 σ10 → (0 ≤ q3 ∧ q3 < 30000) ∧ (((sg_g σ4 139 (q3)) < v9 → X14 σ10) ∧ (v9 ≤ (sg_g σ4 139 (q3)) → sg_R (4 * q3) ∧ sg_R ((4 * q3) + v9) ∧ sg_R (4 * a1) ∧ sg_R ((4 * a1) + v9) ∧ sg_R (((4 * a1) + v9) + 1) ∧ (0 ≤ (((4 * a1) + v9) + 1) ∧ (((4 * a1) + v9) + 1) < 120000) ∧ (0 ≤ ((4 * q3) + v9) ∧ ((4 * q3) + v9) < 120000) ∧ ∀ σ33, σ33 = (sg_w σ10 140 (((4 * q3) + v9)) ((sg_g σ10 140 ((((4 * a1) + v9) + 1))))) → ∀ σ36, σ36 = (sg_w σ33 141 (((4 * q3) + v9)) ((sg_g σ10 141 ((((4 * a1) + v9) + 1))))) → sg_R (v9 + 1) ∧ (∃ m, m < n22 ∧ I12 m ((v9 + 1)) σ36)))) ∧ (∀ (σ10 : sg_S), sg_F [140, 141] σ4 σ10 → X14 σ10 → Q (q3) σ10)))
set_option maxHeartbeats 4000000 in
set_option maxRecDepth 8000 in
theorem w_inner (z : Value) (σ : sg_S) (a1 : Int) (Q : Int → sg_S → Prop) (ra1 : sg_R a1) (w : V_inner σ a1 Q) : wx z 1 259 0 [(0, .inr (.inr (.ref 88))), (1, .inl (a1))] [] σ (fun v σ' => ∃ q, v = some (.inl q) ∧ sg_R q ∧ sg_F [139, 140, 141, 88088] σ σ' ∧ Q q σ') := by
  unfold V_inner at w
  refine wk_b tt_259 4 (pc' := 6) (ls' := [(0, .inr (.inr (.ref 88))), (1, .inl (a1))]) (st' := [.inl (a1), .inr (.inr (.ref 139)), .inr (.inr (.ref 88))]) (σ' := σ) rfl ?_
  obtain ⟨c1, w⟩ := w
  refine wk_ia tt_259 rfl rfl c1.1 c1.2 ra1 ?_
  obtain ⟨c2, w⟩ := w
  refine wk_b tt_259 2 (pc' := 9) (ls' := [(0, .inr (.inr (.ref 88))), (1, .inl (a1))]) (st' := [.inl (((sg_g σ 139 (a1)) - 1)), .inr (.inr (.ref 88))]) (σ' := σ) rfl ?_
  refine wk_call tt_259 rfl rfl rfl rfl rfl tt_293 rfl (by decide) (w_newFlat z σ (((sg_g σ 139 (a1)) - 1)) _ c2 w) (fun u8 σ4 hq6 => ?_)
  obtain ⟨q3, rfl, r7, hF5, w⟩ := hq6
  have w := w r7 hF5
  refine wk_b tt_259 3 (pc' := 15) (ls' := [(3, .inl (0)), (2, .inl (q3)), (0, .inr (.inr (.ref 88))), (1, .inl (a1))]) (st' := []) (σ' := σ4) rfl ?_
  obtain ⟨I12, X14, ⟨μ13, w19⟩, w20, w21⟩ := w
  have ex23 : ∀ (σ10 : sg_S), sg_F [140, 141] σ4 σ10 → X14 σ10 → wx z 1 259 75 [(2, .inl (q3))] [] σ10 (fun v σ' => ∃ q, v = some (.inl q) ∧ sg_R q ∧ sg_F [139, 140, 141, 88088] σ σ' ∧ Q q σ') := by
    intro σ10 hF11 w
    have w := w21 σ10 hF11 w
    refine wk_b tt_259 1 (pc' := 76) (ls' := [(2, .inl (q3))]) (st' := [.inl (q3)]) (σ' := σ10) rfl ?_
    exact wk_rI tt_259 rfl rfl ⟨_, rfl, r7, (sg_F_t (sg_F_t (sg_F_r [139, 140, 141, 88088] σ) (sg_F_m (L := [139, 140, 141, 88088]) hF5 rfl)) (sg_F_m (L := [139, 140, 141, 88088]) hF11 rfl)), w⟩
  have lp18 : ∀ (n22 : Nat) (v9 : Int) (σ10 : sg_S), sg_R v9 → sg_F [140, 141] σ4 σ10 → I12 n22 v9 σ10 → wx z 1 259 15 [(0, .inr (.inr (.ref 88))), (1, .inl (a1)), (2, .inl (q3)), (3, .inl (v9))] [] σ10 (fun v σ' => ∃ q, v = some (.inl q) ∧ sg_R q ∧ sg_F [139, 140, 141, 88088] σ σ' ∧ Q q σ') := by
    intro n22
    induction n22 using Nat.strongRecOn with
    | _ n22 ih16 =>
      intro v9 σ10 r15 hF11 w
      have w := w20 n22 v9 σ10 r15 hF11 w
      refine wk_b tt_259 4 (pc' := 21) (ls' := [(0, .inr (.inr (.ref 88))), (1, .inl (a1)), (2, .inl (q3)), (3, .inl (v9))]) (st' := [.inl (q3), .inr (.inr (.ref 139)), .inl (v9)]) (σ' := σ10) rfl ?_
      obtain ⟨c24, w⟩ := w
      refine wk_ia tt_259 rfl rfl c24.1 c24.2 r7 ?_
      rw [show (sg_g σ10 139 (q3)) = (sg_g σ4 139 (q3)) from by rw [sg_F_ga hF11 rfl]]
      refine wk_if2 tt_259 (tgt := 75) rfl rfl r15 (sg_Rg _ _ _) (fun (h25 : (sg_g σ4 139 (q3)) < v9) => ?_) (fun (h25 : v9 ≤ (sg_g σ4 139 (q3))) => ?_)
      ·
        have w := w.1 h25
        exact wk_ls [(2, .inl (q3))] rfl ⟨rfl, trivial⟩ (ex23  σ10  (sg_F_t (sg_F_r [140, 141] σ4) (sg_F_m (L := [140, 141]) hF11 rfl)) w)
      ·
        have w := w.2 h25
        obtain ⟨c26, w⟩ := w
        obtain ⟨c27, w⟩ := w
        obtain ⟨c28, w⟩ := w
        obtain ⟨c29, w⟩ := w
        obtain ⟨c30, w⟩ := w
        refine wk_b tt_259 16 (pc' := 45) (ls' := [(0, .inr (.inr (.ref 88))), (1, .inl (a1)), (2, .inl (q3)), (3, .inl (v9))]) (st' := [.inl ((((4 * a1) + v9) + 1)), .inr (.inr (.ref 140)), .inl (((4 * q3) + v9)), .inr (.inr (.ref 140))]) (σ' := σ10) rfl ?_
        obtain ⟨c31, w⟩ := w
        refine wk_ia tt_259 rfl rfl c31.1 c31.2 c30 ?_
        obtain ⟨c32, w⟩ := w
        refine wk_is tt_259 rfl rfl c32.1 c32.2 c27 ?_
        generalize hs34 : (sg_w σ10 140 (((4 * q3) + v9)) ((sg_g σ10 140 ((((4 * a1) + v9) + 1))))) = σ33
        have w := w σ33 hs34.symm
        have hF35 : sg_F [140] σ10 σ33 := by rw [← hs34]; exact sg_F_w (sg_F_r _ _) rfl _
        refine wk_b tt_259 16 (pc' := 67) (ls' := [(0, .inr (.inr (.ref 88))), (1, .inl (a1)), (2, .inl (q3)), (3, .inl (v9))]) (st' := [.inl ((((4 * a1) + v9) + 1)), .inr (.inr (.ref 141)), .inl (((4 * q3) + v9)), .inr (.inr (.ref 141))]) (σ' := σ33) rfl ?_
        refine wk_ia tt_259 rfl rfl c31.1 c31.2 c30 ?_
        rw [show (sg_g σ33 141 ((((4 * a1) + v9) + 1))) = (sg_g σ10 141 ((((4 * a1) + v9) + 1))) from by rw [sg_F_ga hF35 rfl]]
        refine wk_is tt_259 rfl rfl c32.1 c32.2 c27 ?_
        generalize hs37 : (sg_w σ33 141 (((4 * q3) + v9)) ((sg_g σ10 141 ((((4 * a1) + v9) + 1))))) = σ36
        have w := w σ36 hs37.symm
        have hF38 : sg_F [141] σ33 σ36 := by rw [← hs37]; exact sg_F_w (sg_F_r _ _) rfl _
        obtain ⟨c39, w⟩ := w
        refine wk_b tt_259 2 (pc' := 15) (ls' := [(3, .inl ((v9 + 1))), (0, .inr (.inr (.ref 88))), (1, .inl (a1)), (2, .inl (q3))]) (st' := []) (σ' := σ36) rfl ?_
        obtain ⟨m40, hm40, w⟩ := w
        exact wk_ls [(0, .inr (.inr (.ref 88))), (1, .inl (a1)), (2, .inl (q3)), (3, .inl ((v9 + 1)))] rfl ⟨rfl, rfl, rfl, rfl, trivial⟩ (ih16 m40 hm40 ((v9 + 1)) σ36 c39 (sg_F_t (sg_F_t (sg_F_t (sg_F_r [140, 141] σ4) (sg_F_m (L := [140, 141]) hF11 rfl)) (sg_F_m (L := [140, 141]) hF35 rfl)) (sg_F_m (L := [140, 141]) hF38 rfl)) w)
  exact wk_ls [(0, .inr (.inr (.ref 88))), (1, .inl (a1)), (2, .inl (q3)), (3, .inl (0))] rfl ⟨rfl, rfl, rfl, rfl, trivial⟩ (lp18 μ13 (0) σ4 (by decide) (sg_F_r _ _) w19)
-- NestedVectorsModel.lacks
def V_lacks (σ : sg_S) (a1 : Int) (a2 : Int) (Q : sg_S → Prop) : Prop := ((0 ≤ (sg_g σ 88 102) → Q σ) ∧ ((sg_g σ 88 102) < 0 → ∀ σ2, σ2 = (sg_w σ 88 102 (a1)) → ∀ σ5, σ5 = (sg_w σ2 88 103 (a2)) → Q σ5))
set_option maxHeartbeats 4000000 in
set_option maxRecDepth 8000 in
theorem w_lacks (z : Value) (σ : sg_S) (a1 : Int) (a2 : Int) (Q : sg_S → Prop) (ra1 : sg_R a1) (ra2 : sg_R a2) (w : V_lacks σ a1 a2 Q) : wx z 0 276 0 [(0, .inr (.inr (.ref 88))), (1, .inl (a1)), (2, .inl (a2))] [] σ (fun v σ' => v = none ∧ sg_F [103088, 104088] σ σ' ∧ Q σ') := by
  unfold V_lacks at w
  refine wk_b tt_276 2 (pc' := 4) (ls' := [(0, .inr (.inr (.ref 88))), (1, .inl (a1)), (2, .inl (a2))]) (st' := [.inl ((sg_g σ 88 102))]) (σ' := σ) rfl ?_
  refine wk_if tt_276 (tgt := 17) rfl rfl (sg_Rg _ _ _) (fun (h1 : 0 ≤ (sg_g σ 88 102)) => ?_) (fun (h1 : (sg_g σ 88 102) < 0) => ?_)
  ·
    have w := w.1 h1
    exact wk_rV tt_276 rfl rfl ⟨rfl, (sg_F_r [103088, 104088] σ), w⟩
  ·
    have w := w.2 h1
    refine wk_b tt_276 3 (pc' := 12) (ls' := [(0, .inr (.inr (.ref 88))), (1, .inl (a1)), (2, .inl (a2))]) (st' := []) (σ' := (sg_w σ 88 102 (a1))) rfl ?_
    generalize hs3 : (sg_w σ 88 102 (a1)) = σ2
    have w := w σ2 hs3.symm
    have hF4 : sg_F [103088] σ σ2 := by rw [← hs3]; exact sg_F_w (sg_F_r _ _) rfl _
    refine wk_b tt_276 3 (pc' := 17) (ls' := [(0, .inr (.inr (.ref 88))), (1, .inl (a1)), (2, .inl (a2))]) (st' := []) (σ' := (sg_w σ2 88 103 (a2))) rfl ?_
    generalize hs6 : (sg_w σ2 88 103 (a2)) = σ5
    have w := w σ5 hs6.symm
    have hF7 : sg_F [104088] σ2 σ5 := by rw [← hs6]; exact sg_F_w (sg_F_r _ _) rfl _
    exact wk_rV tt_276 rfl rfl ⟨rfl, (sg_F_t (sg_F_t (sg_F_r [103088, 104088] σ) (sg_F_m (L := [103088, 104088]) hF4 rfl)) (sg_F_m (L := [103088, 104088]) hF7 rfl)), w⟩
-- NestedVectorsModel.list
def V_list (σ : sg_S) (a1 : Int) (Q : sg_S → Prop) : Prop := (0 ≤ (sg_g σ 88 93) ∧ (sg_g σ 88 93) < 13000) ∧ ∀ σ2, σ2 = (sg_w σ 143 ((sg_g σ 88 93)) (a1)) → sg_R ((sg_g σ 88 93) + 1) ∧ ∀ σ6, σ6 = (sg_w σ2 88 93 (((sg_g σ 88 93) + 1))) → Q σ6
set_option maxHeartbeats 4000000 in
set_option maxRecDepth 8000 in
theorem w_list (z : Value) (σ : sg_S) (a1 : Int) (Q : sg_S → Prop) (ra1 : sg_R a1) (w : V_list σ a1 Q) : wx z 0 280 0 [(0, .inr (.inr (.ref 88))), (1, .inl (a1))] [] σ (fun v σ' => v = none ∧ sg_F [143, 94088] σ σ' ∧ Q σ') := by
  unfold V_list at w
  refine wk_b tt_280 5 (pc' := 9) (ls' := [(0, .inr (.inr (.ref 88))), (1, .inl (a1))]) (st' := [.inl (a1), .inl ((sg_g σ 88 93)), .inr (.inr (.ref 143))]) (σ' := σ) rfl ?_
  obtain ⟨c1, w⟩ := w
  refine wk_is tt_280 rfl rfl c1.1 c1.2 (sg_Rg _ _ _) ?_
  generalize hs3 : (sg_w σ 143 ((sg_g σ 88 93)) (a1)) = σ2
  have w := w σ2 hs3.symm
  have hF4 : sg_F [143] σ σ2 := by rw [← hs3]; exact sg_F_w (sg_F_r _ _) rfl _
  obtain ⟨c5, w⟩ := w
  refine wk_b tt_280 6 (pc' := 20) (ls' := [(0, .inr (.inr (.ref 88))), (1, .inl (a1))]) (st' := []) (σ' := (sg_w σ2 88 93 (((sg_g σ2 88 93) + 1)))) rfl ?_
  rw [show (sg_g σ2 88 93) = (sg_g σ 88 93) from by rw [sg_F_ga hF4 rfl]]
  generalize hs7 : (sg_w σ2 88 93 (((sg_g σ 88 93) + 1))) = σ6
  have w := w σ6 hs7.symm
  have hF8 : sg_F [94088] σ2 σ6 := by rw [← hs7]; exact sg_F_w (sg_F_r _ _) rfl _
  exact wk_rV tt_280 rfl rfl ⟨rfl, (sg_F_t (sg_F_t (sg_F_r [143, 94088] σ) (sg_F_m (L := [143, 94088]) hF4 rfl)) (sg_F_m (L := [143, 94088]) hF8 rfl)), w⟩
-- NestedVectorsModel.flatIndex
def V_flatIndex (σ : sg_S) (a1 : Int) (a2 : Int) (a3 : Int) (Q : Int → sg_S → Prop) : Prop := V_inner σ (a1) (fun q1 σ2 => sg_R q1 → sg_F [139, 140, 141, 88088] σ σ2 → ∀ σ7, σ7 = (sg_w σ2 88 93 (0)) → (∃ (I14 : Nat → Int → Int → sg_S → Prop) (X16 : sg_S → Prop), (∃ n, I14 n (0) (0) σ7) ∧ (∀ (n25 : Nat) (v10 : Int) (v11 : Int) (σ12 : sg_S), sg_R v10 → sg_R v11 → sg_F [143, 94088, 103088, 104088] σ7 σ12 → I14 n25 v10 v11 σ12 → ((a3 ≤ v11 → X16 σ12) ∧ (v11 < a3 → p_rowAt σ2 (a2) (v11) ∧ p_rowAt σ2 (a1) (v11) ∧ sg_R ((v_rowAt σ2 (a1) (v11)) - 1) ∧ (∃ P54 : sg_S → Prop, ((¬ (v_in ((v_rowAt σ2 (a2) (v11))) (0) (((v_rowAt σ2 (a1) (v11)) - 1))) = 0 → P54 σ12) ∧ ((v_in ((v_rowAt σ2 (a2) (v11))) (0) (((v_rowAt σ2 (a1) (v11)) - 1))) = 0 → V_lacks σ12 (v11) (2) (fun σ78 => sg_F [103088, 104088] σ12 σ78 → P54 σ78))) ∧ (∀ (σ55 : sg_S), sg_F [103088, 104088] σ12 σ55 → P54 σ55 → (((v_in ((v_rowAt σ2 (a2) (v11))) (0) (((v_rowAt σ2 (a1) (v11)) - 1))) = 0 → True) ∧ (¬ (v_in ((v_rowAt σ2 (a2) (v11))) (0) (((v_rowAt σ2 (a1) (v11)) - 1))) = 0 → p_rowAt σ2 (a2) (v11) ∧ sg_R (v10 + (v_rowAt σ2 (a2) (v11))) ∧ True)) ∧ ∀ v60 : Int, v60 = (if (v_in ((v_rowAt σ2 (a2) (v11))) (0) (((v_rowAt σ2 (a1) (v11)) - 1))) = 0 then ((-1) : Int) else (v10 + (v_rowAt σ2 (a2) (v11)))) → sg_R v60 → V_list σ55 (v60) (fun σ64 => sg_F [143, 94088] σ55 σ64 → p_rowAt σ2 (a1) (v11) ∧ sg_R (v10 + (v_rowAt σ2 (a1) (v11))) ∧ sg_R (v11 + 1) ∧ (∃ m, m < n25 ∧ I14 m ((v10 + (v_rowAt σ2 (a1) (v11)))) ((v11 + 1)) σ64))))))) ∧ (∀ (σ12 : sg_S), sg_F [143, 94088, 103088, 104088] σ7 σ12 → X16 σ12 → V_extentOfLanes σ12 (q1) (fun q27 σ28 => sg_RL q27 → sg_F [144] σ12 σ28 → V_stepped σ28 (q27) (fun q33 σ34 => (q33 = 0 ∨ q33 = 1) → sg_F [74088, 85088, 86088] σ28 σ34 → ((q33 = 0 → Q (0) σ34) ∧ (¬ q33 = 0 → V_gathered σ34 (q1) (fun q40 σ41 => sg_R q40 → sg_F [139, 140, 141, 142, 144, 88088, 92088] σ34 σ41 → Q (q40) σ41))))))))
set_option maxHeartbeats 4000000 in
set_option maxRecDepth 8000 in
theorem w_flatIndex (z : Value) (σ : sg_S) (a1 : Int) (a2 : Int) (a3 : Int) (Q : Int → sg_S → Prop) (ra1 : sg_R a1) (ra2 : sg_R a2) (ra3 : sg_R a3) (w : V_flatIndex σ a1 a2 a3 Q) : wx z 3 240 0 [(0, .inr (.inr (.ref 88))), (1, .inl (a1)), (2, .inl (a2)), (3, .inl (a3))] [] σ (fun v σ' => ∃ q, v = some (.inl q) ∧ sg_R q ∧ sg_F [139, 140, 141, 142, 143, 144, 74088, 85088, 86088, 88088, 92088, 94088, 103088, 104088] σ σ' ∧ Q q σ') := by
  unfold V_flatIndex at w
  refine wk_b tt_240 2 (pc' := 2) (ls' := [(0, .inr (.inr (.ref 88))), (1, .inl (a1)), (2, .inl (a2)), (3, .inl (a3))]) (st' := [.inl (a1), .inr (.inr (.ref 88))]) (σ' := σ) rfl ?_
  refine wk_call tt_240 rfl rfl rfl rfl rfl tt_259 rfl (by decide) (w_inner z σ (a1) _ ra1 w) (fun u6 σ2 hq4 => ?_)
  obtain ⟨q1, rfl, r5, hF3, w⟩ := hq4
  have w := w r5 hF3
  refine wk_b tt_240 6 (pc' := 15) (ls' := [(5, .inl (0)), (4, .inl (q1)), (0, .inr (.inr (.ref 88))), (1, .inl (a1)), (2, .inl (a2)), (3, .inl (a3))]) (st' := []) (σ' := (sg_w σ2 88 93 (0))) rfl ?_
  generalize hs8 : (sg_w σ2 88 93 (0)) = σ7
  have w := w σ7 hs8.symm
  have hF9 : sg_F [94088] σ2 σ7 := by rw [← hs8]; exact sg_F_w (sg_F_r _ _) rfl _
  refine wk_b tt_240 2 (pc' := 18) (ls' := [(6, .inl (0)), (5, .inl (0)), (4, .inl (q1)), (0, .inr (.inr (.ref 88))), (1, .inl (a1)), (2, .inl (a2)), (3, .inl (a3))]) (st' := []) (σ' := σ7) rfl ?_
  obtain ⟨I14, X16, ⟨μ15, w22⟩, w23, w24⟩ := w
  have ex26 : ∀ (σ12 : sg_S), sg_F [143, 94088, 103088, 104088] σ7 σ12 → X16 σ12 → wx z 3 240 101 [(0, .inr (.inr (.ref 88))), (4, .inl (q1))] [] σ12 (fun v σ' => ∃ q, v = some (.inl q) ∧ sg_R q ∧ sg_F [139, 140, 141, 142, 143, 144, 74088, 85088, 86088, 88088, 92088, 94088, 103088, 104088] σ σ' ∧ Q q σ') := by
    intro σ12 hF13 w
    have w := w24 σ12 hF13 w
    refine wk_b tt_240 3 (pc' := 105) (ls' := [(0, .inr (.inr (.ref 88))), (4, .inl (q1))]) (st' := [.inl (q1), .inr (.inr (.ref 88)), .inr (.inr (.ref 88))]) (σ' := σ12) rfl ?_
    refine wk_call tt_240 rfl rfl rfl rfl rfl tt_227 rfl (by decide) (w_extentOfLanes z σ12 (q1) _ r5 w) (fun u32 σ28 hq30 => ?_)
    obtain ⟨q27, rfl, r31, hF29, w⟩ := hq30
    have w := w r31 hF29
    refine wk_call tt_240 rfl rfl rfl rfl rfl tt_329 rfl (by decide) (w_stepped z σ28 (q27) _ r31 w) (fun u38 σ34 hq36 => ?_)
    obtain ⟨q33, rfl, r37, hF35, w⟩ := hq36
    have w := w r37 hF35
    refine wk_if tt_240 (tgt := 123) rfl rfl (sg_Rz r37) (fun (h39 : q33 = 0) => ?_) (fun (h39 : ¬ q33 = 0) => ?_)
    ·
      have w := w.1 h39
      refine wk_b tt_240 1 (pc' := 124) (ls' := [(0, .inr (.inr (.ref 88))), (4, .inl (q1))]) (st' := [.inl (0)]) (σ' := σ34) rfl ?_
      exact wk_rI tt_240 rfl rfl ⟨_, rfl, (by decide), (sg_F_t (sg_F_t (sg_F_t (sg_F_t (sg_F_t (sg_F_r [139, 140, 141, 142, 143, 144, 74088, 85088, 86088, 88088, 92088, 94088, 103088, 104088] σ) (sg_F_m (L := [139, 140, 141, 142, 143, 144, 74088, 85088, 86088, 88088, 92088, 94088, 103088, 104088]) hF3 rfl)) (sg_F_m (L := [139, 140, 141, 142, 143, 144, 74088, 85088, 86088, 88088, 92088, 94088, 103088, 104088]) hF9 rfl)) (sg_F_m (L := [139, 140, 141, 142, 143, 144, 74088, 85088, 86088, 88088, 92088, 94088, 103088, 104088]) hF13 rfl)) (sg_F_m (L := [139, 140, 141, 142, 143, 144, 74088, 85088, 86088, 88088, 92088, 94088, 103088, 104088]) hF29 rfl)) (sg_F_m (L := [139, 140, 141, 142, 143, 144, 74088, 85088, 86088, 88088, 92088, 94088, 103088, 104088]) hF35 rfl)), w⟩
    ·
      have w := w.2 h39
      refine wk_b tt_240 2 (pc' := 117) (ls' := [(0, .inr (.inr (.ref 88))), (4, .inl (q1))]) (st' := [.inl (q1), .inr (.inr (.ref 88))]) (σ' := σ34) rfl ?_
      refine wk_call tt_240 rfl rfl rfl rfl rfl tt_249 rfl (by decide) (w_gathered z σ34 (q1) _ r5 w) (fun u45 σ41 hq43 => ?_)
      obtain ⟨q40, rfl, r44, hF42, w⟩ := hq43
      have w := w r44 hF42
      refine wk_b tt_240 1 (pc' := 124) (ls' := [(0, .inr (.inr (.ref 88))), (4, .inl (q1))]) (st' := [.inl (q40)]) (σ' := σ41) rfl ?_
      exact wk_rI tt_240 rfl rfl ⟨_, rfl, r44, (sg_F_t (sg_F_t (sg_F_t (sg_F_t (sg_F_t (sg_F_t (sg_F_r [139, 140, 141, 142, 143, 144, 74088, 85088, 86088, 88088, 92088, 94088, 103088, 104088] σ) (sg_F_m (L := [139, 140, 141, 142, 143, 144, 74088, 85088, 86088, 88088, 92088, 94088, 103088, 104088]) hF3 rfl)) (sg_F_m (L := [139, 140, 141, 142, 143, 144, 74088, 85088, 86088, 88088, 92088, 94088, 103088, 104088]) hF9 rfl)) (sg_F_m (L := [139, 140, 141, 142, 143, 144, 74088, 85088, 86088, 88088, 92088, 94088, 103088, 104088]) hF13 rfl)) (sg_F_m (L := [139, 140, 141, 142, 143, 144, 74088, 85088, 86088, 88088, 92088, 94088, 103088, 104088]) hF29 rfl)) (sg_F_m (L := [139, 140, 141, 142, 143, 144, 74088, 85088, 86088, 88088, 92088, 94088, 103088, 104088]) hF35 rfl)) (sg_F_m (L := [139, 140, 141, 142, 143, 144, 74088, 85088, 86088, 88088, 92088, 94088, 103088, 104088]) hF42 rfl)), w⟩
  have lp21 : ∀ (n25 : Nat) (v10 : Int) (v11 : Int) (σ12 : sg_S), sg_R v10 → sg_R v11 → sg_F [143, 94088, 103088, 104088] σ7 σ12 → I14 n25 v10 v11 σ12 → wx z 3 240 18 [(0, .inr (.inr (.ref 88))), (1, .inl (a1)), (2, .inl (a2)), (3, .inl (a3)), (4, .inl (q1)), (5, .inl (v10)), (6, .inl (v11))] [] σ12 (fun v σ' => ∃ q, v = some (.inl q) ∧ sg_R q ∧ sg_F [139, 140, 141, 142, 143, 144, 74088, 85088, 86088, 88088, 92088, 94088, 103088, 104088] σ σ' ∧ Q q σ') := by
    intro n25
    induction n25 using Nat.strongRecOn with
    | _ n25 ih19 =>
      intro v10 v11 σ12 r17 r18 hF13 w
      have w := w23 n25 v10 v11 σ12 r17 r18 hF13 w
      refine wk_b tt_240 2 (pc' := 21) (ls' := [(0, .inr (.inr (.ref 88))), (1, .inl (a1)), (2, .inl (a2)), (3, .inl (a3)), (4, .inl (q1)), (5, .inl (v10)), (6, .inl (v11))]) (st' := [.inl (a3), .inl (v11)]) (σ' := σ12) rfl ?_
      refine wk_if2 tt_240 (tgt := 101) rfl rfl r18 ra3 (fun (h46 : a3 ≤ v11) => ?_) (fun (h46 : v11 < a3) => ?_)
      ·
        have w := w.1 h46
        exact wk_ls [(0, .inr (.inr (.ref 88))), (4, .inl (q1))] rfl ⟨rfl, rfl, trivial⟩ (ex26  σ12  (sg_F_t (sg_F_r [143, 94088, 103088, 104088] σ7) (sg_F_m (L := [143, 94088, 103088, 104088]) hF13 rfl)) w)
      ·
        have w := w.2 h46
        refine wk_b tt_240 3 (pc' := 28) (ls' := [(0, .inr (.inr (.ref 88))), (1, .inl (a1)), (2, .inl (a2)), (3, .inl (a3)), (4, .inl (q1)), (5, .inl (v10)), (6, .inl (v11))]) (st' := [.inl (v11), .inl (a2), .inr (.inr (.ref 88))]) (σ' := σ12) rfl ?_
        obtain ⟨c47, w⟩ := w
        have c47 : p_rowAt σ12 (a2) (v11) := by
          rw [pF_rowAt hF13 rfl rfl, pF_rowAt hF9 rfl rfl]; exact c47
        refine wk_callp tt_240 rfl rfl rfl rfl rfl tt_322 rfl (by decide) (w_rowAt z σ12 (a2) (v11) ra2 r18 c47) ?_
        rw [vF_rowAt hF13 rfl rfl, vF_rowAt hF9 rfl rfl]
        have r48 := vr_rowAt σ2  (a2) (v11) ra2 r18 (by have q := c47; rw [pF_rowAt hF13 rfl rfl, pF_rowAt hF9 rfl rfl] at q; exact q)
        refine wk_b tt_240 5 (pc' := 37) (ls' := [(0, .inr (.inr (.ref 88))), (1, .inl (a1)), (2, .inl (a2)), (3, .inl (a3)), (4, .inl (q1)), (5, .inl (v10)), (6, .inl (v11))]) (st' := [.inl (v11), .inl (a1), .inr (.inr (.ref 88)), .inr (.inl (0)), .inr (.inl ((sg_n ((v_rowAt σ2 (a2) (v11))))))]) (σ' := σ12) rfl ?_
        rw [show (sg_n ((v_rowAt σ2 (a2) (v11)))) = (v_rowAt σ2 (a2) (v11)) from by rw [sg_id r48]]
        obtain ⟨c49, w⟩ := w
        have c49 : p_rowAt σ12 (a1) (v11) := by
          rw [pF_rowAt hF13 rfl rfl, pF_rowAt hF9 rfl rfl]; exact c49
        refine wk_callp tt_240 rfl rfl rfl rfl rfl tt_322 rfl (by decide) (w_rowAt z σ12 (a1) (v11) ra1 r18 c49) ?_
        rw [vF_rowAt hF13 rfl rfl, vF_rowAt hF9 rfl rfl]
        have r50 := vr_rowAt σ2  (a1) (v11) ra1 r18 (by have q := c49; rw [pF_rowAt hF13 rfl rfl, pF_rowAt hF9 rfl rfl] at q; exact q)
        obtain ⟨c51, w⟩ := w
        refine wk_b tt_240 3 (pc' := 43) (ls' := [(0, .inr (.inr (.ref 88))), (1, .inl (a1)), (2, .inl (a2)), (3, .inl (a3)), (4, .inl (q1)), (5, .inl (v10)), (6, .inl (v11))]) (st' := [.inr (.inl ((sg_n (((v_rowAt σ2 (a1) (v11)) - 1))))), .inr (.inl (0)), .inr (.inl ((v_rowAt σ2 (a2) (v11))))]) (σ' := σ12) rfl ?_
        rw [show (sg_n (((v_rowAt σ2 (a1) (v11)) - 1))) = ((v_rowAt σ2 (a1) (v11)) - 1) from by rw [sg_id c51]]
        refine wk_callp tt_240 rfl rfl rfl rfl rfl tt_258 rfl (by decide) (w_in z σ12 ((v_rowAt σ2 (a2) (v11))) (0) (((v_rowAt σ2 (a1) (v11)) - 1)) (sg_Rgl2 r48) (by decide) (sg_Rgl2 c51) ) ?_
        refine wk_b tt_240 2 (pc' := 50) (ls' := [(7, .inl ((v_in ((v_rowAt σ2 (a2) (v11))) (0) (((v_rowAt σ2 (a1) (v11)) - 1))))), (0, .inr (.inr (.ref 88))), (1, .inl (a1)), (2, .inl (a2)), (3, .inl (a3)), (4, .inl (q1)), (5, .inl (v10)), (6, .inl (v11))]) (st' := [.inl ((v_in ((v_rowAt σ2 (a2) (v11))) (0) (((v_rowAt σ2 (a1) (v11)) - 1))))]) (σ' := σ12) rfl ?_
        obtain ⟨P54, w, w57⟩ := w
        have jn53 : ∀ (σ55 : sg_S), sg_F [103088, 104088] σ12 σ55 → P54 σ55 → wx z 3 240 60 [(0, .inr (.inr (.ref 88))), (1, .inl (a1)), (2, .inl (a2)), (3, .inl (a3)), (4, .inl (q1)), (5, .inl (v10)), (6, .inl (v11)), (7, .inl ((v_in ((v_rowAt σ2 (a2) (v11))) (0) (((v_rowAt σ2 (a1) (v11)) - 1)))))] [] σ55 (fun v σ' => ∃ q, v = some (.inl q) ∧ sg_R q ∧ sg_F [139, 140, 141, 142, 143, 144, 74088, 85088, 86088, 88088, 92088, 94088, 103088, 104088] σ σ' ∧ Q q σ') := by
          intro σ55 hF56 w
          have w := w57 σ55 hF56 w
          refine wk_b tt_240 2 (pc' := 63) (ls' := [(0, .inr (.inr (.ref 88))), (1, .inl (a1)), (2, .inl (a2)), (3, .inl (a3)), (4, .inl (q1)), (5, .inl (v10)), (6, .inl (v11)), (7, .inl ((v_in ((v_rowAt σ2 (a2) (v11))) (0) (((v_rowAt σ2 (a1) (v11)) - 1)))))]) (st' := [.inl ((v_in ((v_rowAt σ2 (a2) (v11))) (0) (((v_rowAt σ2 (a1) (v11)) - 1)))), .inr (.inr (.ref 88))]) (σ' := σ55) rfl ?_
          obtain ⟨wp, w⟩ := w
          have jn59 : ∀ v60 : Int, v60 = (if (v_in ((v_rowAt σ2 (a2) (v11))) (0) (((v_rowAt σ2 (a1) (v11)) - 1))) = 0 then ((-1) : Int) else (v10 + (v_rowAt σ2 (a2) (v11)))) → sg_R v60 → wx z 3 240 80 [(0, .inr (.inr (.ref 88))), (1, .inl (a1)), (2, .inl (a2)), (3, .inl (a3)), (4, .inl (q1)), (5, .inl (v10)), (6, .inl (v11))] [.inl (v60), .inr (.inr (.ref 88))] σ55 (fun v σ' => ∃ q, v = some (.inl q) ∧ sg_R q ∧ sg_F [139, 140, 141, 142, 143, 144, 74088, 85088, 86088, 88088, 92088, 94088, 103088, 104088] σ σ' ∧ Q q σ') := by
            intro v60 e62 r61
            have w := w v60 e62 r61
            refine wk_call tt_240 rfl rfl rfl rfl rfl tt_280 rfl (by decide) (w_list z σ55 (v60) _ r61 w) (fun u68 σ64 hq66 => ?_)
            obtain ⟨rfl, hF65, w⟩ := hq66
            have w := w hF65
            refine wk_b tt_240 4 (pc' := 89) (ls' := [(0, .inr (.inr (.ref 88))), (1, .inl (a1)), (2, .inl (a2)), (3, .inl (a3)), (4, .inl (q1)), (5, .inl (v10)), (6, .inl (v11))]) (st' := [.inl (v11), .inl (a1), .inr (.inr (.ref 88)), .inl (v10)]) (σ' := σ64) rfl ?_
            obtain ⟨c69, w⟩ := w
            have c69 : p_rowAt σ64 (a1) (v11) := by
              rw [pF_rowAt hF65 rfl rfl, pF_rowAt hF56 rfl rfl, pF_rowAt hF13 rfl rfl, pF_rowAt hF9 rfl rfl]; exact c69
            refine wk_callp tt_240 rfl rfl rfl rfl rfl tt_322 rfl (by decide) (w_rowAt z σ64 (a1) (v11) ra1 r18 c69) ?_
            rw [vF_rowAt hF65 rfl rfl, vF_rowAt hF56 rfl rfl, vF_rowAt hF13 rfl rfl, vF_rowAt hF9 rfl rfl]
            have r70 := vr_rowAt σ2  (a1) (v11) ra1 r18 (by have q := c69; rw [pF_rowAt hF65 rfl rfl, pF_rowAt hF56 rfl rfl, pF_rowAt hF13 rfl rfl, pF_rowAt hF9 rfl rfl] at q; exact q)
            obtain ⟨c71, w⟩ := w
            obtain ⟨c72, w⟩ := w
            refine wk_b tt_240 4 (pc' := 18) (ls' := [(6, .inl ((v11 + 1))), (5, .inl ((v10 + (v_rowAt σ2 (a1) (v11))))), (0, .inr (.inr (.ref 88))), (1, .inl (a1)), (2, .inl (a2)), (3, .inl (a3)), (4, .inl (q1))]) (st' := []) (σ' := σ64) rfl ?_
            obtain ⟨m73, hm73, w⟩ := w
            exact wk_ls [(0, .inr (.inr (.ref 88))), (1, .inl (a1)), (2, .inl (a2)), (3, .inl (a3)), (4, .inl (q1)), (5, .inl ((v10 + (v_rowAt σ2 (a1) (v11))))), (6, .inl ((v11 + 1)))] rfl ⟨rfl, rfl, rfl, rfl, rfl, rfl, rfl, trivial⟩ (ih19 m73 hm73 ((v10 + (v_rowAt σ2 (a1) (v11)))) ((v11 + 1)) σ64 c71 c72 (sg_F_t (sg_F_t (sg_F_t (sg_F_r [143, 94088, 103088, 104088] σ7) (sg_F_m (L := [143, 94088, 103088, 104088]) hF13 rfl)) (sg_F_m (L := [143, 94088, 103088, 104088]) hF56 rfl)) (sg_F_m (L := [143, 94088, 103088, 104088]) hF65 rfl)) w)
          have w := wp
          refine wk_if tt_240 (tgt := 79) rfl rfl (sg_Rz (vz_in ..)) (fun (h58 : (v_in ((v_rowAt σ2 (a2) (v11))) (0) (((v_rowAt σ2 (a1) (v11)) - 1))) = 0) => ?_) (fun (h58 : ¬ (v_in ((v_rowAt σ2 (a2) (v11))) (0) (((v_rowAt σ2 (a1) (v11)) - 1))) = 0) => ?_)
          ·
            have w := w.1 h58
            refine wk_b tt_240 1 (pc' := 80) (ls' := [(0, .inr (.inr (.ref 88))), (1, .inl (a1)), (2, .inl (a2)), (3, .inl (a3)), (4, .inl (q1)), (5, .inl (v10)), (6, .inl (v11)), (7, .inl ((v_in ((v_rowAt σ2 (a2) (v11))) (0) (((v_rowAt σ2 (a1) (v11)) - 1)))))]) (st' := [.inl ((-1)), .inr (.inr (.ref 88))]) (σ' := σ55) rfl ?_
            exact wk_ls [(0, .inr (.inr (.ref 88))), (1, .inl (a1)), (2, .inl (a2)), (3, .inl (a3)), (4, .inl (q1)), (5, .inl (v10)), (6, .inl (v11))] rfl ⟨rfl, rfl, rfl, rfl, rfl, rfl, rfl, trivial⟩ (jn59 ((-1)) (by simp only [if_pos h58]) (by decide))
          ·
            have w := w.2 h58
            refine wk_b tt_240 4 (pc' := 72) (ls' := [(0, .inr (.inr (.ref 88))), (1, .inl (a1)), (2, .inl (a2)), (3, .inl (a3)), (4, .inl (q1)), (5, .inl (v10)), (6, .inl (v11)), (7, .inl ((v_in ((v_rowAt σ2 (a2) (v11))) (0) (((v_rowAt σ2 (a1) (v11)) - 1)))))]) (st' := [.inl (v11), .inl (a2), .inr (.inr (.ref 88)), .inl (v10), .inr (.inr (.ref 88))]) (σ' := σ55) rfl ?_
            obtain ⟨c74, w⟩ := w
            have c74 : p_rowAt σ55 (a2) (v11) := by
              rw [pF_rowAt hF56 rfl rfl, pF_rowAt hF13 rfl rfl, pF_rowAt hF9 rfl rfl]; exact c74
            refine wk_callp tt_240 rfl rfl rfl rfl rfl tt_322 rfl (by decide) (w_rowAt z σ55 (a2) (v11) ra2 r18 c74) ?_
            rw [vF_rowAt hF56 rfl rfl, vF_rowAt hF13 rfl rfl, vF_rowAt hF9 rfl rfl]
            have r75 := vr_rowAt σ2  (a2) (v11) ra2 r18 (by have q := c74; rw [pF_rowAt hF56 rfl rfl, pF_rowAt hF13 rfl rfl, pF_rowAt hF9 rfl rfl] at q; exact q)
            obtain ⟨c76, w⟩ := w
            refine wk_b tt_240 2 (pc' := 80) (ls' := [(0, .inr (.inr (.ref 88))), (1, .inl (a1)), (2, .inl (a2)), (3, .inl (a3)), (4, .inl (q1)), (5, .inl (v10)), (6, .inl (v11)), (7, .inl ((v_in ((v_rowAt σ2 (a2) (v11))) (0) (((v_rowAt σ2 (a1) (v11)) - 1)))))]) (st' := [.inl ((v10 + (v_rowAt σ2 (a2) (v11)))), .inr (.inr (.ref 88))]) (σ' := σ55) rfl ?_
            exact wk_ls [(0, .inr (.inr (.ref 88))), (1, .inl (a1)), (2, .inl (a2)), (3, .inl (a3)), (4, .inl (q1)), (5, .inl (v10)), (6, .inl (v11))] rfl ⟨rfl, rfl, rfl, rfl, rfl, rfl, rfl, trivial⟩ (jn59 ((v10 + (v_rowAt σ2 (a2) (v11)))) (by simp only [if_neg (show ¬ ((v_in ((v_rowAt σ2 (a2) (v11))) (0) (((v_rowAt σ2 (a1) (v11)) - 1))) = 0) by omega)]) c76)
        refine wk_if tt_240 (tgt := 60) rfl rfl (sg_Rz (vz_in ..)) (fun (h52 : ¬ (v_in ((v_rowAt σ2 (a2) (v11))) (0) (((v_rowAt σ2 (a1) (v11)) - 1))) = 0) => ?_) (fun (h52 : (v_in ((v_rowAt σ2 (a2) (v11))) (0) (((v_rowAt σ2 (a1) (v11)) - 1))) = 0) => ?_)
        ·
          have w := w.1 h52
          exact wk_ls [(0, .inr (.inr (.ref 88))), (1, .inl (a1)), (2, .inl (a2)), (3, .inl (a3)), (4, .inl (q1)), (5, .inl (v10)), (6, .inl (v11)), (7, .inl ((v_in ((v_rowAt σ2 (a2) (v11))) (0) (((v_rowAt σ2 (a1) (v11)) - 1)))))] rfl ⟨rfl, rfl, rfl, rfl, rfl, rfl, rfl, rfl, trivial⟩ (jn53 σ12 (sg_F_r [103088, 104088] σ12) w)
        ·
          have w := w.2 h52
          refine wk_b tt_240 3 (pc' := 57) (ls' := [(7, .inl ((v_in ((v_rowAt σ2 (a2) (v11))) (0) (((v_rowAt σ2 (a1) (v11)) - 1))))), (0, .inr (.inr (.ref 88))), (1, .inl (a1)), (2, .inl (a2)), (3, .inl (a3)), (4, .inl (q1)), (5, .inl (v10)), (6, .inl (v11))]) (st' := [.inl (2), .inl (v11), .inr (.inr (.ref 88))]) (σ' := σ12) rfl ?_
          refine wk_call tt_240 rfl rfl rfl rfl rfl tt_276 rfl (by decide) (w_lacks z σ12 (v11) (2) _ r18 (by decide) w) (fun u82 σ78 hq80 => ?_)
          obtain ⟨rfl, hF79, w⟩ := hq80
          have w := w hF79
          exact wk_ls [(0, .inr (.inr (.ref 88))), (1, .inl (a1)), (2, .inl (a2)), (3, .inl (a3)), (4, .inl (q1)), (5, .inl (v10)), (6, .inl (v11)), (7, .inl ((v_in ((v_rowAt σ2 (a2) (v11))) (0) (((v_rowAt σ2 (a1) (v11)) - 1)))))] rfl ⟨rfl, rfl, rfl, rfl, rfl, rfl, rfl, rfl, trivial⟩ (jn53 σ78 (sg_F_t (sg_F_r [103088, 104088] σ12) (sg_F_m (L := [103088, 104088]) hF79 rfl)) w)
  exact wk_ls [(0, .inr (.inr (.ref 88))), (1, .inl (a1)), (2, .inl (a2)), (3, .inl (a3)), (4, .inl (q1)), (5, .inl (0)), (6, .inl (0))] rfl ⟨rfl, rfl, rfl, rfl, rfl, rfl, rfl, trivial⟩ (lp21 μ15 (0) (0) σ7 (by decide) (by decide) (sg_F_r _ _) w22)
