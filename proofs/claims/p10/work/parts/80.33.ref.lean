/-! Conditions of the reference's methods, by program (33). -/
-- NestedVectorsModel.goOn
def V_goOn_d (σ : sg_S) (b2 : Int) (Q : sg_S → Prop) : Prop := V_readGenned σ (b2) (fun σ2 => sg_F [110, 111, 8088, 30088, 31088, 32088] σ σ2 → Q σ2)
set_option maxHeartbeats 4000000 in
set_option maxRecDepth 8000 in
theorem w_goOn_d (z : Value) (σ : sg_S) (b2 : Int) (Q : sg_S → Prop) (rb2 : sg_R b2) (w : V_goOn_d σ b2 Q) : wx z 3 253 627 [(0, .inr (.inr (.ref 88))), (2, .inl (b2))] [] σ (fun v σ' => v = none ∧ sg_F [110, 111, 8088, 30088, 31088, 32088] σ σ' ∧ Q σ') := by
  unfold V_goOn_d at w
  refine wk_b tt_253 2 (pc' := 629) (ls' := [(0, .inr (.inr (.ref 88))), (2, .inl (b2))]) (st' := [.inl (b2), .inr (.inr (.ref 88))]) (σ' := σ) rfl ?_
  refine wk_call tt_253 rfl rfl rfl rfl rfl tt_316 rfl (by decide) (w_readGenned z σ (b2) _ rb2 w) (fun u6 σ2 hq4 => ?_)
  obtain ⟨rfl, hF3, w⟩ := hq4
  have w := w hF3
  exact wk_rV tt_253 rfl rfl ⟨rfl, (sg_F_t (sg_F_r [110, 111, 8088, 30088, 31088, 32088] σ) (sg_F_m (L := [110, 111, 8088, 30088, 31088, 32088]) hF3 rfl)), w⟩
-- NestedVectorsModel.goOn
def V_goOn (σ : sg_S) (a1 : Int) (a2 : Int) (Q : sg_S → Prop) : Prop := ((a1 = 0 → V_goOn_0 σ  Q) ∧ (¬ a1 = 0 → ((a1 = 1 → V_goOn_1 σ  Q) ∧ (¬ a1 = 1 → ((a1 = 2 → V_goOn_2 σ  Q) ∧ (¬ a1 = 2 → ((a1 = 3 → V_goOn_3 σ  Q) ∧ (¬ a1 = 3 → ((a1 = 4 → V_goOn_4 σ  Q) ∧ (¬ a1 = 4 → ((a1 = 5 → V_goOn_5 σ  Q) ∧ (¬ a1 = 5 → ((a1 = 6 → V_goOn_6 σ  Q) ∧ (¬ a1 = 6 → ((a1 = 7 → V_goOn_7 σ  Q) ∧ (¬ a1 = 7 → ((a1 = 8 → V_goOn_8 σ  Q) ∧ (¬ a1 = 8 → ((a1 = 9 → V_goOn_9 σ  Q) ∧ (¬ a1 = 9 → ((a1 = 10 → V_goOn_10 σ (a2) Q) ∧ (¬ a1 = 10 → ((a1 = 11 → V_goOn_11 σ (a2) Q) ∧ (¬ a1 = 11 → ((a1 = 12 → V_goOn_12 σ  Q) ∧ (¬ a1 = 12 → ((a1 = 13 → V_goOn_13 σ (a2) Q) ∧ (¬ a1 = 13 → ((a1 = 14 → V_goOn_14 σ (a2) Q) ∧ (¬ a1 = 14 → ((a1 = 15 → V_goOn_15 σ (a2) Q) ∧ (¬ a1 = 15 → ((a1 = 16 → V_goOn_16 σ (a2) Q) ∧ (¬ a1 = 16 → V_goOn_d σ (a2) Q))))))))))))))))))))))))))))))))))
set_option maxHeartbeats 4000000 in
set_option maxRecDepth 8000 in
theorem w_goOn (z : Value) (σ : sg_S) (a1 : Int) (a2 : Int) (Q : sg_S → Prop) (ra1 : sg_R a1) (ra2 : sg_R a2) (w : V_goOn σ a1 a2 Q) : wx z 7 253 0 [(0, .inr (.inr (.ref 88))), (1, .inl (a1)), (2, .inl (a2))] [] σ (fun v σ' => v = none ∧ sg_F [93, 94, 95, 96, 97, 98, 99, 100, 110, 111, 112, 8088, 9088, 30088, 31088, 32088, 35088, 37088] σ σ' ∧ Q σ') := by
  unfold V_goOn at w
  refine wk_b tt_253 1 (pc' := 1) (ls' := [(0, .inr (.inr (.ref 88))), (1, .inl (a1)), (2, .inl (a2))]) (st' := [.inl (a1)]) (σ' := σ) rfl ?_
  by_cases e1 : a1 = 0
  · have w := w.1 e1
    refine wk_ts tt_253 (off := 83) (tgt := 84) rfl ra1 (by rw [e1]; decide) rfl ?_
    refine wk_ls [(0, .inr (.inr (.ref 88)))] rfl ⟨rfl, trivial⟩ ?_
    exact wk_post (wk_d (by decide) (w_goOn_0 z σ  Q  w)) (fun v σ' ⟨e, hF, hQ⟩ => ⟨e, sg_F_t (sg_F_r [93, 94, 95, 96, 97, 98, 99, 100, 110, 111, 112, 8088, 9088, 30088, 31088, 32088, 35088, 37088] σ) (sg_F_m hF rfl), hQ⟩)
  have w := w.2 e1
  by_cases e3 : a1 = 1
  · have w := w.1 e3
    refine wk_ts tt_253 (off := 90) (tgt := 91) rfl ra1 (by rw [e3]; decide) rfl ?_
    refine wk_ls [(0, .inr (.inr (.ref 88)))] rfl ⟨rfl, trivial⟩ ?_
    exact wk_post (wk_d (by decide) (w_goOn_1 z σ  Q  w)) (fun v σ' ⟨e, hF, hQ⟩ => ⟨e, sg_F_t (sg_F_r [93, 94, 95, 96, 97, 98, 99, 100, 110, 111, 112, 8088, 9088, 30088, 31088, 32088, 35088, 37088] σ) (sg_F_m hF rfl), hQ⟩)
  have w := w.2 e3
  by_cases e5 : a1 = 2
  · have w := w.1 e5
    refine wk_ts tt_253 (off := 105) (tgt := 106) rfl ra1 (by rw [e5]; decide) rfl ?_
    refine wk_ls [(0, .inr (.inr (.ref 88)))] rfl ⟨rfl, trivial⟩ ?_
    exact wk_post (wk_d (by decide) (w_goOn_2 z σ  Q  w)) (fun v σ' ⟨e, hF, hQ⟩ => ⟨e, sg_F_t (sg_F_r [93, 94, 95, 96, 97, 98, 99, 100, 110, 111, 112, 8088, 9088, 30088, 31088, 32088, 35088, 37088] σ) (sg_F_m hF rfl), hQ⟩)
  have w := w.2 e5
  by_cases e7 : a1 = 3
  · have w := w.1 e7
    refine wk_ts tt_253 (off := 146) (tgt := 147) rfl ra1 (by rw [e7]; decide) rfl ?_
    refine wk_ls [(0, .inr (.inr (.ref 88)))] rfl ⟨rfl, trivial⟩ ?_
    exact wk_post (wk_d (by decide) (w_goOn_3 z σ  Q  w)) (fun v σ' ⟨e, hF, hQ⟩ => ⟨e, sg_F_t (sg_F_r [93, 94, 95, 96, 97, 98, 99, 100, 110, 111, 112, 8088, 9088, 30088, 31088, 32088, 35088, 37088] σ) (sg_F_m hF rfl), hQ⟩)
  have w := w.2 e7
  by_cases e9 : a1 = 4
  · have w := w.1 e9
    refine wk_ts tt_253 (off := 161) (tgt := 162) rfl ra1 (by rw [e9]; decide) rfl ?_
    refine wk_ls [(0, .inr (.inr (.ref 88)))] rfl ⟨rfl, trivial⟩ ?_
    exact wk_post (wk_d (by decide) (w_goOn_4 z σ  Q  w)) (fun v σ' ⟨e, hF, hQ⟩ => ⟨e, sg_F_t (sg_F_r [93, 94, 95, 96, 97, 98, 99, 100, 110, 111, 112, 8088, 9088, 30088, 31088, 32088, 35088, 37088] σ) (sg_F_m hF rfl), hQ⟩)
  have w := w.2 e9
  by_cases e11 : a1 = 5
  · have w := w.1 e11
    refine wk_ts tt_253 (off := 204) (tgt := 205) rfl ra1 (by rw [e11]; decide) rfl ?_
    refine wk_ls [(0, .inr (.inr (.ref 88)))] rfl ⟨rfl, trivial⟩ ?_
    exact wk_post (wk_d (by decide) (w_goOn_5 z σ  Q  w)) (fun v σ' ⟨e, hF, hQ⟩ => ⟨e, sg_F_t (sg_F_r [93, 94, 95, 96, 97, 98, 99, 100, 110, 111, 112, 8088, 9088, 30088, 31088, 32088, 35088, 37088] σ) (sg_F_m hF rfl), hQ⟩)
  have w := w.2 e11
  by_cases e13 : a1 = 6
  · have w := w.1 e13
    refine wk_ts tt_253 (off := 221) (tgt := 222) rfl ra1 (by rw [e13]; decide) rfl ?_
    refine wk_ls [(0, .inr (.inr (.ref 88)))] rfl ⟨rfl, trivial⟩ ?_
    exact wk_post (wk_d (by decide) (w_goOn_6 z σ  Q  w)) (fun v σ' ⟨e, hF, hQ⟩ => ⟨e, sg_F_t (sg_F_r [93, 94, 95, 96, 97, 98, 99, 100, 110, 111, 112, 8088, 9088, 30088, 31088, 32088, 35088, 37088] σ) (sg_F_m hF rfl), hQ⟩)
  have w := w.2 e13
  by_cases e15 : a1 = 7
  · have w := w.1 e15
    refine wk_ts tt_253 (off := 289) (tgt := 290) rfl ra1 (by rw [e15]; decide) rfl ?_
    refine wk_ls [(0, .inr (.inr (.ref 88)))] rfl ⟨rfl, trivial⟩ ?_
    exact wk_post (wk_d (by decide) (w_goOn_7 z σ  Q  w)) (fun v σ' ⟨e, hF, hQ⟩ => ⟨e, sg_F_t (sg_F_r [93, 94, 95, 96, 97, 98, 99, 100, 110, 111, 112, 8088, 9088, 30088, 31088, 32088, 35088, 37088] σ) (sg_F_m hF rfl), hQ⟩)
  have w := w.2 e15
  by_cases e17 : a1 = 8
  · have w := w.1 e17
    refine wk_ts tt_253 (off := 362) (tgt := 363) rfl ra1 (by rw [e17]; decide) rfl ?_
    refine wk_ls [(0, .inr (.inr (.ref 88)))] rfl ⟨rfl, trivial⟩ ?_
    exact wk_post (wk_d (by decide) (w_goOn_8 z σ  Q  w)) (fun v σ' ⟨e, hF, hQ⟩ => ⟨e, sg_F_t (sg_F_r [93, 94, 95, 96, 97, 98, 99, 100, 110, 111, 112, 8088, 9088, 30088, 31088, 32088, 35088, 37088] σ) (sg_F_m hF rfl), hQ⟩)
  have w := w.2 e17
  by_cases e19 : a1 = 9
  · have w := w.1 e19
    refine wk_ts tt_253 (off := 441) (tgt := 442) rfl ra1 (by rw [e19]; decide) rfl ?_
    refine wk_ls [(0, .inr (.inr (.ref 88)))] rfl ⟨rfl, trivial⟩ ?_
    exact wk_post (wk_d (by decide) (w_goOn_9 z σ  Q  w)) (fun v σ' ⟨e, hF, hQ⟩ => ⟨e, sg_F_t (sg_F_r [93, 94, 95, 96, 97, 98, 99, 100, 110, 111, 112, 8088, 9088, 30088, 31088, 32088, 35088, 37088] σ) (sg_F_m hF rfl), hQ⟩)
  have w := w.2 e19
  by_cases e21 : a1 = 10
  · have w := w.1 e21
    refine wk_ts tt_253 (off := 448) (tgt := 449) rfl ra1 (by rw [e21]; decide) rfl ?_
    refine wk_ls [(0, .inr (.inr (.ref 88))), (2, .inl (a2))] rfl ⟨rfl, rfl, trivial⟩ ?_
    exact wk_post (wk_d (by decide) (w_goOn_10 z σ (a2) Q ra2 w)) (fun v σ' ⟨e, hF, hQ⟩ => ⟨e, sg_F_t (sg_F_r [93, 94, 95, 96, 97, 98, 99, 100, 110, 111, 112, 8088, 9088, 30088, 31088, 32088, 35088, 37088] σ) (sg_F_m hF rfl), hQ⟩)
  have w := w.2 e21
  by_cases e23 : a1 = 11
  · have w := w.1 e23
    refine wk_ts tt_253 (off := 460) (tgt := 461) rfl ra1 (by rw [e23]; decide) rfl ?_
    refine wk_ls [(0, .inr (.inr (.ref 88))), (2, .inl (a2))] rfl ⟨rfl, rfl, trivial⟩ ?_
    exact wk_post (wk_d (by decide) (w_goOn_11 z σ (a2) Q ra2 w)) (fun v σ' ⟨e, hF, hQ⟩ => ⟨e, sg_F_t (sg_F_r [93, 94, 95, 96, 97, 98, 99, 100, 110, 111, 112, 8088, 9088, 30088, 31088, 32088, 35088, 37088] σ) (sg_F_m hF rfl), hQ⟩)
  have w := w.2 e23
  by_cases e25 : a1 = 12
  · have w := w.1 e25
    refine wk_ts tt_253 (off := 468) (tgt := 469) rfl ra1 (by rw [e25]; decide) rfl ?_
    refine wk_ls [(0, .inr (.inr (.ref 88)))] rfl ⟨rfl, trivial⟩ ?_
    exact wk_post (wk_d (by decide) (w_goOn_12 z σ  Q  w)) (fun v σ' ⟨e, hF, hQ⟩ => ⟨e, sg_F_t (sg_F_r [93, 94, 95, 96, 97, 98, 99, 100, 110, 111, 112, 8088, 9088, 30088, 31088, 32088, 35088, 37088] σ) (sg_F_m hF rfl), hQ⟩)
  have w := w.2 e25
  by_cases e27 : a1 = 13
  · have w := w.1 e27
    refine wk_ts tt_253 (off := 481) (tgt := 482) rfl ra1 (by rw [e27]; decide) rfl ?_
    refine wk_ls [(0, .inr (.inr (.ref 88))), (2, .inl (a2))] rfl ⟨rfl, rfl, trivial⟩ ?_
    exact wk_post (wk_d (by decide) (w_goOn_13 z σ (a2) Q ra2 w)) (fun v σ' ⟨e, hF, hQ⟩ => ⟨e, sg_F_t (sg_F_r [93, 94, 95, 96, 97, 98, 99, 100, 110, 111, 112, 8088, 9088, 30088, 31088, 32088, 35088, 37088] σ) (sg_F_m hF rfl), hQ⟩)
  have w := w.2 e27
  by_cases e29 : a1 = 14
  · have w := w.1 e29
    refine wk_ts tt_253 (off := 493) (tgt := 494) rfl ra1 (by rw [e29]; decide) rfl ?_
    refine wk_ls [(0, .inr (.inr (.ref 88))), (2, .inl (a2))] rfl ⟨rfl, rfl, trivial⟩ ?_
    exact wk_post (wk_d (by decide) (w_goOn_14 z σ (a2) Q ra2 w)) (fun v σ' ⟨e, hF, hQ⟩ => ⟨e, sg_F_t (sg_F_r [93, 94, 95, 96, 97, 98, 99, 100, 110, 111, 112, 8088, 9088, 30088, 31088, 32088, 35088, 37088] σ) (sg_F_m hF rfl), hQ⟩)
  have w := w.2 e29
  by_cases e31 : a1 = 15
  · have w := w.1 e31
    refine wk_ts tt_253 (off := 528) (tgt := 529) rfl ra1 (by rw [e31]; decide) rfl ?_
    refine wk_ls [(0, .inr (.inr (.ref 88))), (2, .inl (a2))] rfl ⟨rfl, rfl, trivial⟩ ?_
    exact wk_post (wk_d (by decide) (w_goOn_15 z σ (a2) Q ra2 w)) (fun v σ' ⟨e, hF, hQ⟩ => ⟨e, sg_F_t (sg_F_r [93, 94, 95, 96, 97, 98, 99, 100, 110, 111, 112, 8088, 9088, 30088, 31088, 32088, 35088, 37088] σ) (sg_F_m hF rfl), hQ⟩)
  have w := w.2 e31
  by_cases e33 : a1 = 16
  · have w := w.1 e33
    refine wk_ts tt_253 (off := 618) (tgt := 619) rfl ra1 (by rw [e33]; decide) rfl ?_
    refine wk_ls [(0, .inr (.inr (.ref 88))), (2, .inl (a2))] rfl ⟨rfl, rfl, trivial⟩ ?_
    exact wk_post (wk_d (by decide) (w_goOn_16 z σ (a2) Q ra2 w)) (fun v σ' ⟨e, hF, hQ⟩ => ⟨e, sg_F_t (sg_F_r [93, 94, 95, 96, 97, 98, 99, 100, 110, 111, 112, 8088, 9088, 30088, 31088, 32088, 35088, 37088] σ) (sg_F_m hF rfl), hQ⟩)
  have w := w.2 e33
  refine wk_ts tt_253 (off := 626) (tgt := 627) rfl ra1 (by rcases sw_lo (a1) 0 with h | h; (unfold bm_swt; rw [if_pos (Or.inl h)]); (unfold bm_swt; rw [if_pos (Or.inr (Int.lt_of_add_one_le (sw_st (k := 16) (sw_st (k := 15) (sw_st (k := 14) (sw_st (k := 13) (sw_st (k := 12) (sw_st (k := 11) (sw_st (k := 10) (sw_st (k := 9) (sw_st (k := 8) (sw_st (k := 7) (sw_st (k := 6) (sw_st (k := 5) (sw_st (k := 4) (sw_st (k := 3) (sw_st (k := 2) (sw_st (k := 1) (sw_st (k := 0) h e1) e3) e5) e7) e9) e11) e13) e15) e17) e19) e21) e23) e25) e27) e29) e31) e33)))])) rfl ?_
  refine wk_ls [(0, .inr (.inr (.ref 88))), (2, .inl (a2))] rfl ⟨rfl, rfl, trivial⟩ ?_
  exact wk_post (wk_d (by decide) (w_goOn_d z σ (a2) Q ra2 w)) (fun v σ' ⟨e, hF, hQ⟩ => ⟨e, sg_F_t (sg_F_r [93, 94, 95, 96, 97, 98, 99, 100, 110, 111, 112, 8088, 9088, 30088, 31088, 32088, 35088, 37088] σ) (sg_F_m hF rfl), hQ⟩)
-- NestedVectorsModel.has
def v_has (σ : sg_S) (a1 : Int) (a2 : Int) : Int := (if ¬ (sg_g σ 96 (a1)) = a2 then (0 : Int) else (1 : Int))
def p_has (σ : sg_S) (a1 : Int) (a2 : Int) : Prop := (0 ≤ a1 ∧ a1 < 210) ∧ ((¬ (sg_g σ 96 (a1)) = a2 → True) ∧ ((sg_g σ 96 (a1)) = a2 → True))
theorem vz_has {σ : sg_S} {a1 : Int} {a2 : Int} : v_has σ a1 a2 = 0 ∨ v_has σ a1 a2 = 1 := by
  unfold v_has
  by_cases h : ¬ (sg_g σ 96 (a1)) = a2
  · rw [if_pos h]
    exact Or.inl rfl
  · rw [if_neg h]
    exact Or.inr rfl
set_option maxHeartbeats 4000000 in
set_option maxRecDepth 8000 in
theorem w_has (z : Value) (σ : sg_S) (a1 : Int) (a2 : Int) (ra1 : sg_R a1) (ra2 : sg_R a2) (w : p_has σ a1 a2) : wx z 0 255 0 [(0, .inr (.inr (.ref 88))), (1, .inl (a1)), (2, .inl (a2))] [] σ (fun v σ' => v = some (.inl (v_has σ a1 a2)) ∧ σ' = σ) := by
  unfold p_has at w
  refine wk_b tt_255 3 (pc' := 5) (ls' := [(0, .inr (.inr (.ref 88))), (1, .inl (a1)), (2, .inl (a2))]) (st' := [.inl (a1), .inr (.inr (.ref 96))]) (σ' := σ) rfl ?_
  obtain ⟨c1, w⟩ := w
  refine wk_ia tt_255 rfl rfl c1.1 c1.2 ra1 ?_
  refine wk_b tt_255 1 (pc' := 7) (ls' := [(0, .inr (.inr (.ref 88))), (1, .inl (a1)), (2, .inl (a2))]) (st' := [.inl (a2), .inl ((sg_g σ 96 (a1)))]) (σ' := σ) rfl ?_
  refine wk_if2 tt_255 (tgt := 14) rfl rfl (sg_Rg _ _ _) ra2 (fun (h2 : ¬ (sg_g σ 96 (a1)) = a2) => ?_) (fun (h2 : (sg_g σ 96 (a1)) = a2) => ?_)
  ·
    have w := w.1 h2
    refine wk_b tt_255 1 (pc' := 15) (ls' := [(0, .inr (.inr (.ref 88))), (1, .inl (a1)), (2, .inl (a2))]) (st' := [.inl (0)]) (σ' := σ) rfl ?_
    exact wk_rZ tt_255 rfl rfl (by decide) ⟨by rw [v_has, if_pos h2], rfl⟩
  ·
    have w := w.2 h2
    refine wk_b tt_255 2 (pc' := 15) (ls' := [(0, .inr (.inr (.ref 88))), (1, .inl (a1)), (2, .inl (a2))]) (st' := [.inl (1)]) (σ' := σ) rfl ?_
    exact wk_rZ tt_255 rfl rfl (by decide) ⟨by rw [v_has, if_neg (show ¬ (¬ (sg_g σ 96 (a1)) = a2) by omega)], rfl⟩
theorem vF_has {L : List Nat} {σ σ' : sg_S} {a1 : Int} {a2 : Int} (hF : sg_F L σ σ') (h0 : sg_ca L 96 = true) : v_has σ' a1 a2 = v_has σ a1 a2 := by
  unfold v_has
  simp only [sg_F_ga (k := _) hF h0, sg_F_gal (k := _) hF h0]
theorem pF_has {L : List Nat} {σ σ' : sg_S} {a1 : Int} {a2 : Int} (hF : sg_F L σ σ') (h0 : sg_ca L 96 = true) : p_has σ' a1 a2 = p_has σ a1 a2 := by
  unfold p_has
  simp only [sg_F_ga (k := _) hF h0, sg_F_gal (k := _) hF h0]
-- NestedVectorsModel.kidType
def v_kidType (σ : sg_S) (a1 : Int) (a2 : Int) : Int := (sg_g σ 101 ((sg_g σ 97 (((200 * a1) + a2)))))
def p_kidType (σ : sg_S) (a1 : Int) (a2 : Int) : Prop := sg_R (200 * a1) ∧ sg_R ((200 * a1) + a2) ∧ (0 ≤ ((200 * a1) + a2) ∧ ((200 * a1) + a2) < 42000) ∧ (0 ≤ (sg_g σ 97 (((200 * a1) + a2))) ∧ (sg_g σ 97 (((200 * a1) + a2))) < 210) ∧ True
set_option maxHeartbeats 4000000 in
set_option maxRecDepth 8000 in
theorem w_kidType (z : Value) (σ : sg_S) (a1 : Int) (a2 : Int) (ra1 : sg_R a1) (ra2 : sg_R a2) (w : p_kidType σ a1 a2) : wx z 0 273 0 [(0, .inr (.inr (.ref 88))), (1, .inl (a1)), (2, .inl (a2))] [] σ (fun v σ' => v = some (.inl (v_kidType σ a1 a2)) ∧ σ' = σ) := by
  unfold p_kidType at w
  obtain ⟨c1, w⟩ := w
  obtain ⟨c2, w⟩ := w
  refine wk_b tt_273 9 (pc' := 15) (ls' := [(0, .inr (.inr (.ref 88))), (1, .inl (a1)), (2, .inl (a2))]) (st' := [.inl (((200 * a1) + a2)), .inr (.inr (.ref 97)), .inr (.inr (.ref 101))]) (σ' := σ) rfl ?_
  obtain ⟨c3, w⟩ := w
  refine wk_ia tt_273 rfl rfl c3.1 c3.2 c2 ?_
  obtain ⟨c4, w⟩ := w
  refine wk_ia tt_273 rfl rfl c4.1 c4.2 (sg_Rg _ _ _) ?_
  exact wk_rI tt_273 rfl rfl ⟨by rw [v_kidType], rfl⟩
theorem vF_kidType {L : List Nat} {σ σ' : sg_S} {a1 : Int} {a2 : Int} (hF : sg_F L σ σ') (h0 : sg_ca L 97 = true) (h1 : sg_ca L 101 = true) : v_kidType σ' a1 a2 = v_kidType σ a1 a2 := by
  unfold v_kidType
  simp only [sg_F_ga (k := _) hF h0, sg_F_gal (k := _) hF h0, sg_F_ga (k := _) hF h1, sg_F_gal (k := _) hF h1]
theorem pF_kidType {L : List Nat} {σ σ' : sg_S} {a1 : Int} {a2 : Int} (hF : sg_F L σ σ') (h0 : sg_ca L 97 = true) (h1 : sg_ca L 101 = true) : p_kidType σ' a1 a2 = p_kidType σ a1 a2 := by
  unfold p_kidType
  simp only [sg_F_ga (k := _) hF h0, sg_F_gal (k := _) hF h0, sg_F_ga (k := _) hF h1, sg_F_gal (k := _) hF h1]
theorem vr_kidType (σ : sg_S) (a1 : Int) (a2 : Int) (ra1 : sg_R a1) (ra2 : sg_R a2) (w : p_kidType σ a1 a2) : sg_R (v_kidType σ a1 a2) := by
  unfold v_kidType
  unfold p_kidType at w
  first | exact w.1 | exact w.2.1 | exact w.2.2.1 | exact sg_Rg _ _ _ | exact sg_Rgl _ _ _ | exact sg_Rr _ | exact sg_RLr _ | assumption | omega | (constructor <;> omega)
-- NestedVectorsModel.know
def V_know (σ : sg_S) (a1 : Int) (a2 : Int) (a3 : Int) (Q : sg_S → Prop) : Prop := (0 ≤ (sg_g σ 88 37) ∧ (sg_g σ 88 37) < 300) ∧ ∀ σ2, σ2 = (sg_wl σ 113 ((sg_g σ 88 37)) (a1)) → ∀ σ5, σ5 = (sg_w σ2 114 ((sg_g σ 88 37)) (a2)) → ∀ σ8, σ8 = (sg_w σ5 115 ((sg_g σ 88 37)) (a3)) → (0 ≤ a2 ∧ a2 < 1200) ∧ ∀ σ12, σ12 = (sg_w σ8 116 (a2) ((sg_g σ 88 37))) → sg_R ((sg_g σ 88 37) + 1) ∧ ∀ σ16, σ16 = (sg_w σ12 88 37 (((sg_g σ 88 37) + 1))) → Q σ16
set_option maxHeartbeats 4000000 in
set_option maxRecDepth 8000 in
theorem w_know (z : Value) (σ : sg_S) (a1 : Int) (a2 : Int) (a3 : Int) (Q : sg_S → Prop) (ra1 : sg_RL a1) (ra2 : sg_R a2) (ra3 : sg_R a3) (w : V_know σ a1 a2 a3 Q) : wx z 0 274 0 [(0, .inr (.inr (.ref 88))), (1, .inr (.inl (a1))), (3, .inl (a2)), (4, .inl (a3))] [] σ (fun v σ' => v = none ∧ sg_F [113, 114, 115, 116, 38088] σ σ' ∧ Q σ') := by
  unfold V_know at w
  refine wk_b tt_274 5 (pc' := 9) (ls' := [(0, .inr (.inr (.ref 88))), (1, .inr (.inl (a1))), (3, .inl (a2)), (4, .inl (a3))]) (st' := [.inr (.inl (a1)), .inl ((sg_g σ 88 37)), .inr (.inr (.ref 113))]) (σ' := σ) rfl ?_
  obtain ⟨c1, w⟩ := w
  refine wk_lS tt_274 rfl rfl c1.1 c1.2 (sg_Rg _ _ _) ?_
  generalize hs3 : (sg_wl σ 113 ((sg_g σ 88 37)) (a1)) = σ2
  have w := w σ2 hs3.symm
  have hF4 : sg_F [113] σ σ2 := by rw [← hs3]; exact sg_F_wl (sg_F_r _ _) rfl _
  refine wk_b tt_274 5 (pc' := 19) (ls' := [(0, .inr (.inr (.ref 88))), (1, .inr (.inl (a1))), (3, .inl (a2)), (4, .inl (a3))]) (st' := [.inl (a2), .inl ((sg_g σ2 88 37)), .inr (.inr (.ref 114))]) (σ' := σ2) rfl ?_
  rw [show (sg_g σ2 88 37) = (sg_g σ 88 37) from by rw [sg_F_ga hF4 rfl]]
  refine wk_is tt_274 rfl rfl c1.1 c1.2 (sg_Rg _ _ _) ?_
  generalize hs6 : (sg_w σ2 114 ((sg_g σ 88 37)) (a2)) = σ5
  have w := w σ5 hs6.symm
  have hF7 : sg_F [114] σ2 σ5 := by rw [← hs6]; exact sg_F_w (sg_F_r _ _) rfl _
  refine wk_b tt_274 5 (pc' := 30) (ls' := [(0, .inr (.inr (.ref 88))), (1, .inr (.inl (a1))), (3, .inl (a2)), (4, .inl (a3))]) (st' := [.inl (a3), .inl ((sg_g σ5 88 37)), .inr (.inr (.ref 115))]) (σ' := σ5) rfl ?_
  rw [show (sg_g σ5 88 37) = (sg_g σ 88 37) from by rw [sg_F_ga hF7 rfl, sg_F_ga hF4 rfl]]
  refine wk_is tt_274 rfl rfl c1.1 c1.2 (sg_Rg _ _ _) ?_
  generalize hs9 : (sg_w σ5 115 ((sg_g σ 88 37)) (a3)) = σ8
  have w := w σ8 hs9.symm
  have hF10 : sg_F [115] σ5 σ8 := by rw [← hs9]; exact sg_F_w (sg_F_r _ _) rfl _
  refine wk_b tt_274 5 (pc' := 40) (ls' := [(0, .inr (.inr (.ref 88))), (1, .inr (.inl (a1))), (3, .inl (a2)), (4, .inl (a3))]) (st' := [.inl ((sg_g σ8 88 37)), .inl (a2), .inr (.inr (.ref 116))]) (σ' := σ8) rfl ?_
  rw [show (sg_g σ8 88 37) = (sg_g σ 88 37) from by rw [sg_F_ga hF10 rfl, sg_F_ga hF7 rfl, sg_F_ga hF4 rfl]]
  obtain ⟨c11, w⟩ := w
  refine wk_is tt_274 rfl rfl c11.1 c11.2 ra2 ?_
  generalize hs13 : (sg_w σ8 116 (a2) ((sg_g σ 88 37))) = σ12
  have w := w σ12 hs13.symm
  have hF14 : sg_F [116] σ8 σ12 := by rw [← hs13]; exact sg_F_w (sg_F_r _ _) rfl _
  obtain ⟨c15, w⟩ := w
  refine wk_b tt_274 6 (pc' := 51) (ls' := [(0, .inr (.inr (.ref 88))), (1, .inr (.inl (a1))), (3, .inl (a2)), (4, .inl (a3))]) (st' := []) (σ' := (sg_w σ12 88 37 (((sg_g σ12 88 37) + 1)))) rfl ?_
  rw [show (sg_g σ12 88 37) = (sg_g σ 88 37) from by rw [sg_F_ga hF14 rfl, sg_F_ga hF10 rfl, sg_F_ga hF7 rfl, sg_F_ga hF4 rfl]]
  generalize hs17 : (sg_w σ12 88 37 (((sg_g σ 88 37) + 1))) = σ16
  have w := w σ16 hs17.symm
  have hF18 : sg_F [38088] σ12 σ16 := by rw [← hs17]; exact sg_F_w (sg_F_r _ _) rfl _
  exact wk_rV tt_274 rfl rfl ⟨rfl, (sg_F_t (sg_F_t (sg_F_t (sg_F_t (sg_F_t (sg_F_r [113, 114, 115, 116, 38088] σ) (sg_F_m (L := [113, 114, 115, 116, 38088]) hF4 rfl)) (sg_F_m (L := [113, 114, 115, 116, 38088]) hF7 rfl)) (sg_F_m (L := [113, 114, 115, 116, 38088]) hF10 rfl)) (sg_F_m (L := [113, 114, 115, 116, 38088]) hF14 rfl)) (sg_F_m (L := [113, 114, 115, 116, 38088]) hF18 rfl)), w⟩
-- NestedVectorsModel.knownAt
def V_knownAt (σ : sg_S) (a1 : Int) (Q : Int → sg_S → Prop) : Prop := sg_R ((sg_g σ 88 37) - 1) ∧ (∃ (I5 : Nat → Int → Prop) (X7 : Int → Prop), (∃ n, I5 n (((sg_g σ 88 37) - 1))) ∧ (∀ (n15 : Nat) (v2 : Int), sg_R v2 → I5 n15 v2 → ((v2 < 0 → X7 (v2)) ∧ (0 ≤ v2 → (0 ≤ v2 ∧ v2 < 300) ∧ (((sg_gl σ 113 (v2)) = a1 → X7 (v2)) ∧ (¬ (sg_gl σ 113 (v2)) = a1 → sg_R (v2 + (-1)) ∧ (∃ m, m < n15 ∧ I5 m ((v2 + (-1))))))))) ∧ (∀ (v2 : Int), sg_R v2 → X7 v2 → Q (v2) σ))
set_option maxHeartbeats 4000000 in
set_option maxRecDepth 8000 in
theorem w_knownAt (z : Value) (σ : sg_S) (a1 : Int) (Q : Int → sg_S → Prop) (ra1 : sg_RL a1) (w : V_knownAt σ a1 Q) : wx z 0 275 0 [(0, .inr (.inr (.ref 88))), (1, .inr (.inl (a1)))] [] σ (fun v σ' => ∃ q, v = some (.inl q) ∧ sg_R q ∧ σ = σ' ∧ Q q σ') := by
  unfold V_knownAt at w
  obtain ⟨c1, w⟩ := w
  refine wk_b tt_275 5 (pc' := 7) (ls' := [(3, .inl (((sg_g σ 88 37) - 1))), (0, .inr (.inr (.ref 88))), (1, .inr (.inl (a1)))]) (st' := []) (σ' := σ) rfl ?_
  obtain ⟨I5, X7, ⟨μ6, w12⟩, w13, w14⟩ := w
  have ex16 : ∀ (v2 : Int), sg_R v2 → X7 v2 → wx z 0 275 28 [(3, .inl (v2))] [] σ (fun v σ' => ∃ q, v = some (.inl q) ∧ sg_R q ∧ σ = σ' ∧ Q q σ') := by
    intro v2 r8 w
    have w := w14 v2 r8 w
    refine wk_b tt_275 1 (pc' := 29) (ls' := [(3, .inl (v2))]) (st' := [.inl (v2)]) (σ' := σ) rfl ?_
    exact wk_rI tt_275 rfl rfl ⟨_, rfl, r8, rfl, w⟩
  have lp11 : ∀ (n15 : Nat) (v2 : Int), sg_R v2 → I5 n15 v2 → wx z 0 275 7 [(0, .inr (.inr (.ref 88))), (1, .inr (.inl (a1))), (3, .inl (v2))] [] σ (fun v σ' => ∃ q, v = some (.inl q) ∧ sg_R q ∧ σ = σ' ∧ Q q σ') := by
    intro n15
    induction n15 using Nat.strongRecOn with
    | _ n15 ih9 =>
      intro v2 r8 w
      have w := w13 n15 v2 r8 w
      refine wk_b tt_275 1 (pc' := 8) (ls' := [(0, .inr (.inr (.ref 88))), (1, .inr (.inl (a1))), (3, .inl (v2))]) (st' := [.inl (v2)]) (σ' := σ) rfl ?_
      refine wk_if tt_275 (tgt := 28) rfl rfl r8 (fun (h17 : v2 < 0) => ?_) (fun (h17 : 0 ≤ v2) => ?_)
      ·
        have w := w.1 h17
        exact wk_ls [(3, .inl (v2))] rfl ⟨rfl, trivial⟩ (ex16 (v2)  r8  w)
      ·
        have w := w.2 h17
        refine wk_b tt_275 3 (pc' := 16) (ls' := [(0, .inr (.inr (.ref 88))), (1, .inr (.inl (a1))), (3, .inl (v2))]) (st' := [.inl (v2), .inr (.inr (.ref 113))]) (σ' := σ) rfl ?_
        obtain ⟨c18, w⟩ := w
        refine wk_la tt_275 rfl rfl c18.1 c18.2 r8 ?_
        refine wk_b tt_275 1 (pc' := 18) (ls' := [(0, .inr (.inr (.ref 88))), (1, .inr (.inl (a1))), (3, .inl (v2))]) (st' := [.inr (.inl (a1)), .inr (.inl ((sg_gl σ 113 (v2))))]) (σ' := σ) rfl ?_
        refine wk_lcif tt_275 (tgt := 28) rfl rfl rfl (sg_Rgl _ _ _) ra1 (fun (h19 : (sg_gl σ 113 (v2)) = a1) => ?_) (fun (h19 : ¬ (sg_gl σ 113 (v2)) = a1) => ?_)
        ·
          have w := w.1 h19
          exact wk_ls [(3, .inl (v2))] rfl ⟨rfl, trivial⟩ (ex16 (v2)  r8  w)
        ·
          have w := w.2 h19
          obtain ⟨c20, w⟩ := w
          refine wk_b tt_275 2 (pc' := 7) (ls' := [(3, .inl ((v2 + (-1)))), (0, .inr (.inr (.ref 88))), (1, .inr (.inl (a1)))]) (st' := []) (σ' := σ) rfl ?_
          obtain ⟨m21, hm21, w⟩ := w
          exact wk_ls [(0, .inr (.inr (.ref 88))), (1, .inr (.inl (a1))), (3, .inl ((v2 + (-1))))] rfl ⟨rfl, rfl, rfl, trivial⟩ (ih9 m21 hm21 ((v2 + (-1)))  c20  w)
  exact wk_ls [(0, .inr (.inr (.ref 88))), (1, .inr (.inl (a1))), (3, .inl (((sg_g σ 88 37) - 1)))] rfl ⟨rfl, rfl, rfl, trivial⟩ (lp11 μ6 (((sg_g σ 88 37) - 1))  c1  w12)
-- NestedVectorsModel.lookGens
def V_lookGens (σ : sg_S) (a1 : Int) (Q : sg_S → Prop) : Prop := (∃ (I4 : Nat → Int → sg_S → Prop) (X6 : sg_S → Prop), (∃ n, I4 n (1) σ) ∧ (∀ (n14 : Nat) (v1 : Int) (σ2 : sg_S), sg_R v1 → sg_F [30088, 31088] σ σ2 → I4 n14 v1 σ2 → (0 ≤ a1 ∧ a1 < 210) ∧ (((sg_g σ 98 (a1)) ≤ v1 → X6 σ2) ∧ (v1 < (sg_g σ 98 (a1)) → (∃ (I89 : Nat → Int → sg_S → Prop) (X91 : sg_S → Prop), (∃ n, I89 n (0) σ2) ∧ (∀ (n99 : Nat) (v86 : Int) (σ87 : sg_S), sg_R v86 → sg_F [30088, 31088] σ2 σ87 → I89 n99 v86 σ87 → ((v1 ≤ v86 → X91 σ87) ∧ (v86 < v1 → sg_R (4 * a1) ∧ sg_R ((4 * a1) + v86) ∧ (0 ≤ ((4 * a1) + v86) ∧ ((4 * a1) + v86) < 840) ∧ sg_R ((4 * a1) + v1) ∧ (0 ≤ ((4 * a1) + v1) ∧ ((4 * a1) + v1) < 840) ∧ ((¬ (sg_gl σ 99 (((4 * a1) + v86))) = (sg_gl σ 99 (((4 * a1) + v1))) → sg_R (v86 + 1) ∧ (∃ m, m < n99 ∧ I89 m ((v86 + 1)) σ87)) ∧ ((sg_gl σ 99 (((4 * a1) + v86))) = (sg_gl σ 99 (((4 * a1) + v1))) → V_wrong σ87 (2) ((sg_g σ 100 (((4 * a1) + v1)))) (fun σ113 => sg_F [30088, 31088] σ87 σ113 → sg_R (v86 + 1) ∧ (∃ m, m < n99 ∧ I89 m ((v86 + 1)) σ113))))))) ∧ (∀ (σ87 : sg_S), sg_F [30088, 31088] σ2 σ87 → X91 σ87 → sg_R (v1 + 1) ∧ (∃ m, m < n14 ∧ I4 m ((v1 + 1)) σ87)))))) ∧ (∀ (σ2 : sg_S), sg_F [30088, 31088] σ σ2 → X6 σ2 → (∃ (I19 : Nat → Int → sg_S → Prop) (X21 : sg_S → Prop), (∃ n, I19 n (0) σ2) ∧ (∀ (n29 : Nat) (v16 : Int) (σ17 : sg_S), sg_R v16 → sg_F [30088, 31088] σ2 σ17 → I19 n29 v16 σ17 → (0 ≤ a1 ∧ a1 < 210) ∧ (((sg_g σ 98 (a1)) ≤ v16 → X21 σ17) ∧ (v16 < (sg_g σ 98 (a1)) → sg_R (1 + v16) ∧ p_kidType σ (a1) ((1 + v16)) ∧ (∃ P72 : sg_S → Prop, ((¬ (v_kidType σ (a1) ((1 + v16))) = 0 → P72 σ17) ∧ ((v_kidType σ (a1) ((1 + v16))) = 0 → V_wrong σ17 (3) ((sg_g σ 94 (a1))) (fun σ79 => sg_F [30088, 31088] σ17 σ79 → P72 σ79))) ∧ (∀ (σ73 : sg_S), sg_F [30088, 31088] σ17 σ73 → P72 σ73 → sg_R (v16 + 1) ∧ (∃ m, m < n29 ∧ I19 m ((v16 + 1)) σ73)))))) ∧ (∀ (σ17 : sg_S), sg_F [30088, 31088] σ2 σ17 → X21 σ17 → (∃ (I34 : Nat → Int → sg_S → Prop) (X36 : sg_S → Prop), (∃ n, I34 n (0) σ17) ∧ (∀ (n44 : Nat) (v31 : Int) (σ32 : sg_S), sg_R v31 → sg_F [113, 114, 115, 116, 38088] σ17 σ32 → I34 n44 v31 σ32 → (0 ≤ a1 ∧ a1 < 210) ∧ (((sg_g σ 98 (a1)) ≤ v31 → X36 σ32) ∧ (v31 < (sg_g σ 98 (a1)) → sg_R (4 * a1) ∧ sg_R ((4 * a1) + v31) ∧ (0 ≤ ((4 * a1) + v31) ∧ ((4 * a1) + v31) < 840) ∧ p_ofGen (a1) (v31) ∧ sg_R (1 + v31) ∧ p_kidType σ (a1) ((1 + v31)) ∧ sg_R ((v_kidType σ (a1) ((1 + v31))) - 1) ∧ V_know σ32 ((sg_gl σ 99 (((4 * a1) + v31)))) ((v_ofGen (a1) (v31))) (((v_kidType σ (a1) ((1 + v31))) - 1)) (fun σ58 => sg_F [113, 114, 115, 116, 38088] σ32 σ58 → sg_R (v31 + 1) ∧ (∃ m, m < n44 ∧ I34 m ((v31 + 1)) σ58))))) ∧ (∀ (σ32 : sg_S), sg_F [113, 114, 115, 116, 38088] σ17 σ32 → X36 σ32 → Q σ32))))))
set_option maxHeartbeats 4000000 in
set_option maxRecDepth 8000 in
theorem w_lookGens (z : Value) (σ : sg_S) (a1 : Int) (Q : sg_S → Prop) (ra1 : sg_R a1) (w : V_lookGens σ a1 Q) : wx z 1 288 0 [(0, .inr (.inr (.ref 88))), (1, .inl (a1))] [] σ (fun v σ' => v = none ∧ sg_F [113, 114, 115, 116, 30088, 31088, 38088] σ σ' ∧ Q σ') := by
  unfold V_lookGens at w
  refine wk_b tt_288 2 (pc' := 2) (ls' := [(2, .inl (1)), (0, .inr (.inr (.ref 88))), (1, .inl (a1))]) (st' := []) (σ' := σ) rfl ?_
  obtain ⟨I4, X6, ⟨μ5, w11⟩, w12, w13⟩ := w
  have ex15 : ∀ (σ2 : sg_S), sg_F [30088, 31088] σ σ2 → X6 σ2 → wx z 1 288 70 [(0, .inr (.inr (.ref 88))), (1, .inl (a1))] [] σ2 (fun v σ' => v = none ∧ sg_F [113, 114, 115, 116, 30088, 31088, 38088] σ σ' ∧ Q σ') := by
    intro σ2 hF3 w
    have w := w13 σ2 hF3 w
    refine wk_b tt_288 2 (pc' := 72) (ls' := [(2, .inl (0)), (0, .inr (.inr (.ref 88))), (1, .inl (a1))]) (st' := []) (σ' := σ2) rfl ?_
    obtain ⟨I19, X21, ⟨μ20, w26⟩, w27, w28⟩ := w
    have ex30 : ∀ (σ17 : sg_S), sg_F [30088, 31088] σ2 σ17 → X21 σ17 → wx z 1 288 110 [(0, .inr (.inr (.ref 88))), (1, .inl (a1))] [] σ17 (fun v σ' => v = none ∧ sg_F [113, 114, 115, 116, 30088, 31088, 38088] σ σ' ∧ Q σ') := by
      intro σ17 hF18 w
      have w := w28 σ17 hF18 w
      refine wk_b tt_288 2 (pc' := 112) (ls' := [(2, .inl (0)), (0, .inr (.inr (.ref 88))), (1, .inl (a1))]) (st' := []) (σ' := σ17) rfl ?_
      obtain ⟨I34, X36, ⟨μ35, w41⟩, w42, w43⟩ := w
      have ex45 : ∀ (σ32 : sg_S), sg_F [113, 114, 115, 116, 38088] σ17 σ32 → X36 σ32 → wx z 1 288 157 [] [] σ32 (fun v σ' => v = none ∧ sg_F [113, 114, 115, 116, 30088, 31088, 38088] σ σ' ∧ Q σ') := by
        intro σ32 hF33 w
        have w := w43 σ32 hF33 w
        exact wk_rV tt_288 rfl rfl ⟨rfl, (sg_F_t (sg_F_t (sg_F_t (sg_F_r [113, 114, 115, 116, 30088, 31088, 38088] σ) (sg_F_m (L := [113, 114, 115, 116, 30088, 31088, 38088]) hF3 rfl)) (sg_F_m (L := [113, 114, 115, 116, 30088, 31088, 38088]) hF18 rfl)) (sg_F_m (L := [113, 114, 115, 116, 30088, 31088, 38088]) hF33 rfl)), w⟩
      have lp40 : ∀ (n44 : Nat) (v31 : Int) (σ32 : sg_S), sg_R v31 → sg_F [113, 114, 115, 116, 38088] σ17 σ32 → I34 n44 v31 σ32 → wx z 1 288 112 [(0, .inr (.inr (.ref 88))), (1, .inl (a1)), (2, .inl (v31))] [] σ32 (fun v σ' => v = none ∧ sg_F [113, 114, 115, 116, 30088, 31088, 38088] σ σ' ∧ Q σ') := by
        intro n44
        induction n44 using Nat.strongRecOn with
        | _ n44 ih38 =>
          intro v31 σ32 r37 hF33 w
          have w := w42 n44 v31 σ32 r37 hF33 w
          refine wk_b tt_288 4 (pc' := 118) (ls' := [(0, .inr (.inr (.ref 88))), (1, .inl (a1)), (2, .inl (v31))]) (st' := [.inl (a1), .inr (.inr (.ref 98)), .inl (v31)]) (σ' := σ32) rfl ?_
          obtain ⟨c46, w⟩ := w
          refine wk_ia tt_288 rfl rfl c46.1 c46.2 ra1 ?_
          rw [show (sg_g σ32 98 (a1)) = (sg_g σ 98 (a1)) from by rw [sg_F_ga hF33 rfl, sg_F_ga hF18 rfl, sg_F_ga hF3 rfl]]
          refine wk_if2 tt_288 (tgt := 157) rfl rfl r37 (sg_Rg _ _ _) (fun (h47 : (sg_g σ 98 (a1)) ≤ v31) => ?_) (fun (h47 : v31 < (sg_g σ 98 (a1))) => ?_)
          ·
            have w := w.1 h47
            exact wk_ls [] rfl trivial (ex45  σ32  (sg_F_t (sg_F_r [113, 114, 115, 116, 38088] σ17) (sg_F_m (L := [113, 114, 115, 116, 38088]) hF33 rfl)) w)
          ·
            have w := w.2 h47
            obtain ⟨c48, w⟩ := w
            obtain ⟨c49, w⟩ := w
            refine wk_b tt_288 8 (pc' := 132) (ls' := [(0, .inr (.inr (.ref 88))), (1, .inl (a1)), (2, .inl (v31))]) (st' := [.inl (((4 * a1) + v31)), .inr (.inr (.ref 99)), .inr (.inr (.ref 88))]) (σ' := σ32) rfl ?_
            obtain ⟨c50, w⟩ := w
            refine wk_la tt_288 rfl rfl c50.1 c50.2 c49 ?_
            rw [show (sg_gl σ32 99 (((4 * a1) + v31))) = (sg_gl σ 99 (((4 * a1) + v31))) from by rw [sg_F_gal hF33 rfl, sg_F_gal hF18 rfl, sg_F_gal hF3 rfl]]
            refine wk_b tt_288 2 (pc' := 135) (ls' := [(0, .inr (.inr (.ref 88))), (1, .inl (a1)), (2, .inl (v31))]) (st' := [.inl (v31), .inl (a1), .inr (.inl ((sg_gl σ 99 (((4 * a1) + v31))))), .inr (.inr (.ref 88))]) (σ' := σ32) rfl ?_
            obtain ⟨c51, w⟩ := w
            refine wk_callp tt_288 rfl rfl rfl rfl rfl tt_297 rfl (by decide) (w_ofGen z σ32 (a1) (v31) ra1 r37 c51) ?_
            have r52 := vr_ofGen  (a1) (v31) ra1 r37 c51
            obtain ⟨c53, w⟩ := w
            refine wk_b tt_288 5 (pc' := 143) (ls' := [(0, .inr (.inr (.ref 88))), (1, .inl (a1)), (2, .inl (v31))]) (st' := [.inl ((1 + v31)), .inl (a1), .inr (.inr (.ref 88)), .inl ((v_ofGen (a1) (v31))), .inr (.inl ((sg_gl σ 99 (((4 * a1) + v31))))), .inr (.inr (.ref 88))]) (σ' := σ32) rfl ?_
            obtain ⟨c54, w⟩ := w
            have c54 : p_kidType σ32 (a1) ((1 + v31)) := by
              rw [pF_kidType hF33 rfl rfl, pF_kidType hF18 rfl rfl, pF_kidType hF3 rfl rfl]; exact c54
            refine wk_callp tt_288 rfl rfl rfl rfl rfl tt_273 rfl (by decide) (w_kidType z σ32 (a1) ((1 + v31)) ra1 c53 c54) ?_
            rw [vF_kidType hF33 rfl rfl, vF_kidType hF18 rfl rfl, vF_kidType hF3 rfl rfl]
            have r55 := vr_kidType σ  (a1) ((1 + v31)) ra1 c53 (by have q := c54; rw [pF_kidType hF33 rfl rfl, pF_kidType hF18 rfl rfl, pF_kidType hF3 rfl rfl] at q; exact q)
            obtain ⟨c56, w⟩ := w
            refine wk_b tt_288 2 (pc' := 148) (ls' := [(0, .inr (.inr (.ref 88))), (1, .inl (a1)), (2, .inl (v31))]) (st' := [.inl (((v_kidType σ (a1) ((1 + v31))) - 1)), .inl ((v_ofGen (a1) (v31))), .inr (.inl ((sg_gl σ 99 (((4 * a1) + v31))))), .inr (.inr (.ref 88))]) (σ' := σ32) rfl ?_
            refine wk_call tt_288 rfl rfl rfl rfl rfl tt_274 rfl (by decide) (w_know z σ32 ((sg_gl σ 99 (((4 * a1) + v31)))) ((v_ofGen (a1) (v31))) (((v_kidType σ (a1) ((1 + v31))) - 1)) _ (sg_Rgl _ _ _) r52 c56 w) (fun u62 σ58 hq60 => ?_)
            obtain ⟨rfl, hF59, w⟩ := hq60
            have w := w hF59
            obtain ⟨c63, w⟩ := w
            refine wk_b tt_288 2 (pc' := 112) (ls' := [(2, .inl ((v31 + 1))), (0, .inr (.inr (.ref 88))), (1, .inl (a1))]) (st' := []) (σ' := σ58) rfl ?_
            obtain ⟨m64, hm64, w⟩ := w
            exact wk_ls [(0, .inr (.inr (.ref 88))), (1, .inl (a1)), (2, .inl ((v31 + 1)))] rfl ⟨rfl, rfl, rfl, trivial⟩ (ih38 m64 hm64 ((v31 + 1)) σ58 c63 (sg_F_t (sg_F_t (sg_F_r [113, 114, 115, 116, 38088] σ17) (sg_F_m (L := [113, 114, 115, 116, 38088]) hF33 rfl)) (sg_F_m (L := [113, 114, 115, 116, 38088]) hF59 rfl)) w)
      exact wk_ls [(0, .inr (.inr (.ref 88))), (1, .inl (a1)), (2, .inl (0))] rfl ⟨rfl, rfl, rfl, trivial⟩ (lp40 μ35 (0) σ17 (by decide) (sg_F_r _ _) w41)
    have lp25 : ∀ (n29 : Nat) (v16 : Int) (σ17 : sg_S), sg_R v16 → sg_F [30088, 31088] σ2 σ17 → I19 n29 v16 σ17 → wx z 1 288 72 [(0, .inr (.inr (.ref 88))), (1, .inl (a1)), (2, .inl (v16))] [] σ17 (fun v σ' => v = none ∧ sg_F [113, 114, 115, 116, 30088, 31088, 38088] σ σ' ∧ Q σ') := by
      intro n29
      induction n29 using Nat.strongRecOn with
      | _ n29 ih23 =>
        intro v16 σ17 r22 hF18 w
        have w := w27 n29 v16 σ17 r22 hF18 w
        refine wk_b tt_288 4 (pc' := 78) (ls' := [(0, .inr (.inr (.ref 88))), (1, .inl (a1)), (2, .inl (v16))]) (st' := [.inl (a1), .inr (.inr (.ref 98)), .inl (v16)]) (σ' := σ17) rfl ?_
        obtain ⟨c65, w⟩ := w
        refine wk_ia tt_288 rfl rfl c65.1 c65.2 ra1 ?_
        rw [show (sg_g σ17 98 (a1)) = (sg_g σ 98 (a1)) from by rw [sg_F_ga hF18 rfl, sg_F_ga hF3 rfl]]
        refine wk_if2 tt_288 (tgt := 110) rfl rfl r22 (sg_Rg _ _ _) (fun (h66 : (sg_g σ 98 (a1)) ≤ v16) => ?_) (fun (h66 : v16 < (sg_g σ 98 (a1))) => ?_)
        ·
          have w := w.1 h66
          exact wk_ls [(0, .inr (.inr (.ref 88))), (1, .inl (a1))] rfl ⟨rfl, rfl, trivial⟩ (ex30  σ17  (sg_F_t (sg_F_r [30088, 31088] σ2) (sg_F_m (L := [30088, 31088]) hF18 rfl)) w)
        ·
          have w := w.2 h66
          obtain ⟨c67, w⟩ := w
          refine wk_b tt_288 5 (pc' := 87) (ls' := [(0, .inr (.inr (.ref 88))), (1, .inl (a1)), (2, .inl (v16))]) (st' := [.inl ((1 + v16)), .inl (a1), .inr (.inr (.ref 88))]) (σ' := σ17) rfl ?_
          obtain ⟨c68, w⟩ := w
          have c68 : p_kidType σ17 (a1) ((1 + v16)) := by
            rw [pF_kidType hF18 rfl rfl, pF_kidType hF3 rfl rfl]; exact c68
          refine wk_callp tt_288 rfl rfl rfl rfl rfl tt_273 rfl (by decide) (w_kidType z σ17 (a1) ((1 + v16)) ra1 c67 c68) ?_
          rw [vF_kidType hF18 rfl rfl, vF_kidType hF3 rfl rfl]
          have r69 := vr_kidType σ  (a1) ((1 + v16)) ra1 c67 (by have q := c68; rw [pF_kidType hF18 rfl rfl, pF_kidType hF3 rfl rfl] at q; exact q)
          obtain ⟨P72, w, w75⟩ := w
          have jn71 : ∀ (σ73 : sg_S), sg_F [30088, 31088] σ17 σ73 → P72 σ73 → wx z 1 288 104 [(0, .inr (.inr (.ref 88))), (1, .inl (a1)), (2, .inl (v16))] [] σ73 (fun v σ' => v = none ∧ sg_F [113, 114, 115, 116, 30088, 31088, 38088] σ σ' ∧ Q σ') := by
            intro σ73 hF74 w
            have w := w75 σ73 hF74 w
            obtain ⟨c76, w⟩ := w
            refine wk_b tt_288 2 (pc' := 72) (ls' := [(2, .inl ((v16 + 1))), (0, .inr (.inr (.ref 88))), (1, .inl (a1))]) (st' := []) (σ' := σ73) rfl ?_
            obtain ⟨m77, hm77, w⟩ := w
            exact wk_ls [(0, .inr (.inr (.ref 88))), (1, .inl (a1)), (2, .inl ((v16 + 1)))] rfl ⟨rfl, rfl, rfl, trivial⟩ (ih23 m77 hm77 ((v16 + 1)) σ73 c76 (sg_F_t (sg_F_t (sg_F_r [30088, 31088] σ2) (sg_F_m (L := [30088, 31088]) hF18 rfl)) (sg_F_m (L := [30088, 31088]) hF74 rfl)) w)
          refine wk_if tt_288 (tgt := 104) rfl rfl r69 (fun (h70 : ¬ (v_kidType σ (a1) ((1 + v16))) = 0) => ?_) (fun (h70 : (v_kidType σ (a1) ((1 + v16))) = 0) => ?_)
          ·
            have w := w.1 h70
            exact wk_ls [(0, .inr (.inr (.ref 88))), (1, .inl (a1)), (2, .inl (v16))] rfl ⟨rfl, rfl, rfl, trivial⟩ (jn71 σ17 (sg_F_r [30088, 31088] σ17) w)
          ·
            have w := w.2 h70
            refine wk_b tt_288 5 (pc' := 100) (ls' := [(0, .inr (.inr (.ref 88))), (1, .inl (a1)), (2, .inl (v16))]) (st' := [.inl (a1), .inr (.inr (.ref 94)), .inl (3), .inr (.inr (.ref 88))]) (σ' := σ17) rfl ?_
            refine wk_ia tt_288 rfl rfl c65.1 c65.2 ra1 ?_
            rw [show (sg_g σ17 94 (a1)) = (sg_g σ 94 (a1)) from by rw [sg_F_ga hF18 rfl, sg_F_ga hF3 rfl]]
            refine wk_call tt_288 rfl rfl rfl rfl rfl tt_336 rfl (by decide) (w_wrong z σ17 (3) ((sg_g σ 94 (a1))) _ (by decide) (sg_Rg _ _ _) w) (fun u83 σ79 hq81 => ?_)
            obtain ⟨rfl, hF80, w⟩ := hq81
            have w := w hF80
            exact wk_ls [(0, .inr (.inr (.ref 88))), (1, .inl (a1)), (2, .inl (v16))] rfl ⟨rfl, rfl, rfl, trivial⟩ (jn71 σ79 (sg_F_t (sg_F_r [30088, 31088] σ17) (sg_F_m (L := [30088, 31088]) hF80 rfl)) w)
    exact wk_ls [(0, .inr (.inr (.ref 88))), (1, .inl (a1)), (2, .inl (0))] rfl ⟨rfl, rfl, rfl, trivial⟩ (lp25 μ20 (0) σ2 (by decide) (sg_F_r _ _) w26)
  have lp10 : ∀ (n14 : Nat) (v1 : Int) (σ2 : sg_S), sg_R v1 → sg_F [30088, 31088] σ σ2 → I4 n14 v1 σ2 → wx z 1 288 2 [(0, .inr (.inr (.ref 88))), (1, .inl (a1)), (2, .inl (v1))] [] σ2 (fun v σ' => v = none ∧ sg_F [113, 114, 115, 116, 30088, 31088, 38088] σ σ' ∧ Q σ') := by
    intro n14
    induction n14 using Nat.strongRecOn with
    | _ n14 ih8 =>
      intro v1 σ2 r7 hF3 w
      have w := w12 n14 v1 σ2 r7 hF3 w
      refine wk_b tt_288 4 (pc' := 8) (ls' := [(0, .inr (.inr (.ref 88))), (1, .inl (a1)), (2, .inl (v1))]) (st' := [.inl (a1), .inr (.inr (.ref 98)), .inl (v1)]) (σ' := σ2) rfl ?_
      obtain ⟨c84, w⟩ := w
      refine wk_ia tt_288 rfl rfl c84.1 c84.2 ra1 ?_
      rw [show (sg_g σ2 98 (a1)) = (sg_g σ 98 (a1)) from by rw [sg_F_ga hF3 rfl]]
      refine wk_if2 tt_288 (tgt := 70) rfl rfl r7 (sg_Rg _ _ _) (fun (h85 : (sg_g σ 98 (a1)) ≤ v1) => ?_) (fun (h85 : v1 < (sg_g σ 98 (a1))) => ?_)
      ·
        have w := w.1 h85
        exact wk_ls [(0, .inr (.inr (.ref 88))), (1, .inl (a1))] rfl ⟨rfl, rfl, trivial⟩ (ex15  σ2  (sg_F_t (sg_F_r [30088, 31088] σ) (sg_F_m (L := [30088, 31088]) hF3 rfl)) w)
      ·
        have w := w.2 h85
        refine wk_b tt_288 2 (pc' := 14) (ls' := [(3, .inl (0)), (0, .inr (.inr (.ref 88))), (1, .inl (a1)), (2, .inl (v1))]) (st' := []) (σ' := σ2) rfl ?_
        obtain ⟨I89, X91, ⟨μ90, w96⟩, w97, w98⟩ := w
        have ex100 : ∀ (σ87 : sg_S), sg_F [30088, 31088] σ2 σ87 → X91 σ87 → wx z 1 288 64 [(0, .inr (.inr (.ref 88))), (1, .inl (a1)), (2, .inl (v1))] [] σ87 (fun v σ' => v = none ∧ sg_F [113, 114, 115, 116, 30088, 31088, 38088] σ σ' ∧ Q σ') := by
          intro σ87 hF88 w
          have w := w98 σ87 hF88 w
          obtain ⟨c101, w⟩ := w
          refine wk_b tt_288 2 (pc' := 2) (ls' := [(2, .inl ((v1 + 1))), (0, .inr (.inr (.ref 88))), (1, .inl (a1))]) (st' := []) (σ' := σ87) rfl ?_
          obtain ⟨m102, hm102, w⟩ := w
          exact wk_ls [(0, .inr (.inr (.ref 88))), (1, .inl (a1)), (2, .inl ((v1 + 1)))] rfl ⟨rfl, rfl, rfl, trivial⟩ (ih8 m102 hm102 ((v1 + 1)) σ87 c101 (sg_F_t (sg_F_t (sg_F_r [30088, 31088] σ) (sg_F_m (L := [30088, 31088]) hF3 rfl)) (sg_F_m (L := [30088, 31088]) hF88 rfl)) w)
        have lp95 : ∀ (n99 : Nat) (v86 : Int) (σ87 : sg_S), sg_R v86 → sg_F [30088, 31088] σ2 σ87 → I89 n99 v86 σ87 → wx z 1 288 14 [(0, .inr (.inr (.ref 88))), (1, .inl (a1)), (2, .inl (v1)), (3, .inl (v86))] [] σ87 (fun v σ' => v = none ∧ sg_F [113, 114, 115, 116, 30088, 31088, 38088] σ σ' ∧ Q σ') := by
          intro n99
          induction n99 using Nat.strongRecOn with
          | _ n99 ih93 =>
            intro v86 σ87 r92 hF88 w
            have w := w97 n99 v86 σ87 r92 hF88 w
            refine wk_b tt_288 2 (pc' := 16) (ls' := [(0, .inr (.inr (.ref 88))), (1, .inl (a1)), (2, .inl (v1)), (3, .inl (v86))]) (st' := [.inl (v1), .inl (v86)]) (σ' := σ87) rfl ?_
            refine wk_if2 tt_288 (tgt := 64) rfl rfl r92 r7 (fun (h103 : v1 ≤ v86) => ?_) (fun (h103 : v86 < v1) => ?_)
            ·
              have w := w.1 h103
              exact wk_ls [(0, .inr (.inr (.ref 88))), (1, .inl (a1)), (2, .inl (v1))] rfl ⟨rfl, rfl, rfl, trivial⟩ (ex100  σ87  (sg_F_t (sg_F_r [30088, 31088] σ2) (sg_F_m (L := [30088, 31088]) hF88 rfl)) w)
            ·
              have w := w.2 h103
              obtain ⟨c104, w⟩ := w
              obtain ⟨c105, w⟩ := w
              refine wk_b tt_288 7 (pc' := 28) (ls' := [(0, .inr (.inr (.ref 88))), (1, .inl (a1)), (2, .inl (v1)), (3, .inl (v86))]) (st' := [.inl (((4 * a1) + v86)), .inr (.inr (.ref 99))]) (σ' := σ87) rfl ?_
              obtain ⟨c106, w⟩ := w
              refine wk_la tt_288 rfl rfl c106.1 c106.2 c105 ?_
              rw [show (sg_gl σ87 99 (((4 * a1) + v86))) = (sg_gl σ 99 (((4 * a1) + v86))) from by rw [sg_F_gal hF88 rfl, sg_F_gal hF3 rfl]]
              obtain ⟨c107, w⟩ := w
              refine wk_b tt_288 7 (pc' := 38) (ls' := [(0, .inr (.inr (.ref 88))), (1, .inl (a1)), (2, .inl (v1)), (3, .inl (v86))]) (st' := [.inl (((4 * a1) + v1)), .inr (.inr (.ref 99)), .inr (.inl ((sg_gl σ 99 (((4 * a1) + v86)))))]) (σ' := σ87) rfl ?_
              obtain ⟨c108, w⟩ := w
              refine wk_la tt_288 rfl rfl c108.1 c108.2 c107 ?_
              rw [show (sg_gl σ87 99 (((4 * a1) + v1))) = (sg_gl σ 99 (((4 * a1) + v1))) from by rw [sg_F_gal hF88 rfl, sg_F_gal hF3 rfl]]
              refine wk_lcif tt_288 (tgt := 58) rfl rfl rfl (sg_Rgl _ _ _) (sg_Rgl _ _ _) (fun (h109 : ¬ (sg_gl σ 99 (((4 * a1) + v86))) = (sg_gl σ 99 (((4 * a1) + v1)))) => ?_) (fun (h109 : (sg_gl σ 99 (((4 * a1) + v86))) = (sg_gl σ 99 (((4 * a1) + v1)))) => ?_)
              ·
                have w := w.1 h109
                obtain ⟨c110, w⟩ := w
                refine wk_b tt_288 2 (pc' := 14) (ls' := [(3, .inl ((v86 + 1))), (0, .inr (.inr (.ref 88))), (1, .inl (a1)), (2, .inl (v1))]) (st' := []) (σ' := σ87) rfl ?_
                obtain ⟨m111, hm111, w⟩ := w
                exact wk_ls [(0, .inr (.inr (.ref 88))), (1, .inl (a1)), (2, .inl (v1)), (3, .inl ((v86 + 1)))] rfl ⟨rfl, rfl, rfl, rfl, trivial⟩ (ih93 m111 hm111 ((v86 + 1)) σ87 c110 (sg_F_t (sg_F_r [30088, 31088] σ2) (sg_F_m (L := [30088, 31088]) hF88 rfl)) w)
              ·
                have w := w.2 h109
                refine wk_b tt_288 9 (pc' := 54) (ls' := [(0, .inr (.inr (.ref 88))), (1, .inl (a1)), (2, .inl (v1)), (3, .inl (v86))]) (st' := [.inl (((4 * a1) + v1)), .inr (.inr (.ref 100)), .inl (2), .inr (.inr (.ref 88))]) (σ' := σ87) rfl ?_
                refine wk_ia tt_288 rfl rfl c108.1 c108.2 c107 ?_
                rw [show (sg_g σ87 100 (((4 * a1) + v1))) = (sg_g σ 100 (((4 * a1) + v1))) from by rw [sg_F_ga hF88 rfl, sg_F_ga hF3 rfl]]
                refine wk_call tt_288 rfl rfl rfl rfl rfl tt_336 rfl (by decide) (w_wrong z σ87 (2) ((sg_g σ 100 (((4 * a1) + v1)))) _ (by decide) (sg_Rg _ _ _) w) (fun u117 σ113 hq115 => ?_)
                obtain ⟨rfl, hF114, w⟩ := hq115
                have w := w hF114
                obtain ⟨c118, w⟩ := w
                refine wk_b tt_288 2 (pc' := 14) (ls' := [(3, .inl ((v86 + 1))), (0, .inr (.inr (.ref 88))), (1, .inl (a1)), (2, .inl (v1))]) (st' := []) (σ' := σ113) rfl ?_
                obtain ⟨m119, hm119, w⟩ := w
                exact wk_ls [(0, .inr (.inr (.ref 88))), (1, .inl (a1)), (2, .inl (v1)), (3, .inl ((v86 + 1)))] rfl ⟨rfl, rfl, rfl, rfl, trivial⟩ (ih93 m119 hm119 ((v86 + 1)) σ113 c118 (sg_F_t (sg_F_t (sg_F_r [30088, 31088] σ2) (sg_F_m (L := [30088, 31088]) hF88 rfl)) (sg_F_m (L := [30088, 31088]) hF114 rfl)) w)
        exact wk_ls [(0, .inr (.inr (.ref 88))), (1, .inl (a1)), (2, .inl (v1)), (3, .inl (0))] rfl ⟨rfl, rfl, rfl, rfl, trivial⟩ (lp95 μ90 (0) σ2 (by decide) (sg_F_r _ _) w96)
  exact wk_ls [(0, .inr (.inr (.ref 88))), (1, .inl (a1)), (2, .inl (1))] rfl ⟨rfl, rfl, rfl, trivial⟩ (lp10 μ5 (1) σ (by decide) (sg_F_r _ _) w11)
/-! Conditions of the reference's methods, by program (34). -/
-- NestedVectorsModel.partOf
def v_partOf (σ : sg_S) (a1 : Int) (a2 : Int) : Int := (if (sg_g σ 93 (a1)) = 15 then (if (sg_g σ 98 (a1)) ≤ a2 then (if (v_hasTest σ (a1)) = 0 then (if ¬ a2 = (sg_g σ 98 (a1)) then ((-1) : Int) else (0 : Int)) else (if ¬ a2 = (sg_g σ 98 (a1)) then (if ¬ a2 = ((sg_g σ 98 (a1)) + 1) then ((-1) : Int) else (0 : Int)) else ((sg_g σ 96 (a1)) - 1))) else (1 + a2)) else (if (sg_g σ 96 (a1)) ≤ a2 then ((-1) : Int) else a2))
def p_partOf (σ : sg_S) (a1 : Int) (a2 : Int) : Prop := (0 ≤ a1 ∧ a1 < 210) ∧ (((sg_g σ 93 (a1)) = 15 → (((sg_g σ 98 (a1)) ≤ a2 → p_hasTest σ (a1) ∧ (((v_hasTest σ (a1)) = 0 → ((¬ a2 = (sg_g σ 98 (a1)) → True) ∧ (a2 = (sg_g σ 98 (a1)) → True))) ∧ (¬ (v_hasTest σ (a1)) = 0 → ((¬ a2 = (sg_g σ 98 (a1)) → sg_R ((sg_g σ 98 (a1)) + 1) ∧ ((¬ a2 = ((sg_g σ 98 (a1)) + 1) → True) ∧ (a2 = ((sg_g σ 98 (a1)) + 1) → True))) ∧ (a2 = (sg_g σ 98 (a1)) → sg_R ((sg_g σ 96 (a1)) - 1) ∧ True))))) ∧ (a2 < (sg_g σ 98 (a1)) → sg_R (1 + a2) ∧ True))) ∧ (¬ (sg_g σ 93 (a1)) = 15 → (((sg_g σ 96 (a1)) ≤ a2 → True) ∧ (a2 < (sg_g σ 96 (a1)) → True))))
set_option maxHeartbeats 4000000 in
set_option maxRecDepth 8000 in
theorem w_partOf (z : Value) (σ : sg_S) (a1 : Int) (a2 : Int) (ra1 : sg_R a1) (ra2 : sg_R a2) (w : p_partOf σ a1 a2) : wx z 1 302 0 [(0, .inr (.inr (.ref 88))), (1, .inl (a1)), (2, .inl (a2))] [] σ (fun v σ' => v = some (.inl (v_partOf σ a1 a2)) ∧ σ' = σ) := by
  unfold p_partOf at w
  refine wk_b tt_302 3 (pc' := 5) (ls' := [(0, .inr (.inr (.ref 88))), (1, .inl (a1)), (2, .inl (a2))]) (st' := [.inl (a1), .inr (.inr (.ref 93))]) (σ' := σ) rfl ?_
  obtain ⟨c1, w⟩ := w
  refine wk_ia tt_302 rfl rfl c1.1 c1.2 ra1 ?_
  refine wk_b tt_302 1 (pc' := 8) (ls' := [(0, .inr (.inr (.ref 88))), (1, .inl (a1)), (2, .inl (a2))]) (st' := [.inl (15), .inl ((sg_g σ 93 (a1)))]) (σ' := σ) rfl ?_
  refine wk_if2 tt_302 (tgt := 27) rfl rfl (sg_Rg _ _ _) (by decide) (fun (h2 : (sg_g σ 93 (a1)) = 15) => ?_) (fun (h2 : ¬ (sg_g σ 93 (a1)) = 15) => ?_)
  ·
    have w := w.1 h2
    refine wk_b tt_302 4 (pc' := 33) (ls' := [(0, .inr (.inr (.ref 88))), (1, .inl (a1)), (2, .inl (a2))]) (st' := [.inl (a1), .inr (.inr (.ref 98)), .inl (a2)]) (σ' := σ) rfl ?_
    refine wk_ia tt_302 rfl rfl c1.1 c1.2 ra1 ?_
    refine wk_if2 tt_302 (tgt := 41) rfl rfl ra2 (sg_Rg _ _ _) (fun (h3 : (sg_g σ 98 (a1)) ≤ a2) => ?_) (fun (h3 : a2 < (sg_g σ 98 (a1))) => ?_)
    ·
      have w := w.1 h3
      refine wk_b tt_302 2 (pc' := 43) (ls' := [(0, .inr (.inr (.ref 88))), (1, .inl (a1)), (2, .inl (a2))]) (st' := [.inl (a1), .inr (.inr (.ref 88))]) (σ' := σ) rfl ?_
      obtain ⟨c4, w⟩ := w
      refine wk_callp tt_302 rfl rfl rfl rfl rfl tt_257 rfl (by decide) (w_hasTest z σ (a1) ra1 c4) ?_
      refine wk_if tt_302 (tgt := 88) rfl rfl (sg_Rz (vz_hasTest ..)) (fun (h5 : (v_hasTest σ (a1)) = 0) => ?_) (fun (h5 : ¬ (v_hasTest σ (a1)) = 0) => ?_)
      ·
        have w := w.1 h5
        refine wk_b tt_302 4 (pc' := 94) (ls' := [(0, .inr (.inr (.ref 88))), (1, .inl (a1)), (2, .inl (a2))]) (st' := [.inl (a1), .inr (.inr (.ref 98)), .inl (a2)]) (σ' := σ) rfl ?_
        refine wk_ia tt_302 rfl rfl c1.1 c1.2 ra1 ?_
        refine wk_if2 tt_302 (tgt := 102) rfl rfl ra2 (sg_Rg _ _ _) (fun (h6 : ¬ a2 = (sg_g σ 98 (a1))) => ?_) (fun (h6 : a2 = (sg_g σ 98 (a1))) => ?_)
        ·
          have w := w.1 h6
          refine wk_b tt_302 1 (pc' := 103) (ls' := [(0, .inr (.inr (.ref 88))), (1, .inl (a1)), (2, .inl (a2))]) (st' := [.inl ((-1))]) (σ' := σ) rfl ?_
          exact wk_rI tt_302 rfl rfl ⟨by rw [v_partOf, if_pos h2, if_pos h3, if_pos h5, if_pos h6], rfl⟩
        ·
          have w := w.2 h6
          refine wk_b tt_302 2 (pc' := 103) (ls' := [(0, .inr (.inr (.ref 88))), (1, .inl (a1)), (2, .inl (a2))]) (st' := [.inl (0)]) (σ' := σ) rfl ?_
          exact wk_rI tt_302 rfl rfl ⟨by rw [v_partOf, if_pos h2, if_pos h3, if_pos h5, if_neg (show ¬ (¬ a2 = (sg_g σ 98 (a1))) by omega)], rfl⟩
      ·
        have w := w.2 h5
        refine wk_b tt_302 4 (pc' := 55) (ls' := [(0, .inr (.inr (.ref 88))), (1, .inl (a1)), (2, .inl (a2))]) (st' := [.inl (a1), .inr (.inr (.ref 98)), .inl (a2)]) (σ' := σ) rfl ?_
        refine wk_ia tt_302 rfl rfl c1.1 c1.2 ra1 ?_
        refine wk_if2 tt_302 (tgt := 70) rfl rfl ra2 (sg_Rg _ _ _) (fun (h7 : ¬ a2 = (sg_g σ 98 (a1))) => ?_) (fun (h7 : a2 = (sg_g σ 98 (a1))) => ?_)
        ·
          have w := w.1 h7
          refine wk_b tt_302 4 (pc' := 76) (ls' := [(0, .inr (.inr (.ref 88))), (1, .inl (a1)), (2, .inl (a2))]) (st' := [.inl (a1), .inr (.inr (.ref 98)), .inl (a2)]) (σ' := σ) rfl ?_
          refine wk_ia tt_302 rfl rfl c1.1 c1.2 ra1 ?_
          obtain ⟨c8, w⟩ := w
          refine wk_b tt_302 2 (pc' := 79) (ls' := [(0, .inr (.inr (.ref 88))), (1, .inl (a1)), (2, .inl (a2))]) (st' := [.inl (((sg_g σ 98 (a1)) + 1)), .inl (a2)]) (σ' := σ) rfl ?_
          refine wk_if2 tt_302 (tgt := 86) rfl rfl ra2 c8 (fun (h9 : ¬ a2 = ((sg_g σ 98 (a1)) + 1)) => ?_) (fun (h9 : a2 = ((sg_g σ 98 (a1)) + 1)) => ?_)
          ·
            have w := w.1 h9
            refine wk_b tt_302 1 (pc' := 87) (ls' := [(0, .inr (.inr (.ref 88))), (1, .inl (a1)), (2, .inl (a2))]) (st' := [.inl ((-1))]) (σ' := σ) rfl ?_
            exact wk_rI tt_302 rfl rfl ⟨by rw [v_partOf, if_pos h2, if_pos h3, if_neg (show ¬ ((v_hasTest σ (a1)) = 0) by omega), if_pos h7, if_pos h9], rfl⟩
          ·
            have w := w.2 h9
            refine wk_b tt_302 2 (pc' := 87) (ls' := [(0, .inr (.inr (.ref 88))), (1, .inl (a1)), (2, .inl (a2))]) (st' := [.inl (0)]) (σ' := σ) rfl ?_
            exact wk_rI tt_302 rfl rfl ⟨by rw [v_partOf, if_pos h2, if_pos h3, if_neg (show ¬ ((v_hasTest σ (a1)) = 0) by omega), if_pos h7, if_neg (show ¬ (¬ a2 = ((sg_g σ 98 (a1)) + 1)) by omega)], rfl⟩
        ·
          have w := w.2 h7
          refine wk_b tt_302 3 (pc' := 64) (ls' := [(0, .inr (.inr (.ref 88))), (1, .inl (a1)), (2, .inl (a2))]) (st' := [.inl (a1), .inr (.inr (.ref 96))]) (σ' := σ) rfl ?_
          refine wk_ia tt_302 rfl rfl c1.1 c1.2 ra1 ?_
          obtain ⟨c10, w⟩ := w
          refine wk_b tt_302 3 (pc' := 87) (ls' := [(0, .inr (.inr (.ref 88))), (1, .inl (a1)), (2, .inl (a2))]) (st' := [.inl (((sg_g σ 96 (a1)) - 1))]) (σ' := σ) rfl ?_
          exact wk_rI tt_302 rfl rfl ⟨by rw [v_partOf, if_pos h2, if_pos h3, if_neg (show ¬ ((v_hasTest σ (a1)) = 0) by omega), if_neg (show ¬ (¬ a2 = (sg_g σ 98 (a1))) by omega)], rfl⟩
    ·
      have w := w.2 h3
      obtain ⟨c11, w⟩ := w
      refine wk_b tt_302 3 (pc' := 40) (ls' := [(0, .inr (.inr (.ref 88))), (1, .inl (a1)), (2, .inl (a2))]) (st' := [.inl ((1 + a2))]) (σ' := σ) rfl ?_
      exact wk_rI tt_302 rfl rfl ⟨by rw [v_partOf, if_pos h2, if_neg (show ¬ ((sg_g σ 98 (a1)) ≤ a2) by omega)], rfl⟩
  ·
    have w := w.2 h2
    refine wk_b tt_302 4 (pc' := 17) (ls' := [(0, .inr (.inr (.ref 88))), (1, .inl (a1)), (2, .inl (a2))]) (st' := [.inl (a1), .inr (.inr (.ref 96)), .inl (a2)]) (σ' := σ) rfl ?_
    refine wk_ia tt_302 rfl rfl c1.1 c1.2 ra1 ?_
    refine wk_if2 tt_302 (tgt := 25) rfl rfl ra2 (sg_Rg _ _ _) (fun (h12 : (sg_g σ 96 (a1)) ≤ a2) => ?_) (fun (h12 : a2 < (sg_g σ 96 (a1))) => ?_)
    ·
      have w := w.1 h12
      refine wk_b tt_302 1 (pc' := 26) (ls' := [(0, .inr (.inr (.ref 88))), (1, .inl (a1)), (2, .inl (a2))]) (st' := [.inl ((-1))]) (σ' := σ) rfl ?_
      exact wk_rI tt_302 rfl rfl ⟨by rw [v_partOf, if_neg (show ¬ ((sg_g σ 93 (a1)) = 15) by omega), if_pos h12], rfl⟩
    ·
      have w := w.2 h12
      refine wk_b tt_302 2 (pc' := 26) (ls' := [(0, .inr (.inr (.ref 88))), (1, .inl (a1)), (2, .inl (a2))]) (st' := [.inl (a2)]) (σ' := σ) rfl ?_
      exact wk_rI tt_302 rfl rfl ⟨by rw [v_partOf, if_neg (show ¬ ((sg_g σ 93 (a1)) = 15) by omega), if_neg (show ¬ ((sg_g σ 96 (a1)) ≤ a2) by omega)], rfl⟩
theorem vF_partOf {L : List Nat} {σ σ' : sg_S} {a1 : Int} {a2 : Int} (hF : sg_F L σ σ') (h0 : sg_ca L 93 = true) (h1 : sg_ca L 96 = true) (h2 : sg_ca L 98 = true) : v_partOf σ' a1 a2 = v_partOf σ a1 a2 := by
  unfold v_partOf
  simp only [sg_F_ga (k := _) hF h0, sg_F_gal (k := _) hF h0, sg_F_ga (k := _) hF h1, sg_F_gal (k := _) hF h1, sg_F_ga (k := _) hF h2, sg_F_gal (k := _) hF h2, vF_hasTest hF h1 h2, pF_hasTest hF h1 h2, vF_has hF h1, pF_has hF h1]
theorem pF_partOf {L : List Nat} {σ σ' : sg_S} {a1 : Int} {a2 : Int} (hF : sg_F L σ σ') (h0 : sg_ca L 93 = true) (h1 : sg_ca L 96 = true) (h2 : sg_ca L 98 = true) : p_partOf σ' a1 a2 = p_partOf σ a1 a2 := by
  unfold p_partOf
  simp only [sg_F_ga (k := _) hF h0, sg_F_gal (k := _) hF h0, sg_F_ga (k := _) hF h1, sg_F_gal (k := _) hF h1, sg_F_ga (k := _) hF h2, sg_F_gal (k := _) hF h2, vF_hasTest hF h1 h2, pF_hasTest hF h1 h2, vF_has hF h1, pF_has hF h1]
theorem vr_partOf (σ : sg_S) (a1 : Int) (a2 : Int) (ra1 : sg_R a1) (ra2 : sg_R a2) (w : p_partOf σ a1 a2) : sg_R (v_partOf σ a1 a2) := by
  unfold v_partOf
  unfold p_partOf at w
  by_cases h : (sg_g σ 93 (a1)) = 15
  · rw [if_pos h]
    first | (have w := w.1 h) | (have w := w.2.1 h) | (have w := w.2.2.1 h) | skip
    by_cases h : (sg_g σ 98 (a1)) ≤ a2
    · rw [if_pos h]
      first | (have w := w.1 h) | (have w := w.2.1 h) | (have w := w.2.2.1 h) | skip
      by_cases h : (v_hasTest σ (a1)) = 0
      · rw [if_pos h]
        first | (have w := w.1 h) | (have w := w.2.1 h) | (have w := w.2.2.1 h) | skip
        by_cases h : ¬ a2 = (sg_g σ 98 (a1))
        · rw [if_pos h]
          first | (have w := w.1 h) | (have w := w.2.1 h) | (have w := w.2.2.1 h) | skip
          decide
        · rw [if_neg h]
          first | (have w := w.2 (by omega)) | (have w := w.2.2 (by omega)) | (have w := w.2.2.2 (by omega)) | skip
          decide
      · rw [if_neg h]
        first | (have w := w.2 (by omega)) | (have w := w.2.2 (by omega)) | (have w := w.2.2.2 (by omega)) | skip
        by_cases h : ¬ a2 = (sg_g σ 98 (a1))
        · rw [if_pos h]
          first | (have w := w.1 h) | (have w := w.2.1 h) | (have w := w.2.2.1 h) | skip
          by_cases h : ¬ a2 = ((sg_g σ 98 (a1)) + 1)
          · rw [if_pos h]
            first | (have w := w.1 h) | (have w := w.2.1 h) | (have w := w.2.2.1 h) | skip
            decide
          · rw [if_neg h]
            first | (have w := w.2 (by omega)) | (have w := w.2.2 (by omega)) | (have w := w.2.2.2 (by omega)) | skip
            decide
        · rw [if_neg h]
          first | (have w := w.2 (by omega)) | (have w := w.2.2 (by omega)) | (have w := w.2.2.2 (by omega)) | skip
          first | exact w.1 | exact w.2.1 | exact w.2.2.1 | exact sg_Rg _ _ _ | exact sg_Rgl _ _ _ | exact sg_Rr _ | exact sg_RLr _ | assumption | omega | (constructor <;> omega)
    · rw [if_neg h]
      first | (have w := w.2 (by omega)) | (have w := w.2.2 (by omega)) | (have w := w.2.2.2 (by omega)) | skip
      first | exact w.1 | exact w.2.1 | exact w.2.2.1 | exact sg_Rg _ _ _ | exact sg_Rgl _ _ _ | exact sg_Rr _ | exact sg_RLr _ | assumption | omega | (constructor <;> omega)
  · rw [if_neg h]
    first | (have w := w.2 (by omega)) | (have w := w.2.2 (by omega)) | (have w := w.2.2.2 (by omega)) | skip
    by_cases h : (sg_g σ 96 (a1)) ≤ a2
    · rw [if_pos h]
      first | (have w := w.1 h) | (have w := w.2.1 h) | (have w := w.2.2.1 h) | skip
      decide
    · rw [if_neg h]
      first | (have w := w.2 (by omega)) | (have w := w.2.2 (by omega)) | (have w := w.2.2.2 (by omega)) | skip
      first | exact w.1 | exact w.2.1 | exact w.2.2.1 | exact sg_Rg _ _ _ | exact sg_Rgl _ _ _ | exact sg_Rr _ | exact sg_RLr _ | assumption | omega | (constructor <;> omega)
-- NestedVectorsModel.lookAt
def V_lookAt_0 (σ : sg_S) (b1 : Int) (Q : sg_S → Prop) : Prop := (0 ≤ b1 ∧ b1 < 210) ∧ ∀ σ2, σ2 = (sg_w σ 101 (b1) (0)) → Q σ2
set_option maxHeartbeats 4000000 in
set_option maxRecDepth 8000 in
theorem w_lookAt_0 (z : Value) (σ : sg_S) (b1 : Int) (Q : sg_S → Prop) (rb1 : sg_R b1) (w : V_lookAt_0 σ b1 Q) : wx z 0 285 124 [(0, .inr (.inr (.ref 88))), (1, .inl (b1))] [] σ (fun v σ' => v = none ∧ sg_F [101] σ σ' ∧ Q σ') := by
  unfold V_lookAt_0 at w
  refine wk_b tt_285 4 (pc' := 130) (ls' := [(0, .inr (.inr (.ref 88))), (1, .inl (b1))]) (st' := [.inl (0), .inl (b1), .inr (.inr (.ref 101))]) (σ' := σ) rfl ?_
  obtain ⟨c1, w⟩ := w
  refine wk_is tt_285 rfl rfl c1.1 c1.2 rb1 ?_
  generalize hs3 : (sg_w σ 101 (b1) (0)) = σ2
  have w := w σ2 hs3.symm
  have hF4 : sg_F [101] σ σ2 := by rw [← hs3]; exact sg_F_w (sg_F_r _ _) rfl _
  refine wk_b tt_285 1 (pc' := 419) (ls' := [(0, .inr (.inr (.ref 88))), (1, .inl (b1))]) (st' := []) (σ' := σ2) rfl ?_
  exact wk_rV tt_285 rfl rfl ⟨rfl, (sg_F_t (sg_F_r [101] σ) (sg_F_m (L := [101]) hF4 rfl)), w⟩
-- NestedVectorsModel.lookAt
def V_lookAt_1 (σ : sg_S) (b1 : Int) (Q : sg_S → Prop) : Prop := (0 ≤ b1 ∧ b1 < 210) ∧ V_knownAt σ ((sg_gl σ 95 (b1))) (fun q2 _ => sg_R q2 → ((0 ≤ q2 → (0 ≤ q2 ∧ q2 < 300) ∧ ∀ σ10, σ10 = (sg_w σ 102 (b1) ((sg_g σ 114 (q2)))) → ∀ σ13, σ13 = (sg_w σ10 101 (b1) ((sg_g σ 115 (q2)))) → Q σ13) ∧ (q2 < 0 → V_wrong σ (2) ((sg_g σ 94 (b1))) (fun σ17 => sg_F [30088, 31088] σ σ17 → Q σ17))))
set_option maxHeartbeats 4000000 in
set_option maxRecDepth 8000 in
theorem w_lookAt_1 (z : Value) (σ : sg_S) (b1 : Int) (Q : sg_S → Prop) (rb1 : sg_R b1) (w : V_lookAt_1 σ b1 Q) : wx z 1 285 134 [(0, .inr (.inr (.ref 88))), (1, .inl (b1))] [] σ (fun v σ' => v = none ∧ sg_F [101, 102, 30088, 31088] σ σ' ∧ Q σ') := by
  unfold V_lookAt_1 at w
  refine wk_b tt_285 4 (pc' := 140) (ls' := [(0, .inr (.inr (.ref 88))), (1, .inl (b1))]) (st' := [.inl (b1), .inr (.inr (.ref 95)), .inr (.inr (.ref 88))]) (σ' := σ) rfl ?_
  obtain ⟨c1, w⟩ := w
  refine wk_la tt_285 rfl rfl c1.1 c1.2 rb1 ?_
  refine wk_call tt_285 rfl rfl rfl rfl rfl tt_275 rfl (by decide) (w_knownAt z σ ((sg_gl σ 95 (b1))) _ (sg_Rgl _ _ _) w) (fun u7 σ3 hq5 => ?_)
  obtain ⟨q2, rfl, r6, rfl, w⟩ := hq5
  have w := w r6
  refine wk_b tt_285 2 (pc' := 148) (ls' := [(4, .inl (q2)), (0, .inr (.inr (.ref 88))), (1, .inl (b1))]) (st' := [.inl (q2)]) (σ' := σ) rfl ?_
  refine wk_if tt_285 (tgt := 165) rfl rfl r6 (fun (h8 : 0 ≤ q2) => ?_) (fun (h8 : q2 < 0) => ?_)
  ·
    have w := w.1 h8
    refine wk_b tt_285 6 (pc' := 176) (ls' := [(4, .inl (q2)), (0, .inr (.inr (.ref 88))), (1, .inl (b1))]) (st' := [.inl (q2), .inr (.inr (.ref 114)), .inl (b1), .inr (.inr (.ref 102))]) (σ' := σ) rfl ?_
    obtain ⟨c9, w⟩ := w
    refine wk_ia tt_285 rfl rfl c9.1 c9.2 r6 ?_
    refine wk_is tt_285 rfl rfl c1.1 c1.2 rb1 ?_
    generalize hs11 : (sg_w σ 102 (b1) ((sg_g σ 114 (q2)))) = σ10
    have w := w σ10 hs11.symm
    have hF12 : sg_F [102] σ σ10 := by rw [← hs11]; exact sg_F_w (sg_F_r _ _) rfl _
    refine wk_b tt_285 6 (pc' := 189) (ls' := [(4, .inl (q2)), (0, .inr (.inr (.ref 88))), (1, .inl (b1))]) (st' := [.inl (q2), .inr (.inr (.ref 115)), .inl (b1), .inr (.inr (.ref 101))]) (σ' := σ10) rfl ?_
    refine wk_ia tt_285 rfl rfl c9.1 c9.2 r6 ?_
    rw [show (sg_g σ10 115 (q2)) = (sg_g σ 115 (q2)) from by rw [sg_F_ga hF12 rfl]]
    refine wk_is tt_285 rfl rfl c1.1 c1.2 rb1 ?_
    generalize hs14 : (sg_w σ10 101 (b1) ((sg_g σ 115 (q2)))) = σ13
    have w := w σ13 hs14.symm
    have hF15 : sg_F [101] σ10 σ13 := by rw [← hs14]; exact sg_F_w (sg_F_r _ _) rfl _
    refine wk_b tt_285 1 (pc' := 419) (ls' := [(4, .inl (q2)), (0, .inr (.inr (.ref 88))), (1, .inl (b1))]) (st' := []) (σ' := σ13) rfl ?_
    exact wk_rV tt_285 rfl rfl ⟨rfl, (sg_F_t (sg_F_t (sg_F_r [101, 102, 30088, 31088] σ) (sg_F_m (L := [101, 102, 30088, 31088]) hF12 rfl)) (sg_F_m (L := [101, 102, 30088, 31088]) hF15 rfl)), w⟩
  ·
    have w := w.2 h8
    refine wk_b tt_285 5 (pc' := 158) (ls' := [(4, .inl (q2)), (0, .inr (.inr (.ref 88))), (1, .inl (b1))]) (st' := [.inl (b1), .inr (.inr (.ref 94)), .inl (2), .inr (.inr (.ref 88))]) (σ' := σ) rfl ?_
    refine wk_ia tt_285 rfl rfl c1.1 c1.2 rb1 ?_
    refine wk_call tt_285 rfl rfl rfl rfl rfl tt_336 rfl (by decide) (w_wrong z σ (2) ((sg_g σ 94 (b1))) _ (by decide) (sg_Rg _ _ _) w) (fun u21 σ17 hq19 => ?_)
    obtain ⟨rfl, hF18, w⟩ := hq19
    have w := w hF18
    refine wk_b tt_285 1 (pc' := 419) (ls' := [(4, .inl (q2)), (0, .inr (.inr (.ref 88))), (1, .inl (b1))]) (st' := []) (σ' := σ17) rfl ?_
    exact wk_rV tt_285 rfl rfl ⟨rfl, (sg_F_t (sg_F_r [101, 102, 30088, 31088] σ) (sg_F_m (L := [101, 102, 30088, 31088]) hF18 rfl)), w⟩
-- NestedVectorsModel.lookAt
def V_lookAt_2 (σ : sg_S) (b1 : Int) (b3 : Int) (Q : sg_S → Prop) : Prop := (0 ≤ b1 ∧ b1 < 210) ∧ ∀ σ2, σ2 = (sg_w σ 101 (b1) (b3)) → Q σ2
set_option maxHeartbeats 4000000 in
set_option maxRecDepth 8000 in
theorem w_lookAt_2 (z : Value) (σ : sg_S) (b1 : Int) (b3 : Int) (Q : sg_S → Prop) (rb1 : sg_R b1) (rb3 : sg_R b3) (w : V_lookAt_2 σ b1 b3 Q) : wx z 0 285 194 [(0, .inr (.inr (.ref 88))), (1, .inl (b1)), (3, .inl (b3))] [] σ (fun v σ' => v = none ∧ sg_F [101] σ σ' ∧ Q σ') := by
  unfold V_lookAt_2 at w
  refine wk_b tt_285 4 (pc' := 200) (ls' := [(0, .inr (.inr (.ref 88))), (1, .inl (b1)), (3, .inl (b3))]) (st' := [.inl (b3), .inl (b1), .inr (.inr (.ref 101))]) (σ' := σ) rfl ?_
  obtain ⟨c1, w⟩ := w
  refine wk_is tt_285 rfl rfl c1.1 c1.2 rb1 ?_
  generalize hs3 : (sg_w σ 101 (b1) (b3)) = σ2
  have w := w σ2 hs3.symm
  have hF4 : sg_F [101] σ σ2 := by rw [← hs3]; exact sg_F_w (sg_F_r _ _) rfl _
  refine wk_b tt_285 1 (pc' := 419) (ls' := [(0, .inr (.inr (.ref 88))), (1, .inl (b1)), (3, .inl (b3))]) (st' := []) (σ' := σ2) rfl ?_
  exact wk_rV tt_285 rfl rfl ⟨rfl, (sg_F_t (sg_F_r [101] σ) (sg_F_m (L := [101]) hF4 rfl)), w⟩
-- NestedVectorsModel.typed
def V_typed (σ : sg_S) (a1 : Int) (a2 : Int) (a3 : Int) (Q : sg_S → Prop) : Prop := (∃ P3 : sg_S → Prop, ((a2 = 0 → (0 ≤ a1 ∧ a1 < 210) ∧ V_wrong σ (3) ((sg_g σ 94 (a1))) (fun σ13 => sg_F [30088, 31088] σ σ13 → P3 σ13)) ∧ (¬ a2 = 0 → ((a3 ≤ 3 → P3 σ) ∧ (3 < a3 → (0 ≤ a1 ∧ a1 < 210) ∧ V_wrong σ (3) ((sg_g σ 94 (a1))) (fun σ21 => sg_F [30088, 31088] σ σ21 → P3 σ21))))) ∧ (∀ (σ4 : sg_S), sg_F [30088, 31088] σ σ4 → P3 σ4 → (0 ≤ a1 ∧ a1 < 210) ∧ ∀ σ8, σ8 = (sg_w σ4 101 (a1) (a3)) → Q σ8))
set_option maxHeartbeats 4000000 in
set_option maxRecDepth 8000 in
theorem w_typed (z : Value) (σ : sg_S) (a1 : Int) (a2 : Int) (a3 : Int) (Q : sg_S → Prop) (ra1 : sg_R a1) (ra2 : sg_R a2) (ra3 : sg_R a3) (w : V_typed σ a1 a2 a3 Q) : wx z 1 333 0 [(0, .inr (.inr (.ref 88))), (1, .inl (a1)), (2, .inl (a2)), (3, .inl (a3))] [] σ (fun v σ' => v = none ∧ sg_F [101, 30088, 31088] σ σ' ∧ Q σ') := by
  unfold V_typed at w
  refine wk_b tt_333 1 (pc' := 1) (ls' := [(0, .inr (.inr (.ref 88))), (1, .inl (a1)), (2, .inl (a2)), (3, .inl (a3))]) (st' := [.inl (a2)]) (σ' := σ) rfl ?_
  obtain ⟨P3, w, w6⟩ := w
  have jn2 : ∀ (σ4 : sg_S), sg_F [30088, 31088] σ σ4 → P3 σ4 → wx z 1 333 20 [(0, .inr (.inr (.ref 88))), (1, .inl (a1)), (3, .inl (a3))] [] σ4 (fun v σ' => v = none ∧ sg_F [101, 30088, 31088] σ σ' ∧ Q σ') := by
    intro σ4 hF5 w
    have w := w6 σ4 hF5 w
    refine wk_b tt_333 4 (pc' := 26) (ls' := [(0, .inr (.inr (.ref 88))), (1, .inl (a1)), (3, .inl (a3))]) (st' := [.inl (a3), .inl (a1), .inr (.inr (.ref 101))]) (σ' := σ4) rfl ?_
    obtain ⟨c7, w⟩ := w
    refine wk_is tt_333 rfl rfl c7.1 c7.2 ra1 ?_
    generalize hs9 : (sg_w σ4 101 (a1) (a3)) = σ8
    have w := w σ8 hs9.symm
    have hF10 : sg_F [101] σ4 σ8 := by rw [← hs9]; exact sg_F_w (sg_F_r _ _) rfl _
    exact wk_rV tt_333 rfl rfl ⟨rfl, (sg_F_t (sg_F_t (sg_F_r [101, 30088, 31088] σ) (sg_F_m (L := [101, 30088, 31088]) hF5 rfl)) (sg_F_m (L := [101, 30088, 31088]) hF10 rfl)), w⟩
  refine wk_if tt_333 (tgt := 9) rfl rfl ra2 (fun (h1 : a2 = 0) => ?_) (fun (h1 : ¬ a2 = 0) => ?_)
  ·
    have w := w.1 h1
    refine wk_b tt_333 5 (pc' := 16) (ls' := [(0, .inr (.inr (.ref 88))), (1, .inl (a1)), (2, .inl (a2)), (3, .inl (a3))]) (st' := [.inl (a1), .inr (.inr (.ref 94)), .inl (3), .inr (.inr (.ref 88))]) (σ' := σ) rfl ?_
    obtain ⟨c11, w⟩ := w
    refine wk_ia tt_333 rfl rfl c11.1 c11.2 ra1 ?_
    refine wk_call tt_333 rfl rfl rfl rfl rfl tt_336 rfl (by decide) (w_wrong z σ (3) ((sg_g σ 94 (a1))) _ (by decide) (sg_Rg _ _ _) w) (fun u17 σ13 hq15 => ?_)
    obtain ⟨rfl, hF14, w⟩ := hq15
    have w := w hF14
    exact wk_ls [(0, .inr (.inr (.ref 88))), (1, .inl (a1)), (3, .inl (a3))] rfl ⟨rfl, rfl, rfl, trivial⟩ (jn2 σ13 (sg_F_t (sg_F_r [30088, 31088] σ) (sg_F_m (L := [30088, 31088]) hF14 rfl)) w)
  ·
    have w := w.2 h1
    refine wk_b tt_333 2 (pc' := 6) (ls' := [(0, .inr (.inr (.ref 88))), (1, .inl (a1)), (2, .inl (a2)), (3, .inl (a3))]) (st' := [.inl (3), .inl (a3)]) (σ' := σ) rfl ?_
    refine wk_if2 tt_333 (tgt := 20) rfl rfl ra3 (by decide) (fun (h18 : a3 ≤ 3) => ?_) (fun (h18 : 3 < a3) => ?_)
    ·
      have w := w.1 h18
      exact wk_ls [(0, .inr (.inr (.ref 88))), (1, .inl (a1)), (3, .inl (a3))] rfl ⟨rfl, rfl, rfl, trivial⟩ (jn2 σ (sg_F_r [30088, 31088] σ) w)
    ·
      have w := w.2 h18
      refine wk_b tt_333 5 (pc' := 16) (ls' := [(0, .inr (.inr (.ref 88))), (1, .inl (a1)), (2, .inl (a2)), (3, .inl (a3))]) (st' := [.inl (a1), .inr (.inr (.ref 94)), .inl (3), .inr (.inr (.ref 88))]) (σ' := σ) rfl ?_
      obtain ⟨c19, w⟩ := w
      refine wk_ia tt_333 rfl rfl c19.1 c19.2 ra1 ?_
      refine wk_call tt_333 rfl rfl rfl rfl rfl tt_336 rfl (by decide) (w_wrong z σ (3) ((sg_g σ 94 (a1))) _ (by decide) (sg_Rg _ _ _) w) (fun u25 σ21 hq23 => ?_)
      obtain ⟨rfl, hF22, w⟩ := hq23
      have w := w hF22
      exact wk_ls [(0, .inr (.inr (.ref 88))), (1, .inl (a1)), (3, .inl (a3))] rfl ⟨rfl, rfl, rfl, trivial⟩ (jn2 σ21 (sg_F_t (sg_F_r [30088, 31088] σ) (sg_F_m (L := [30088, 31088]) hF22 rfl)) w)
-- NestedVectorsModel.lookAt
def V_lookAt_3 (σ : sg_S) (b1 : Int) (b2 : Int) (b3 : Int) (Q : sg_S → Prop) : Prop := ((¬ b2 = 0 → True) ∧ (b2 = 0 → p_kidType σ (b1) (2) ∧ ((¬ b3 = (v_kidType σ (b1) (2)) → True) ∧ (b3 = (v_kidType σ (b1) (2)) → True)))) ∧ ∀ v3 : Int, v3 = (if ¬ b2 = 0 then (0 : Int) else (if ¬ b3 = (v_kidType σ (b1) (2)) then (0 : Int) else (1 : Int))) → sg_R v3 → V_typed σ (b1) (v3) (b3) (fun σ7 => sg_F [101, 30088, 31088] σ σ7 → Q σ7)
set_option maxHeartbeats 4000000 in
set_option maxRecDepth 8000 in
theorem w_lookAt_3 (z : Value) (σ : sg_S) (b1 : Int) (b2 : Int) (b3 : Int) (Q : sg_S → Prop) (rb1 : sg_R b1) (rb2 : sg_R b2) (rb3 : sg_R b3) (w : V_lookAt_3 σ b1 b2 b3 Q) : wx z 2 285 204 [(0, .inr (.inr (.ref 88))), (1, .inl (b1)), (2, .inl (b2)), (3, .inl (b3))] [] σ (fun v σ' => v = none ∧ sg_F [101, 30088, 31088] σ σ' ∧ Q σ') := by
  unfold V_lookAt_3 at w
  refine wk_b tt_285 3 (pc' := 207) (ls' := [(0, .inr (.inr (.ref 88))), (1, .inl (b1)), (2, .inl (b2)), (3, .inl (b3))]) (st' := [.inl (b2), .inl (b1), .inr (.inr (.ref 88))]) (σ' := σ) rfl ?_
  obtain ⟨wp, w⟩ := w
  have jn2 : ∀ v3 : Int, v3 = (if ¬ b2 = 0 then (0 : Int) else (if ¬ b3 = (v_kidType σ (b1) (2)) then (0 : Int) else (1 : Int))) → sg_R v3 → wx z 2 285 225 [(3, .inl (b3))] [.inl (v3), .inl (b1), .inr (.inr (.ref 88))] σ (fun v σ' => v = none ∧ sg_F [101, 30088, 31088] σ σ' ∧ Q σ') := by
    intro v3 e5 r4
    have w := w v3 e5 r4
    refine wk_b tt_285 1 (pc' := 226) (ls' := [(3, .inl (b3))]) (st' := [.inl (b3), .inl (v3), .inl (b1), .inr (.inr (.ref 88))]) (σ' := σ) rfl ?_
    refine wk_call tt_285 rfl rfl rfl rfl rfl tt_333 rfl (by decide) (w_typed z σ (b1) (v3) (b3) _ rb1 r4 rb3 w) (fun u11 σ7 hq9 => ?_)
    obtain ⟨rfl, hF8, w⟩ := hq9
    have w := w hF8
    refine wk_b tt_285 1 (pc' := 419) (ls' := [(3, .inl (b3))]) (st' := []) (σ' := σ7) rfl ?_
    exact wk_rV tt_285 rfl rfl ⟨rfl, (sg_F_t (sg_F_r [101, 30088, 31088] σ) (sg_F_m (L := [101, 30088, 31088]) hF8 rfl)), w⟩
  have w := wp
  refine wk_if tt_285 (tgt := 224) rfl rfl rb2 (fun (h1 : ¬ b2 = 0) => ?_) (fun (h1 : b2 = 0) => ?_)
  ·
    have w := w.1 h1
    refine wk_b tt_285 1 (pc' := 225) (ls' := [(0, .inr (.inr (.ref 88))), (1, .inl (b1)), (2, .inl (b2)), (3, .inl (b3))]) (st' := [.inl (0), .inl (b1), .inr (.inr (.ref 88))]) (σ' := σ) rfl ?_
    exact wk_ls [(3, .inl (b3))] rfl ⟨rfl, trivial⟩ (jn2 (0) (by simp only [if_pos h1]) (by decide))
  ·
    have w := w.2 h1
    refine wk_b tt_285 4 (pc' := 214) (ls' := [(0, .inr (.inr (.ref 88))), (1, .inl (b1)), (2, .inl (b2)), (3, .inl (b3))]) (st' := [.inl (2), .inl (b1), .inr (.inr (.ref 88)), .inl (b3), .inl (b1), .inr (.inr (.ref 88))]) (σ' := σ) rfl ?_
    obtain ⟨c12, w⟩ := w
    refine wk_callp tt_285 rfl rfl rfl rfl rfl tt_273 rfl (by decide) (w_kidType z σ (b1) (2) rb1 (by decide) c12) ?_
    have r13 := vr_kidType σ  (b1) (2) rb1 (by decide) c12
    refine wk_if2 tt_285 (tgt := 224) rfl rfl rb3 r13 (fun (h14 : ¬ b3 = (v_kidType σ (b1) (2))) => ?_) (fun (h14 : b3 = (v_kidType σ (b1) (2))) => ?_)
    ·
      have w := w.1 h14
      refine wk_b tt_285 1 (pc' := 225) (ls' := [(0, .inr (.inr (.ref 88))), (1, .inl (b1)), (2, .inl (b2)), (3, .inl (b3))]) (st' := [.inl (0), .inl (b1), .inr (.inr (.ref 88))]) (σ' := σ) rfl ?_
      exact wk_ls [(3, .inl (b3))] rfl ⟨rfl, trivial⟩ (jn2 (0) (by simp only [if_neg (show ¬ (¬ b2 = 0) by omega), if_pos h14]) (by decide))
    ·
      have w := w.2 h14
      refine wk_b tt_285 2 (pc' := 225) (ls' := [(0, .inr (.inr (.ref 88))), (1, .inl (b1)), (2, .inl (b2)), (3, .inl (b3))]) (st' := [.inl (1), .inl (b1), .inr (.inr (.ref 88))]) (σ' := σ) rfl ?_
      exact wk_ls [(3, .inl (b3))] rfl ⟨rfl, trivial⟩ (jn2 (1) (by simp only [if_neg (show ¬ (¬ b2 = 0) by omega), if_neg (show ¬ (¬ b3 = (v_kidType σ (b1) (2))) by omega)]) (by decide))
-- NestedVectorsModel.lookAt
def V_lookAt_11 (σ : sg_S) (b1 : Int) (b2 : Int) (Q : sg_S → Prop) : Prop := ∀ v3 : Int, v3 = (if b2 ≤ 0 then (0 : Int) else (1 : Int)) → sg_R v3 → V_typed σ (b1) (v3) (0) (fun σ7 => sg_F [101, 30088, 31088] σ σ7 → Q σ7)
set_option maxHeartbeats 4000000 in
set_option maxRecDepth 8000 in
theorem w_lookAt_11 (z : Value) (σ : sg_S) (b1 : Int) (b2 : Int) (Q : sg_S → Prop) (rb1 : sg_R b1) (rb2 : sg_R b2) (w : V_lookAt_11 σ b1 b2 Q) : wx z 2 285 232 [(0, .inr (.inr (.ref 88))), (1, .inl (b1)), (2, .inl (b2))] [] σ (fun v σ' => v = none ∧ sg_F [101, 30088, 31088] σ σ' ∧ Q σ') := by
  unfold V_lookAt_11 at w
  refine wk_b tt_285 3 (pc' := 235) (ls' := [(0, .inr (.inr (.ref 88))), (1, .inl (b1)), (2, .inl (b2))]) (st' := [.inl (b2), .inl (b1), .inr (.inr (.ref 88))]) (σ' := σ) rfl ?_
  have jn2 : ∀ v3 : Int, v3 = (if b2 ≤ 0 then (0 : Int) else (1 : Int)) → sg_R v3 → wx z 2 285 243 [] [.inl (v3), .inl (b1), .inr (.inr (.ref 88))] σ (fun v σ' => v = none ∧ sg_F [101, 30088, 31088] σ σ' ∧ Q σ') := by
    intro v3 e5 r4
    have w := w v3 e5 r4
    refine wk_b tt_285 1 (pc' := 244) (ls' := []) (st' := [.inl (0), .inl (v3), .inl (b1), .inr (.inr (.ref 88))]) (σ' := σ) rfl ?_
    refine wk_call tt_285 rfl rfl rfl rfl rfl tt_333 rfl (by decide) (w_typed z σ (b1) (v3) (0) _ rb1 r4 (by decide) w) (fun u11 σ7 hq9 => ?_)
    obtain ⟨rfl, hF8, w⟩ := hq9
    have w := w hF8
    refine wk_b tt_285 1 (pc' := 419) (ls' := []) (st' := []) (σ' := σ7) rfl ?_
    exact wk_rV tt_285 rfl rfl ⟨rfl, (sg_F_t (sg_F_r [101, 30088, 31088] σ) (sg_F_m (L := [101, 30088, 31088]) hF8 rfl)), w⟩
  refine wk_if tt_285 (tgt := 242) rfl rfl rb2 (fun (h1 : b2 ≤ 0) => ?_) (fun (h1 : 0 < b2) => ?_)
  ·
    clear w
    refine wk_b tt_285 1 (pc' := 243) (ls' := [(0, .inr (.inr (.ref 88))), (1, .inl (b1)), (2, .inl (b2))]) (st' := [.inl (0), .inl (b1), .inr (.inr (.ref 88))]) (σ' := σ) rfl ?_
    exact wk_ls [] rfl trivial (jn2 (0) (by simp only [if_pos h1]) (by decide))
  ·
    clear w
    refine wk_b tt_285 2 (pc' := 243) (ls' := [(0, .inr (.inr (.ref 88))), (1, .inl (b1)), (2, .inl (b2))]) (st' := [.inl (1), .inl (b1), .inr (.inr (.ref 88))]) (σ' := σ) rfl ?_
    exact wk_ls [] rfl trivial (jn2 (1) (by simp only [if_neg (show ¬ (b2 ≤ 0) by omega)]) (by decide))
-- NestedVectorsModel.lookAt
def V_lookAt_12 (σ : sg_S) (b1 : Int) (b2 : Int) (b3 : Int) (Q : sg_S → Prop) : Prop := ∀ v3 : Int, v3 = (if b2 ≤ 0 then (0 : Int) else (if ¬ b3 = 0 then (0 : Int) else (1 : Int))) → sg_R v3 → sg_R (b2 - 1) ∧ V_typed σ (b1) (v3) ((b2 - 1)) (fun σ8 => sg_F [101, 30088, 31088] σ σ8 → Q σ8)
set_option maxHeartbeats 4000000 in
set_option maxRecDepth 8000 in
theorem w_lookAt_12 (z : Value) (σ : sg_S) (b1 : Int) (b2 : Int) (b3 : Int) (Q : sg_S → Prop) (rb1 : sg_R b1) (rb2 : sg_R b2) (rb3 : sg_R b3) (w : V_lookAt_12 σ b1 b2 b3 Q) : wx z 2 285 250 [(0, .inr (.inr (.ref 88))), (1, .inl (b1)), (2, .inl (b2)), (3, .inl (b3))] [] σ (fun v σ' => v = none ∧ sg_F [101, 30088, 31088] σ σ' ∧ Q σ') := by
  unfold V_lookAt_12 at w
  refine wk_b tt_285 3 (pc' := 253) (ls' := [(0, .inr (.inr (.ref 88))), (1, .inl (b1)), (2, .inl (b2)), (3, .inl (b3))]) (st' := [.inl (b2), .inl (b1), .inr (.inr (.ref 88))]) (σ' := σ) rfl ?_
  have jn2 : ∀ v3 : Int, v3 = (if b2 ≤ 0 then (0 : Int) else (if ¬ b3 = 0 then (0 : Int) else (1 : Int))) → sg_R v3 → wx z 2 285 265 [(2, .inl (b2))] [.inl (v3), .inl (b1), .inr (.inr (.ref 88))] σ (fun v σ' => v = none ∧ sg_F [101, 30088, 31088] σ σ' ∧ Q σ') := by
    intro v3 e5 r4
    have w := w v3 e5 r4
    obtain ⟨c6, w⟩ := w
    refine wk_b tt_285 3 (pc' := 268) (ls' := [(2, .inl (b2))]) (st' := [.inl ((b2 - 1)), .inl (v3), .inl (b1), .inr (.inr (.ref 88))]) (σ' := σ) rfl ?_
    refine wk_call tt_285 rfl rfl rfl rfl rfl tt_333 rfl (by decide) (w_typed z σ (b1) (v3) ((b2 - 1)) _ rb1 r4 c6 w) (fun u12 σ8 hq10 => ?_)
    obtain ⟨rfl, hF9, w⟩ := hq10
    have w := w hF9
    refine wk_b tt_285 1 (pc' := 419) (ls' := [(2, .inl (b2))]) (st' := []) (σ' := σ8) rfl ?_
    exact wk_rV tt_285 rfl rfl ⟨rfl, (sg_F_t (sg_F_r [101, 30088, 31088] σ) (sg_F_m (L := [101, 30088, 31088]) hF9 rfl)), w⟩
  refine wk_if tt_285 (tgt := 264) rfl rfl rb2 (fun (h1 : b2 ≤ 0) => ?_) (fun (h1 : 0 < b2) => ?_)
  ·
    clear w
    refine wk_b tt_285 1 (pc' := 265) (ls' := [(0, .inr (.inr (.ref 88))), (1, .inl (b1)), (2, .inl (b2)), (3, .inl (b3))]) (st' := [.inl (0), .inl (b1), .inr (.inr (.ref 88))]) (σ' := σ) rfl ?_
    exact wk_ls [(2, .inl (b2))] rfl ⟨rfl, trivial⟩ (jn2 (0) (by simp only [if_pos h1]) (by decide))
  ·
    clear w
    refine wk_b tt_285 1 (pc' := 257) (ls' := [(0, .inr (.inr (.ref 88))), (1, .inl (b1)), (2, .inl (b2)), (3, .inl (b3))]) (st' := [.inl (b3), .inl (b1), .inr (.inr (.ref 88))]) (σ' := σ) rfl ?_
    refine wk_if tt_285 (tgt := 264) rfl rfl rb3 (fun (h13 : ¬ b3 = 0) => ?_) (fun (h13 : b3 = 0) => ?_)
    ·
      refine wk_b tt_285 1 (pc' := 265) (ls' := [(0, .inr (.inr (.ref 88))), (1, .inl (b1)), (2, .inl (b2)), (3, .inl (b3))]) (st' := [.inl (0), .inl (b1), .inr (.inr (.ref 88))]) (σ' := σ) rfl ?_
      exact wk_ls [(2, .inl (b2))] rfl ⟨rfl, trivial⟩ (jn2 (0) (by simp only [if_neg (show ¬ (b2 ≤ 0) by omega), if_pos h13]) (by decide))
    ·
      refine wk_b tt_285 2 (pc' := 265) (ls' := [(0, .inr (.inr (.ref 88))), (1, .inl (b1)), (2, .inl (b2)), (3, .inl (b3))]) (st' := [.inl (1), .inl (b1), .inr (.inr (.ref 88))]) (σ' := σ) rfl ?_
      exact wk_ls [(2, .inl (b2))] rfl ⟨rfl, trivial⟩ (jn2 (1) (by simp only [if_neg (show ¬ (b2 ≤ 0) by omega), if_neg (show ¬ (¬ b3 = 0) by omega)]) (by decide))
-- NestedVectorsModel.lookCall
def V_lookCall (σ : sg_S) (a1 : Int) (Q : sg_S → Prop) : Prop := (0 ≤ a1 ∧ a1 < 210) ∧ V_defNamed σ ((sg_gl σ 95 (a1))) (fun q2 _ => sg_R q2 → ((0 ≤ q2 → (0 ≤ q2 ∧ q2 < 12) ∧ ∀ v12 : Int, v12 = (if ¬ (sg_g σ 96 (a1)) = (sg_g σ 106 (q2)) then (0 : Int) else (1 : Int)) → sg_R v12 → (∃ (I19 : Nat → Int → Int → Prop) (X21 : Int → Prop), (∃ n, I19 n (v12) (0)) ∧ (∀ (n30 : Nat) (v15 : Int) (v16 : Int), sg_R v15 → sg_R v16 → I19 n30 v15 v16 → (((sg_g σ 96 (a1)) ≤ v16 → X21 (v15)) ∧ (v16 < (sg_g σ 96 (a1)) → ((v15 = 0 → X21 (v15)) ∧ (¬ v15 = 0 → p_kidType σ (a1) (v16) ∧ sg_R (6 * q2) ∧ sg_R ((6 * q2) + v16) ∧ (0 ≤ ((6 * q2) + v16) ∧ ((6 * q2) + v16) < 72) ∧ ∀ v51 : Int, v51 = (if ¬ (v_kidType σ (a1) (v16)) = (sg_g σ 109 (((6 * q2) + v16))) then (0 : Int) else (1 : Int)) → sg_R v51 → sg_R (v16 + 1) ∧ (∃ m, m < n30 ∧ I19 m (v51) ((v16 + 1)))))))) ∧ (∀ (v15 : Int), sg_R v15 → X21 v15 → ∀ σ32, σ32 = (sg_w σ 102 (a1) (q2)) → (0 ≤ (sg_g σ 105 (q2)) ∧ (sg_g σ 105 (q2)) < 210) ∧ V_typed σ32 (a1) (v15) ((sg_g σ 101 ((sg_g σ 105 (q2))))) (fun σ37 => sg_F [101, 30088, 31088] σ32 σ37 → Q σ37)))) ∧ (q2 < 0 → V_wrong σ (2) ((sg_g σ 94 (a1))) (fun σ57 => sg_F [30088, 31088] σ σ57 → Q σ57))))
set_option maxHeartbeats 4000000 in
set_option maxRecDepth 8000 in
theorem w_lookCall (z : Value) (σ : sg_S) (a1 : Int) (Q : sg_S → Prop) (ra1 : sg_R a1) (w : V_lookCall σ a1 Q) : wx z 2 286 0 [(0, .inr (.inr (.ref 88))), (1, .inl (a1))] [] σ (fun v σ' => v = none ∧ sg_F [101, 102, 30088, 31088] σ σ' ∧ Q σ') := by
  unfold V_lookCall at w
  refine wk_b tt_286 4 (pc' := 6) (ls' := [(0, .inr (.inr (.ref 88))), (1, .inl (a1))]) (st' := [.inl (a1), .inr (.inr (.ref 95)), .inr (.inr (.ref 88))]) (σ' := σ) rfl ?_
  obtain ⟨c1, w⟩ := w
  refine wk_la tt_286 rfl rfl c1.1 c1.2 ra1 ?_
  refine wk_call tt_286 rfl rfl rfl rfl rfl tt_221 rfl (by decide) (w_defNamed z σ ((sg_gl σ 95 (a1))) _ (sg_Rgl _ _ _) w) (fun u7 σ3 hq5 => ?_)
  obtain ⟨q2, rfl, r6, rfl, w⟩ := hq5
  have w := w r6
  refine wk_b tt_286 2 (pc' := 12) (ls' := [(2, .inl (q2)), (0, .inr (.inr (.ref 88))), (1, .inl (a1))]) (st' := [.inl (q2)]) (σ' := σ) rfl ?_
  refine wk_if tt_286 (tgt := 27) rfl rfl r6 (fun (h8 : 0 ≤ q2) => ?_) (fun (h8 : q2 < 0) => ?_)
  ·
    have w := w.1 h8
    refine wk_b tt_286 3 (pc' := 32) (ls' := [(2, .inl (q2)), (0, .inr (.inr (.ref 88))), (1, .inl (a1))]) (st' := [.inl (a1), .inr (.inr (.ref 96))]) (σ' := σ) rfl ?_
    refine wk_ia tt_286 rfl rfl c1.1 c1.2 ra1 ?_
    refine wk_b tt_286 3 (pc' := 38) (ls' := [(2, .inl (q2)), (0, .inr (.inr (.ref 88))), (1, .inl (a1))]) (st' := [.inl (q2), .inr (.inr (.ref 106)), .inl ((sg_g σ 96 (a1)))]) (σ' := σ) rfl ?_
    obtain ⟨c9, w⟩ := w
    refine wk_ia tt_286 rfl rfl c9.1 c9.2 r6 ?_
    have jn11 : ∀ v12 : Int, v12 = (if ¬ (sg_g σ 96 (a1)) = (sg_g σ 106 (q2)) then (0 : Int) else (1 : Int)) → sg_R v12 → wx z 2 286 47 [(0, .inr (.inr (.ref 88))), (1, .inl (a1)), (2, .inl (q2))] [.inl (v12)] σ (fun v σ' => v = none ∧ sg_F [101, 102, 30088, 31088] σ σ' ∧ Q σ') := by
      intro v12 e14 r13
      have w := w v12 e14 r13
      refine wk_b tt_286 3 (pc' := 51) (ls' := [(4, .inl (0)), (3, .inl (v12)), (0, .inr (.inr (.ref 88))), (1, .inl (a1)), (2, .inl (q2))]) (st' := []) (σ' := σ) rfl ?_
      obtain ⟨I19, X21, ⟨μ20, w27⟩, w28, w29⟩ := w
      have ex31 : ∀ (v15 : Int), sg_R v15 → X21 v15 → wx z 2 286 100 [(0, .inr (.inr (.ref 88))), (1, .inl (a1)), (2, .inl (q2)), (3, .inl (v15))] [] σ (fun v σ' => v = none ∧ sg_F [101, 102, 30088, 31088] σ σ' ∧ Q σ') := by
        intro v15 r22 w
        have w := w29 v15 r22 w
        refine wk_b tt_286 4 (pc' := 106) (ls' := [(0, .inr (.inr (.ref 88))), (1, .inl (a1)), (2, .inl (q2)), (3, .inl (v15))]) (st' := [.inl (q2), .inl (a1), .inr (.inr (.ref 102))]) (σ' := σ) rfl ?_
        refine wk_is tt_286 rfl rfl c1.1 c1.2 ra1 ?_
        generalize hs33 : (sg_w σ 102 (a1) (q2)) = σ32
        have w := w σ32 hs33.symm
        have hF34 : sg_F [102] σ σ32 := by rw [← hs33]; exact sg_F_w (sg_F_r _ _) rfl _
        refine wk_b tt_286 8 (pc' := 119) (ls' := [(0, .inr (.inr (.ref 88))), (1, .inl (a1)), (2, .inl (q2)), (3, .inl (v15))]) (st' := [.inl (q2), .inr (.inr (.ref 105)), .inr (.inr (.ref 101)), .inl (v15), .inl (a1), .inr (.inr (.ref 88))]) (σ' := σ32) rfl ?_
        refine wk_ia tt_286 rfl rfl c9.1 c9.2 r6 ?_
        rw [show (sg_g σ32 105 (q2)) = (sg_g σ 105 (q2)) from by rw [sg_F_ga hF34 rfl]]
        obtain ⟨c35, w⟩ := w
        refine wk_ia tt_286 rfl rfl c35.1 c35.2 (sg_Rg _ _ _) ?_
        rw [show (sg_g σ32 101 ((sg_g σ 105 (q2)))) = (sg_g σ 101 ((sg_g σ 105 (q2)))) from by rw [sg_F_ga hF34 rfl]]
        refine wk_call tt_286 rfl rfl rfl rfl rfl tt_333 rfl (by decide) (w_typed z σ32 (a1) (v15) ((sg_g σ 101 ((sg_g σ 105 (q2))))) _ ra1 r22 (sg_Rg _ _ _) w) (fun u41 σ37 hq39 => ?_)
        obtain ⟨rfl, hF38, w⟩ := hq39
        have w := w hF38
        exact wk_rV tt_286 rfl rfl ⟨rfl, (sg_F_t (sg_F_t (sg_F_r [101, 102, 30088, 31088] σ) (sg_F_m (L := [101, 102, 30088, 31088]) hF34 rfl)) (sg_F_m (L := [101, 102, 30088, 31088]) hF38 rfl)), w⟩
      have lp26 : ∀ (n30 : Nat) (v15 : Int) (v16 : Int), sg_R v15 → sg_R v16 → I19 n30 v15 v16 → wx z 2 286 51 [(0, .inr (.inr (.ref 88))), (1, .inl (a1)), (2, .inl (q2)), (3, .inl (v15)), (4, .inl (v16))] [] σ (fun v σ' => v = none ∧ sg_F [101, 102, 30088, 31088] σ σ' ∧ Q σ') := by
        intro n30
        induction n30 using Nat.strongRecOn with
        | _ n30 ih24 =>
          intro v15 v16 r22 r23 w
          have w := w28 n30 v15 v16 r22 r23 w
          refine wk_b tt_286 4 (pc' := 58) (ls' := [(0, .inr (.inr (.ref 88))), (1, .inl (a1)), (2, .inl (q2)), (3, .inl (v15)), (4, .inl (v16))]) (st' := [.inl (a1), .inr (.inr (.ref 96)), .inl (v16)]) (σ' := σ) rfl ?_
          refine wk_ia tt_286 rfl rfl c1.1 c1.2 ra1 ?_
          refine wk_if2 tt_286 (tgt := 100) rfl rfl r23 (sg_Rg _ _ _) (fun (h42 : (sg_g σ 96 (a1)) ≤ v16) => ?_) (fun (h42 : v16 < (sg_g σ 96 (a1))) => ?_)
          ·
            have w := w.1 h42
            exact wk_ls [(0, .inr (.inr (.ref 88))), (1, .inl (a1)), (2, .inl (q2)), (3, .inl (v15))] rfl ⟨rfl, rfl, rfl, rfl, trivial⟩ (ex31 (v15)  r22  w)
          ·
            have w := w.2 h42
            refine wk_b tt_286 1 (pc' := 63) (ls' := [(0, .inr (.inr (.ref 88))), (1, .inl (a1)), (2, .inl (q2)), (3, .inl (v15)), (4, .inl (v16))]) (st' := [.inl (v15)]) (σ' := σ) rfl ?_
            refine wk_if tt_286 (tgt := 100) rfl rfl r22 (fun (h43 : v15 = 0) => ?_) (fun (h43 : ¬ v15 = 0) => ?_)
            ·
              have w := w.1 h43
              exact wk_ls [(0, .inr (.inr (.ref 88))), (1, .inl (a1)), (2, .inl (q2)), (3, .inl (v15))] rfl ⟨rfl, rfl, rfl, rfl, trivial⟩ (ex31 (v15)  r22  w)
            ·
              have w := w.2 h43
              refine wk_b tt_286 3 (pc' := 70) (ls' := [(0, .inr (.inr (.ref 88))), (1, .inl (a1)), (2, .inl (q2)), (3, .inl (v15)), (4, .inl (v16))]) (st' := [.inl (v16), .inl (a1), .inr (.inr (.ref 88))]) (σ' := σ) rfl ?_
              obtain ⟨c44, w⟩ := w
              refine wk_callp tt_286 rfl rfl rfl rfl rfl tt_273 rfl (by decide) (w_kidType z σ (a1) (v16) ra1 r23 c44) ?_
              have r45 := vr_kidType σ  (a1) (v16) ra1 r23 c44
              obtain ⟨c46, w⟩ := w
              obtain ⟨c47, w⟩ := w
              refine wk_b tt_286 7 (pc' := 84) (ls' := [(0, .inr (.inr (.ref 88))), (1, .inl (a1)), (2, .inl (q2)), (3, .inl (v15)), (4, .inl (v16))]) (st' := [.inl (((6 * q2) + v16)), .inr (.inr (.ref 109)), .inl ((v_kidType σ (a1) (v16)))]) (σ' := σ) rfl ?_
              obtain ⟨c48, w⟩ := w
              refine wk_ia tt_286 rfl rfl c48.1 c48.2 c47 ?_
              have jn50 : ∀ v51 : Int, v51 = (if ¬ (v_kidType σ (a1) (v16)) = (sg_g σ 109 (((6 * q2) + v16))) then (0 : Int) else (1 : Int)) → sg_R v51 → wx z 2 286 93 [(0, .inr (.inr (.ref 88))), (1, .inl (a1)), (2, .inl (q2)), (4, .inl (v16))] [.inl (v51)] σ (fun v σ' => v = none ∧ sg_F [101, 102, 30088, 31088] σ σ' ∧ Q σ') := by
                intro v51 e53 r52
                have w := w v51 e53 r52
                obtain ⟨c54, w⟩ := w
                refine wk_b tt_286 3 (pc' := 51) (ls' := [(4, .inl ((v16 + 1))), (3, .inl (v51)), (0, .inr (.inr (.ref 88))), (1, .inl (a1)), (2, .inl (q2))]) (st' := []) (σ' := σ) rfl ?_
                obtain ⟨m55, hm55, w⟩ := w
                exact wk_ls [(0, .inr (.inr (.ref 88))), (1, .inl (a1)), (2, .inl (q2)), (3, .inl (v51)), (4, .inl ((v16 + 1)))] rfl ⟨rfl, rfl, rfl, rfl, rfl, trivial⟩ (ih24 m55 hm55 (v51) ((v16 + 1))  r52 c54  w)
              refine wk_if2 tt_286 (tgt := 92) rfl rfl r45 (sg_Rg _ _ _) (fun (h49 : ¬ (v_kidType σ (a1) (v16)) = (sg_g σ 109 (((6 * q2) + v16)))) => ?_) (fun (h49 : (v_kidType σ (a1) (v16)) = (sg_g σ 109 (((6 * q2) + v16)))) => ?_)
              ·
                clear w
                refine wk_b tt_286 1 (pc' := 93) (ls' := [(0, .inr (.inr (.ref 88))), (1, .inl (a1)), (2, .inl (q2)), (3, .inl (v15)), (4, .inl (v16))]) (st' := [.inl (0)]) (σ' := σ) rfl ?_
                exact wk_ls [(0, .inr (.inr (.ref 88))), (1, .inl (a1)), (2, .inl (q2)), (4, .inl (v16))] rfl ⟨rfl, rfl, rfl, rfl, trivial⟩ (jn50 (0) (by simp only [if_pos h49]) (by decide))
              ·
                clear w
                refine wk_b tt_286 2 (pc' := 93) (ls' := [(0, .inr (.inr (.ref 88))), (1, .inl (a1)), (2, .inl (q2)), (3, .inl (v15)), (4, .inl (v16))]) (st' := [.inl (1)]) (σ' := σ) rfl ?_
                exact wk_ls [(0, .inr (.inr (.ref 88))), (1, .inl (a1)), (2, .inl (q2)), (4, .inl (v16))] rfl ⟨rfl, rfl, rfl, rfl, trivial⟩ (jn50 (1) (by simp only [if_neg (show ¬ (¬ (v_kidType σ (a1) (v16)) = (sg_g σ 109 (((6 * q2) + v16)))) by omega)]) (by decide))
      exact wk_ls [(0, .inr (.inr (.ref 88))), (1, .inl (a1)), (2, .inl (q2)), (3, .inl (v12)), (4, .inl (0))] rfl ⟨rfl, rfl, rfl, rfl, rfl, trivial⟩ (lp26 μ20 (v12) (0)  r13 (by decide)  w27)
    refine wk_if2 tt_286 (tgt := 46) rfl rfl (sg_Rg _ _ _) (sg_Rg _ _ _) (fun (h10 : ¬ (sg_g σ 96 (a1)) = (sg_g σ 106 (q2))) => ?_) (fun (h10 : (sg_g σ 96 (a1)) = (sg_g σ 106 (q2))) => ?_)
    ·
      clear w
      refine wk_b tt_286 1 (pc' := 47) (ls' := [(2, .inl (q2)), (0, .inr (.inr (.ref 88))), (1, .inl (a1))]) (st' := [.inl (0)]) (σ' := σ) rfl ?_
      exact wk_ls [(0, .inr (.inr (.ref 88))), (1, .inl (a1)), (2, .inl (q2))] rfl ⟨rfl, rfl, rfl, trivial⟩ (jn11 (0) (by simp only [if_pos h10]) (by decide))
    ·
      clear w
      refine wk_b tt_286 2 (pc' := 47) (ls' := [(2, .inl (q2)), (0, .inr (.inr (.ref 88))), (1, .inl (a1))]) (st' := [.inl (1)]) (σ' := σ) rfl ?_
      exact wk_ls [(0, .inr (.inr (.ref 88))), (1, .inl (a1)), (2, .inl (q2))] rfl ⟨rfl, rfl, rfl, trivial⟩ (jn11 (1) (by simp only [if_neg (show ¬ (¬ (sg_g σ 96 (a1)) = (sg_g σ 106 (q2))) by omega)]) (by decide))
  ·
    have w := w.2 h8
    refine wk_b tt_286 5 (pc' := 22) (ls' := [(2, .inl (q2)), (0, .inr (.inr (.ref 88))), (1, .inl (a1))]) (st' := [.inl (a1), .inr (.inr (.ref 94)), .inl (2), .inr (.inr (.ref 88))]) (σ' := σ) rfl ?_
    refine wk_ia tt_286 rfl rfl c1.1 c1.2 ra1 ?_
    refine wk_call tt_286 rfl rfl rfl rfl rfl tt_336 rfl (by decide) (w_wrong z σ (2) ((sg_g σ 94 (a1))) _ (by decide) (sg_Rg _ _ _) w) (fun u61 σ57 hq59 => ?_)
    obtain ⟨rfl, hF58, w⟩ := hq59
    have w := w hF58
    exact wk_rV tt_286 rfl rfl ⟨rfl, (sg_F_t (sg_F_r [101, 102, 30088, 31088] σ) (sg_F_m (L := [101, 102, 30088, 31088]) hF58 rfl)), w⟩
