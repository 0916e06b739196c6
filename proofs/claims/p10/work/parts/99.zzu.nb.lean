/-! What the methods of the nested run of the class ask for (1). -/
def V_yCompute_37 (σ : sg_S) (b1 : Int) (b2 : Int) (Q : Int → sg_S → Prop) : Prop := ((¬ b2 = 0 → (¬ b2 = 0) ∧ Q (((sg_i (b1) - sg_i (b1) / sg_i (b2) * sg_i (b2)).toInt)) σ) ∧ (b2 = 0 → Q (0) σ))
set_option maxHeartbeats 4000000 in
set_option maxRecDepth 8000 in
theorem w_yCompute_37 (z : Value) (σ : sg_S) (b1 : Int) (b2 : Int) (Q : Int → sg_S → Prop) (rb1 : sg_R b1) (rb2 : sg_R b2) (w : V_yCompute_37 σ b1 b2 Q) : wx z 0 10 162 [(1, .inl (b1)), (2, .inl (b2))] [] σ (fun v σ' => ∃ q, v = some (.inl q) ∧ sg_R q ∧ σ = σ' ∧ Q q σ') := by
  unfold V_yCompute_37 at w
  refine wk_b tt_10 1 (pc' := 163) (ls' := [(1, .inl (b1)), (2, .inl (b2))]) (st' := [.inl (b2)]) (σ' := σ) rfl ?_
  refine wk_if tt_10 (tgt := 170) rfl rfl rb2 (fun (h1 : ¬ b2 = 0) => ?_) (fun (h1 : b2 = 0) => ?_)
  ·
    have w := w.1 h1
    refine wk_b tt_10 2 (pc' := 172) (ls' := [(1, .inl (b1)), (2, .inl (b2))]) (st' := [.inl (b2), .inl (b1)]) (σ' := σ) rfl ?_
    obtain ⟨c2, w⟩ := w
    refine wk_rem tt_10 rfl (by rw [sg_id rb2]; exact c2) ?_
    exact wk_rI tt_10 rfl rfl ⟨_, rfl, (sg_Rr _), rfl, w⟩
  ·
    have w := w.2 h1
    refine wk_b tt_10 2 (pc' := 173) (ls' := [(1, .inl (b1)), (2, .inl (b2))]) (st' := [.inl (0)]) (σ' := σ) rfl ?_
    exact wk_rI tt_10 rfl rfl ⟨_, rfl, (by decide), rfl, w⟩
-- NestedVectors.compute
def V_yCompute_42 (σ : sg_S) (b1 : Int) (b2 : Int) (Q : Int → sg_S → Prop) : Prop := Q ((sg_n (b1 * b2))) σ
set_option maxHeartbeats 4000000 in
set_option maxRecDepth 8000 in
theorem w_yCompute_42 (z : Value) (σ : sg_S) (b1 : Int) (b2 : Int) (Q : Int → sg_S → Prop) (rb1 : sg_R b1) (rb2 : sg_R b2) (w : V_yCompute_42 σ b1 b2 Q) : wx z 0 10 146 [(1, .inl (b1)), (2, .inl (b2))] [] σ (fun v σ' => ∃ q, v = some (.inl q) ∧ sg_R q ∧ σ = σ' ∧ Q q σ') := by
  unfold V_yCompute_42 at w
  refine wk_b tt_10 3 (pc' := 149) (ls' := [(1, .inl (b1)), (2, .inl (b2))]) (st' := [.inl ((b1 * b2))]) (σ' := σ) rfl ?_
  refine wk_n ?_
  exact wk_rI tt_10 rfl rfl ⟨_, rfl, (sg_Rn _), rfl, w⟩
-- NestedVectors.compute
def V_yCompute_43 (σ : sg_S) (b1 : Int) (b2 : Int) (Q : Int → sg_S → Prop) : Prop := Q ((sg_n (b1 + b2))) σ
set_option maxHeartbeats 4000000 in
set_option maxRecDepth 8000 in
theorem w_yCompute_43 (z : Value) (σ : sg_S) (b1 : Int) (b2 : Int) (Q : Int → sg_S → Prop) (rb1 : sg_R b1) (rb2 : sg_R b2) (w : V_yCompute_43 σ b1 b2 Q) : wx z 0 10 138 [(1, .inl (b1)), (2, .inl (b2))] [] σ (fun v σ' => ∃ q, v = some (.inl q) ∧ sg_R q ∧ σ = σ' ∧ Q q σ') := by
  unfold V_yCompute_43 at w
  refine wk_b tt_10 3 (pc' := 141) (ls' := [(1, .inl (b1)), (2, .inl (b2))]) (st' := [.inl ((b1 + b2))]) (σ' := σ) rfl ?_
  refine wk_n ?_
  exact wk_rI tt_10 rfl rfl ⟨_, rfl, (sg_Rn _), rfl, w⟩
-- NestedVectors.compute
def V_yCompute_45 (σ : sg_S) (b1 : Int) (b2 : Int) (Q : Int → sg_S → Prop) : Prop := Q ((sg_n (b1 - b2))) σ
set_option maxHeartbeats 4000000 in
set_option maxRecDepth 8000 in
theorem w_yCompute_45 (z : Value) (σ : sg_S) (b1 : Int) (b2 : Int) (Q : Int → sg_S → Prop) (rb1 : sg_R b1) (rb2 : sg_R b2) (w : V_yCompute_45 σ b1 b2 Q) : wx z 0 10 142 [(1, .inl (b1)), (2, .inl (b2))] [] σ (fun v σ' => ∃ q, v = some (.inl q) ∧ sg_R q ∧ σ = σ' ∧ Q q σ') := by
  unfold V_yCompute_45 at w
  refine wk_b tt_10 3 (pc' := 145) (ls' := [(1, .inl (b1)), (2, .inl (b2))]) (st' := [.inl ((b1 - b2))]) (σ' := σ) rfl ?_
  refine wk_n ?_
  exact wk_rI tt_10 rfl rfl ⟨_, rfl, (sg_Rn _), rfl, w⟩
-- NestedVectors.compute
def V_yCompute_47 (σ : sg_S) (b1 : Int) (b2 : Int) (Q : Int → sg_S → Prop) : Prop := ((¬ b2 = 0 → (¬ b2 = 0) ∧ Q (((sg_i (b1) / sg_i (b2)).toInt)) σ) ∧ (b2 = 0 → Q (0) σ))
set_option maxHeartbeats 4000000 in
set_option maxRecDepth 8000 in
theorem w_yCompute_47 (z : Value) (σ : sg_S) (b1 : Int) (b2 : Int) (Q : Int → sg_S → Prop) (rb1 : sg_R b1) (rb2 : sg_R b2) (w : V_yCompute_47 σ b1 b2 Q) : wx z 0 10 150 [(1, .inl (b1)), (2, .inl (b2))] [] σ (fun v σ' => ∃ q, v = some (.inl q) ∧ sg_R q ∧ σ = σ' ∧ Q q σ') := by
  unfold V_yCompute_47 at w
  refine wk_b tt_10 1 (pc' := 151) (ls' := [(1, .inl (b1)), (2, .inl (b2))]) (st' := [.inl (b2)]) (σ' := σ) rfl ?_
  refine wk_if tt_10 (tgt := 158) rfl rfl rb2 (fun (h1 : ¬ b2 = 0) => ?_) (fun (h1 : b2 = 0) => ?_)
  ·
    have w := w.1 h1
    refine wk_b tt_10 2 (pc' := 160) (ls' := [(1, .inl (b1)), (2, .inl (b2))]) (st' := [.inl (b2), .inl (b1)]) (σ' := σ) rfl ?_
    obtain ⟨c2, w⟩ := w
    refine wk_div tt_10 rfl (by rw [sg_id rb2]; exact c2) ?_
    exact wk_rI tt_10 rfl rfl ⟨_, rfl, (sg_Rr _), rfl, w⟩
  ·
    have w := w.2 h1
    refine wk_b tt_10 2 (pc' := 161) (ls' := [(1, .inl (b1)), (2, .inl (b2))]) (st' := [.inl (0)]) (σ' := σ) rfl ?_
    exact wk_rI tt_10 rfl rfl ⟨_, rfl, (by decide), rfl, w⟩
-- NestedVectors.compute
def V_yCompute_60 (σ : sg_S) (b1 : Int) (b2 : Int) (Q : Int → sg_S → Prop) : Prop := ((b2 ≤ b1 → Q (0) σ) ∧ (b1 < b2 → Q (1) σ))
set_option maxHeartbeats 4000000 in
set_option maxRecDepth 8000 in
theorem w_yCompute_60 (z : Value) (σ : sg_S) (b1 : Int) (b2 : Int) (Q : Int → sg_S → Prop) (rb1 : sg_R b1) (rb2 : sg_R b2) (w : V_yCompute_60 σ b1 b2 Q) : wx z 0 10 116 [(1, .inl (b1)), (2, .inl (b2))] [] σ (fun v σ' => ∃ q, v = some (.inl q) ∧ sg_R q ∧ σ = σ' ∧ Q q σ') := by
  unfold V_yCompute_60 at w
  refine wk_b tt_10 2 (pc' := 118) (ls' := [(1, .inl (b1)), (2, .inl (b2))]) (st' := [.inl (b2), .inl (b1)]) (σ' := σ) rfl ?_
  refine wk_if2 tt_10 (tgt := 125) rfl rfl rb1 rb2 (fun (h1 : b2 ≤ b1) => ?_) (fun (h1 : b1 < b2) => ?_)
  ·
    have w := w.1 h1
    refine wk_b tt_10 1 (pc' := 126) (ls' := [(1, .inl (b1)), (2, .inl (b2))]) (st' := [.inl (0)]) (σ' := σ) rfl ?_
    exact wk_rI tt_10 rfl rfl ⟨_, rfl, (by decide), rfl, w⟩
  ·
    have w := w.2 h1
    refine wk_b tt_10 2 (pc' := 126) (ls' := [(1, .inl (b1)), (2, .inl (b2))]) (st' := [.inl (1)]) (σ' := σ) rfl ?_
    exact wk_rI tt_10 rfl rfl ⟨_, rfl, (by decide), rfl, w⟩
-- NestedVectors.compute
def V_yCompute_61 (σ : sg_S) (b1 : Int) (b2 : Int) (Q : Int → sg_S → Prop) : Prop := ((¬ b1 = b2 → Q (0) σ) ∧ (b1 = b2 → Q (1) σ))
set_option maxHeartbeats 4000000 in
set_option maxRecDepth 8000 in
theorem w_yCompute_61 (z : Value) (σ : sg_S) (b1 : Int) (b2 : Int) (Q : Int → sg_S → Prop) (rb1 : sg_R b1) (rb2 : sg_R b2) (w : V_yCompute_61 σ b1 b2 Q) : wx z 0 10 127 [(1, .inl (b1)), (2, .inl (b2))] [] σ (fun v σ' => ∃ q, v = some (.inl q) ∧ sg_R q ∧ σ = σ' ∧ Q q σ') := by
  unfold V_yCompute_61 at w
  refine wk_b tt_10 2 (pc' := 129) (ls' := [(1, .inl (b1)), (2, .inl (b2))]) (st' := [.inl (b2), .inl (b1)]) (σ' := σ) rfl ?_
  refine wk_if2 tt_10 (tgt := 136) rfl rfl rb1 rb2 (fun (h1 : ¬ b1 = b2) => ?_) (fun (h1 : b1 = b2) => ?_)
  ·
    have w := w.1 h1
    refine wk_b tt_10 1 (pc' := 137) (ls' := [(1, .inl (b1)), (2, .inl (b2))]) (st' := [.inl (0)]) (σ' := σ) rfl ?_
    exact wk_rI tt_10 rfl rfl ⟨_, rfl, (by decide), rfl, w⟩
  ·
    have w := w.2 h1
    refine wk_b tt_10 2 (pc' := 137) (ls' := [(1, .inl (b1)), (2, .inl (b2))]) (st' := [.inl (1)]) (σ' := σ) rfl ?_
    exact wk_rI tt_10 rfl rfl ⟨_, rfl, (by decide), rfl, w⟩
-- NestedVectors.compute
def V_yCompute_d (σ : sg_S) (Q : Int → sg_S → Prop) : Prop := Q (0) σ
set_option maxHeartbeats 4000000 in
set_option maxRecDepth 8000 in
theorem w_yCompute_d (z : Value) (σ : sg_S) (Q : Int → sg_S → Prop)  (w : V_yCompute_d σ  Q) : wx z 0 10 174 [] [] σ (fun v σ' => ∃ q, v = some (.inl q) ∧ sg_R q ∧ σ = σ' ∧ Q q σ') := by
  unfold V_yCompute_d at w
  refine wk_b tt_10 1 (pc' := 175) (ls' := []) (st' := [.inl (0)]) (σ' := σ) rfl ?_
  exact wk_rI tt_10 rfl rfl ⟨_, rfl, (by decide), rfl, w⟩
-- NestedVectors.compute
def V_yCompute (σ : sg_S) (a0 : Int) (a1 : Int) (a2 : Int) (Q : Int → sg_S → Prop) : Prop := ((a0 = 37 → V_yCompute_37 σ (a1) (a2) Q) ∧ (¬ a0 = 37 → ((a0 = 42 → V_yCompute_42 σ (a1) (a2) Q) ∧ (¬ a0 = 42 → ((a0 = 43 → V_yCompute_43 σ (a1) (a2) Q) ∧ (¬ a0 = 43 → ((a0 = 45 → V_yCompute_45 σ (a1) (a2) Q) ∧ (¬ a0 = 45 → ((a0 = 47 → V_yCompute_47 σ (a1) (a2) Q) ∧ (¬ a0 = 47 → ((a0 = 60 → V_yCompute_60 σ (a1) (a2) Q) ∧ (¬ a0 = 60 → ((a0 = 61 → V_yCompute_61 σ (a1) (a2) Q) ∧ (¬ a0 = 61 → V_yCompute_d σ  Q))))))))))))))
set_option maxHeartbeats 4000000 in
set_option maxRecDepth 8000 in
theorem w_yCompute (z : Value) (σ : sg_S) (a0 : Int) (a1 : Int) (a2 : Int) (Q : Int → sg_S → Prop) (ra0 : sg_R a0) (ra1 : sg_R a1) (ra2 : sg_R a2) (w : V_yCompute σ a0 a1 a2 Q) : wx z 0 10 0 [(0, .inl (a0)), (1, .inl (a1)), (2, .inl (a2))] [] σ (fun v σ' => ∃ q, v = some (.inl q) ∧ sg_R q ∧ σ = σ' ∧ Q q σ') := by
  unfold V_yCompute at w
  refine wk_b tt_10 1 (pc' := 1) (ls' := [(0, .inl (a0)), (1, .inl (a1)), (2, .inl (a2))]) (st' := [.inl (a0)]) (σ' := σ) rfl ?_
  by_cases e1 : a0 = 37
  · have w := w.1 e1
    refine wk_ts tt_10 (off := 161) (tgt := 162) rfl ra0 (by rw [e1]; decide) rfl ?_
    refine wk_ls [(1, .inl (a1)), (2, .inl (a2))] rfl ⟨rfl, rfl, trivial⟩ ?_
    exact wk_post (wk_d (by decide) (w_yCompute_37 z σ (a1) (a2) Q ra1 ra2 w)) (fun v σ' ⟨q, e, r, hF, hQ⟩ => ⟨q, e, r, hF, hQ⟩)
  have w := w.2 e1
  by_cases e3 : a0 = 42
  · have w := w.1 e3
    refine wk_ts tt_10 (off := 145) (tgt := 146) rfl ra0 (by rw [e3]; decide) rfl ?_
    refine wk_ls [(1, .inl (a1)), (2, .inl (a2))] rfl ⟨rfl, rfl, trivial⟩ ?_
    exact wk_post (wk_d (by decide) (w_yCompute_42 z σ (a1) (a2) Q ra1 ra2 w)) (fun v σ' ⟨q, e, r, hF, hQ⟩ => ⟨q, e, r, hF, hQ⟩)
  have w := w.2 e3
  by_cases e5 : a0 = 43
  · have w := w.1 e5
    refine wk_ts tt_10 (off := 137) (tgt := 138) rfl ra0 (by rw [e5]; decide) rfl ?_
    refine wk_ls [(1, .inl (a1)), (2, .inl (a2))] rfl ⟨rfl, rfl, trivial⟩ ?_
    exact wk_post (wk_d (by decide) (w_yCompute_43 z σ (a1) (a2) Q ra1 ra2 w)) (fun v σ' ⟨q, e, r, hF, hQ⟩ => ⟨q, e, r, hF, hQ⟩)
  have w := w.2 e5
  by_cases e7 : a0 = 45
  · have w := w.1 e7
    refine wk_ts tt_10 (off := 141) (tgt := 142) rfl ra0 (by rw [e7]; decide) rfl ?_
    refine wk_ls [(1, .inl (a1)), (2, .inl (a2))] rfl ⟨rfl, rfl, trivial⟩ ?_
    exact wk_post (wk_d (by decide) (w_yCompute_45 z σ (a1) (a2) Q ra1 ra2 w)) (fun v σ' ⟨q, e, r, hF, hQ⟩ => ⟨q, e, r, hF, hQ⟩)
  have w := w.2 e7
  by_cases e9 : a0 = 47
  · have w := w.1 e9
    refine wk_ts tt_10 (off := 149) (tgt := 150) rfl ra0 (by rw [e9]; decide) rfl ?_
    refine wk_ls [(1, .inl (a1)), (2, .inl (a2))] rfl ⟨rfl, rfl, trivial⟩ ?_
    exact wk_post (wk_d (by decide) (w_yCompute_47 z σ (a1) (a2) Q ra1 ra2 w)) (fun v σ' ⟨q, e, r, hF, hQ⟩ => ⟨q, e, r, hF, hQ⟩)
  have w := w.2 e9
  by_cases e11 : a0 = 60
  · have w := w.1 e11
    refine wk_ts tt_10 (off := 115) (tgt := 116) rfl ra0 (by rw [e11]; decide) rfl ?_
    refine wk_ls [(1, .inl (a1)), (2, .inl (a2))] rfl ⟨rfl, rfl, trivial⟩ ?_
    exact wk_post (wk_d (by decide) (w_yCompute_60 z σ (a1) (a2) Q ra1 ra2 w)) (fun v σ' ⟨q, e, r, hF, hQ⟩ => ⟨q, e, r, hF, hQ⟩)
  have w := w.2 e11
  by_cases e13 : a0 = 61
  · have w := w.1 e13
    refine wk_ts tt_10 (off := 126) (tgt := 127) rfl ra0 (by rw [e13]; decide) rfl ?_
    refine wk_ls [(1, .inl (a1)), (2, .inl (a2))] rfl ⟨rfl, rfl, trivial⟩ ?_
    exact wk_post (wk_d (by decide) (w_yCompute_61 z σ (a1) (a2) Q ra1 ra2 w)) (fun v σ' ⟨q, e, r, hF, hQ⟩ => ⟨q, e, r, hF, hQ⟩)
  have w := w.2 e13
  refine wk_ts tt_10 (off := 173) (tgt := 174) rfl ra0 (by rcases sw_lo (a0) 37 with h | h; (unfold bm_swt; rw [if_pos (Or.inl h)]); by_cases g38 : a0 = 38; (rw [g38]; decide); by_cases g39 : a0 = 39; (rw [g39]; decide); by_cases g40 : a0 = 40; (rw [g40]; decide); by_cases g41 : a0 = 41; (rw [g41]; decide); by_cases g44 : a0 = 44; (rw [g44]; decide); by_cases g46 : a0 = 46; (rw [g46]; decide); by_cases g48 : a0 = 48; (rw [g48]; decide); by_cases g49 : a0 = 49; (rw [g49]; decide); by_cases g50 : a0 = 50; (rw [g50]; decide); by_cases g51 : a0 = 51; (rw [g51]; decide); by_cases g52 : a0 = 52; (rw [g52]; decide); by_cases g53 : a0 = 53; (rw [g53]; decide); by_cases g54 : a0 = 54; (rw [g54]; decide); by_cases g55 : a0 = 55; (rw [g55]; decide); by_cases g56 : a0 = 56; (rw [g56]; decide); by_cases g57 : a0 = 57; (rw [g57]; decide); by_cases g58 : a0 = 58; (rw [g58]; decide); by_cases g59 : a0 = 59; (rw [g59]; decide); (unfold bm_swt; rw [if_pos (Or.inr (Int.lt_of_add_one_le (sw_st (k := 61) (sw_st (k := 60) (sw_st (k := 59) (sw_st (k := 58) (sw_st (k := 57) (sw_st (k := 56) (sw_st (k := 55) (sw_st (k := 54) (sw_st (k := 53) (sw_st (k := 52) (sw_st (k := 51) (sw_st (k := 50) (sw_st (k := 49) (sw_st (k := 48) (sw_st (k := 47) (sw_st (k := 46) (sw_st (k := 45) (sw_st (k := 44) (sw_st (k := 43) (sw_st (k := 42) (sw_st (k := 41) (sw_st (k := 40) (sw_st (k := 39) (sw_st (k := 38) (sw_st (k := 37) h e1) g38) g39) g40) g41) e3) e5) g44) e7) g46) e9) g48) g49) g50) g51) g52) g53) g54) g55) g56) g57) g58) g59) e11) e13)))])) rfl ?_
  refine wk_ls [] rfl trivial ?_
  exact wk_post (wk_d (by decide) (w_yCompute_d z σ  Q  w)) (fun v σ' ⟨q, e, r, hF, hQ⟩ => ⟨q, e, r, hF, hQ⟩)
-- NestedVectors$Machine.push
def V_mnPush (σ : sg_S) (a1 : Int) (Q : sg_S → Prop) : Prop := ∀ σ1, σ1 = (sx_put σ 48 3200 ((sg_g σ 45 7)) (a1)) → sg_R ((sg_g σ 45 7) + 1) ∧ ∀ σ5, σ5 = (sg_w σ1 45 7 (((sg_g σ 45 7) + 1))) → Q σ5
set_option maxHeartbeats 4000000 in
set_option maxRecDepth 8000 in
theorem w_mnPush (z : Value) (σ : sg_S) (a1 : Int) (Q : sg_S → Prop) (ra1 : sg_R a1) (w : V_mnPush σ a1 Q) : wx z 1 125 0 [(0, .inr (.inr (.ref 45))), (1, .inl (a1))] [] σ (fun v σ' => v = none ∧ sg_F [48, 8045] σ σ' ∧ Q σ') := by
  unfold V_mnPush at w
  refine wk_b tt_125 5 (pc' := 9) (ls' := [(0, .inr (.inr (.ref 45))), (1, .inl (a1))]) (st' := [.inl (a1), .inl ((sg_g σ 45 7)), .inr (.inr (.ref 48))]) (σ' := σ) rfl ?_
  refine wk_callp tt_125 rfl rfl rfl rfl rfl tt_21 rfl (by decide) (pt_i0 z σ 48 3200 ((sg_g σ 45 7)) (a1) rfl (by decide) (sg_Rg _ _ _)) ?_
  show wx z 1 125 12 [(0, .inr (.inr (.ref 45))), (1, .inl (a1))] [] (sx_put σ 48 3200 ((sg_g σ 45 7)) (a1)) (fun v σ' => v = none ∧ sg_F [48, 8045] σ σ' ∧ Q σ')
  generalize hs2 : (sx_put σ 48 3200 ((sg_g σ 45 7)) (a1)) = σ1
  have w := w σ1 hs2.symm
  have hF3 : sg_F [48] σ σ1 := by rw [← hs2]; exact sg_F_p (sg_F_r _ _) rfl _ _ _
  obtain ⟨c4, w⟩ := w
  refine wk_b tt_125 6 (pc' := 22) (ls' := [(0, .inr (.inr (.ref 45))), (1, .inl (a1))]) (st' := []) (σ' := (sg_w σ1 45 7 (((sg_g σ1 45 7) + 1)))) rfl ?_
  rw [show (sg_g σ1 45 7) = (sg_g σ 45 7) from by rw [sg_F_ga hF3 rfl]]
  generalize hs6 : (sg_w σ1 45 7 (((sg_g σ 45 7) + 1))) = σ5
  have w := w σ5 hs6.symm
  have hF7 : sg_F [8045] σ1 σ5 := by rw [← hs6]; exact sg_F_w (sg_F_r _ _) rfl _
  exact wk_rV tt_125 rfl rfl ⟨rfl, (sg_F_t (sg_F_t (sg_F_r [48, 8045] σ) (sg_F_m (L := [48, 8045]) hF3 rfl)) (sg_F_m (L := [48, 8045]) hF7 rfl)), w⟩
-- NestedVectors$NestedRun.combine
def V_nCombine (σ : sg_S) (a1 : Int) (a2 : Int) (a3 : Int) (Q : sg_S → Prop) : Prop := (((v_yDividesByZero (a1) (a3)) = 0 → V_yCompute σ (a1) (a2) (a3) (fun q2 _ => sg_R q2 → V_mnPush σ (q2) (fun σ9 => sg_F [48, 8045] σ σ9 → Q σ9))) ∧ (¬ (v_yDividesByZero (a1) (a3)) = 0 → ∀ σ14, σ14 = (sg_w σ 45 10 (1)) → Q σ14))
set_option maxHeartbeats 4000000 in
set_option maxRecDepth 8000 in
theorem w_nCombine (z : Value) (σ : sg_S) (a1 : Int) (a2 : Int) (a3 : Int) (Q : sg_S → Prop) (ra1 : sg_R a1) (ra2 : sg_R a2) (ra3 : sg_R a3) (w : V_nCombine σ a1 a2 a3 Q) : wx z 2 134 0 [(0, .inr (.inr (.ref 45))), (1, .inl (a1)), (2, .inl (a2)), (3, .inl (a3))] [] σ (fun v σ' => v = none ∧ sg_F [48, 8045, 11045] σ σ' ∧ Q σ') := by
  unfold V_nCombine at w
  refine wk_b tt_134 2 (pc' := 2) (ls' := [(0, .inr (.inr (.ref 45))), (1, .inl (a1)), (2, .inl (a2)), (3, .inl (a3))]) (st' := [.inl (a3), .inl (a1)]) (σ' := σ) rfl ?_
  refine wk_callp tt_134 rfl rfl rfl rfl rfl tt_12 rfl (by decide) (w_yDividesByZero z σ (a1) (a3) ra1 ra3 ) ?_
  refine wk_if tt_134 (tgt := 16) rfl rfl (sg_Rz (vz_yDividesByZero ..)) (fun (h1 : (v_yDividesByZero (a1) (a3)) = 0) => ?_) (fun (h1 : ¬ (v_yDividesByZero (a1) (a3)) = 0) => ?_)
  ·
    have w := w.1 h1
    refine wk_b tt_134 4 (pc' := 20) (ls' := [(0, .inr (.inr (.ref 45))), (1, .inl (a1)), (2, .inl (a2)), (3, .inl (a3))]) (st' := [.inl (a3), .inl (a2), .inl (a1), .inr (.inr (.ref 45))]) (σ' := σ) rfl ?_
    refine wk_call tt_134 rfl rfl rfl rfl rfl tt_10 rfl (by decide) (w_yCompute z σ (a1) (a2) (a3) _ ra1 ra2 ra3 w) (fun u7 σ3 hq5 => ?_)
    obtain ⟨q2, rfl, r6, rfl, w⟩ := hq5
    have w := w r6
    refine wk_call tt_134 rfl rfl rfl rfl rfl tt_125 rfl (by decide) (w_mnPush z σ (q2) _ r6 w) (fun u13 σ9 hq11 => ?_)
    obtain ⟨rfl, hF10, w⟩ := hq11
    have w := w hF10
    exact wk_rV tt_134 rfl rfl ⟨rfl, (sg_F_t (sg_F_r [48, 8045, 11045] σ) (sg_F_m (L := [48, 8045, 11045]) hF10 rfl)), w⟩
  ·
    have w := w.2 h1
    refine wk_b tt_134 3 (pc' := 13) (ls' := [(0, .inr (.inr (.ref 45))), (1, .inl (a1)), (2, .inl (a2)), (3, .inl (a3))]) (st' := []) (σ' := (sg_w σ 45 10 (1))) rfl ?_
    generalize hs15 : (sg_w σ 45 10 (1)) = σ14
    have w := w σ14 hs15.symm
    have hF16 : sg_F [11045] σ σ14 := by rw [← hs15]; exact sg_F_w (sg_F_r _ _) rfl _
    refine wk_b tt_134 1 (pc' := 26) (ls' := [(0, .inr (.inr (.ref 45))), (1, .inl (a1)), (2, .inl (a2)), (3, .inl (a3))]) (st' := []) (σ' := σ14) rfl ?_
    exact wk_rV tt_134 rfl rfl ⟨rfl, (sg_F_t (sg_F_r [48, 8045, 11045] σ) (sg_F_m (L := [48, 8045, 11045]) hF16 rfl)), w⟩
-- NestedVectors$NestedRun.constant
def V_nConstant (σ : sg_S) (a1 : Int) (Q : sg_S → Prop) : Prop := V_mnPush σ (a1) (fun σ2 => sg_F [48, 8045] σ σ2 → Q σ2)
set_option maxHeartbeats 4000000 in
set_option maxRecDepth 8000 in
theorem w_nConstant (z : Value) (σ : sg_S) (a1 : Int) (Q : sg_S → Prop) (ra1 : sg_R a1) (w : V_nConstant σ a1 Q) : wx z 2 135 0 [(0, .inr (.inr (.ref 45))), (1, .inl (a1))] [] σ (fun v σ' => v = none ∧ sg_F [48, 8045] σ σ' ∧ Q σ') := by
  unfold V_nConstant at w
  refine wk_b tt_135 2 (pc' := 2) (ls' := [(0, .inr (.inr (.ref 45))), (1, .inl (a1))]) (st' := [.inl (a1), .inr (.inr (.ref 45))]) (σ' := σ) rfl ?_
  refine wk_call tt_135 rfl rfl rfl rfl rfl tt_125 rfl (by decide) (w_mnPush z σ (a1) _ ra1 w) (fun u6 σ2 hq4 => ?_)
  obtain ⟨rfl, hF3, w⟩ := hq4
  have w := w hF3
  exact wk_rV tt_135 rfl rfl ⟨rfl, (sg_F_t (sg_F_r [48, 8045] σ) (sg_F_m (L := [48, 8045]) hF3 rfl)), w⟩
-- NestedVectors$NestedRun.countUp
def V_nCountUp (σ : sg_S) (a1 : Int) (Q : sg_S → Prop) : Prop := (((v_yBadSize (a1)) = 0 → (∃ (I5 : Nat → Int → sg_S → Prop) (X7 : sg_S → Prop), (∃ n, I5 n (0) σ) ∧ (∀ (n15 : Nat) (v2 : Int) (σ3 : sg_S), sg_R v2 → sg_F [54, 22045] σ σ3 → I5 n15 v2 σ3 → ((a1 ≤ v2 → X7 σ3) ∧ (v2 < a1 → V_nAdd σ3 (v2) (fun σ25 => sg_F [54, 22045] σ3 σ25 → sg_R (v2 + 1) ∧ (∃ m, m < n15 ∧ I5 m ((v2 + 1)) σ25))))) ∧ (∀ (σ3 : sg_S), sg_F [54, 22045] σ σ3 → X7 σ3 → V_nGive σ3  (fun σ18 => sg_F [48, 53, 8045, 11045, 21045, 22045, 23045] σ3 σ18 → Q σ18)))) ∧ (¬ (v_yBadSize (a1)) = 0 → ∀ σ32, σ32 = (sg_w σ 45 10 (5)) → Q σ32))
set_option maxHeartbeats 4000000 in
set_option maxRecDepth 8000 in
theorem w_nCountUp (z : Value) (σ : sg_S) (a1 : Int) (Q : sg_S → Prop) (ra1 : sg_R a1) (w : V_nCountUp σ a1 Q) : wx z 3 137 0 [(0, .inr (.inr (.ref 45))), (1, .inl (a1))] [] σ (fun v σ' => v = none ∧ sg_F [48, 53, 54, 8045, 11045, 21045, 22045, 23045] σ σ' ∧ Q σ') := by
  unfold V_nCountUp at w
  refine wk_b tt_137 1 (pc' := 1) (ls' := [(0, .inr (.inr (.ref 45))), (1, .inl (a1))]) (st' := [.inl (a1)]) (σ' := σ) rfl ?_
  refine wk_callp tt_137 rfl rfl rfl rfl rfl tt_7 rfl (by decide) (w_yBadSize z σ (a1) ra1 ) ?_
  refine wk_if tt_137 (tgt := 13) rfl rfl (sg_Rz (vz_yBadSize ..)) (fun (h1 : (v_yBadSize (a1)) = 0) => ?_) (fun (h1 : ¬ (v_yBadSize (a1)) = 0) => ?_)
  ·
    have w := w.1 h1
    refine wk_b tt_137 2 (pc' := 15) (ls' := [(2, .inl (0)), (0, .inr (.inr (.ref 45))), (1, .inl (a1))]) (st' := []) (σ' := σ) rfl ?_
    obtain ⟨I5, X7, ⟨μ6, w12⟩, w13, w14⟩ := w
    have ex16 : ∀ (σ3 : sg_S), sg_F [54, 22045] σ σ3 → X7 σ3 → wx z 3 137 31 [(0, .inr (.inr (.ref 45)))] [] σ3 (fun v σ' => v = none ∧ sg_F [48, 53, 54, 8045, 11045, 21045, 22045, 23045] σ σ' ∧ Q σ') := by
      intro σ3 hF4 w
      have w := w14 σ3 hF4 w
      refine wk_b tt_137 1 (pc' := 32) (ls' := [(0, .inr (.inr (.ref 45)))]) (st' := [.inr (.inr (.ref 45))]) (σ' := σ3) rfl ?_
      refine wk_call tt_137 rfl rfl rfl rfl rfl tt_144 rfl (by decide) (w_nGive z σ3  _  w) (fun u22 σ18 hq20 => ?_)
      obtain ⟨rfl, hF19, w⟩ := hq20
      have w := w hF19
      exact wk_rV tt_137 rfl rfl ⟨rfl, (sg_F_t (sg_F_t (sg_F_r [48, 53, 54, 8045, 11045, 21045, 22045, 23045] σ) (sg_F_m (L := [48, 53, 54, 8045, 11045, 21045, 22045, 23045]) hF4 rfl)) (sg_F_m (L := [48, 53, 54, 8045, 11045, 21045, 22045, 23045]) hF19 rfl)), w⟩
    have lp11 : ∀ (n15 : Nat) (v2 : Int) (σ3 : sg_S), sg_R v2 → sg_F [54, 22045] σ σ3 → I5 n15 v2 σ3 → wx z 3 137 15 [(0, .inr (.inr (.ref 45))), (1, .inl (a1)), (2, .inl (v2))] [] σ3 (fun v σ' => v = none ∧ sg_F [48, 53, 54, 8045, 11045, 21045, 22045, 23045] σ σ' ∧ Q σ') := by
      intro n15
      induction n15 using Nat.strongRecOn with
      | _ n15 ih9 =>
        intro v2 σ3 r8 hF4 w
        have w := w13 n15 v2 σ3 r8 hF4 w
        refine wk_b tt_137 2 (pc' := 17) (ls' := [(0, .inr (.inr (.ref 45))), (1, .inl (a1)), (2, .inl (v2))]) (st' := [.inl (a1), .inl (v2)]) (σ' := σ3) rfl ?_
        refine wk_if2 tt_137 (tgt := 31) rfl rfl r8 ra1 (fun (h23 : a1 ≤ v2) => ?_) (fun (h23 : v2 < a1) => ?_)
        ·
          have w := w.1 h23
          exact wk_ls [(0, .inr (.inr (.ref 45)))] rfl ⟨rfl, trivial⟩ (ex16  σ3  (sg_F_t (sg_F_r [54, 22045] σ) (sg_F_m (L := [54, 22045]) hF4 rfl)) w)
        ·
          have w := w.2 h23
          refine wk_b tt_137 2 (pc' := 22) (ls' := [(0, .inr (.inr (.ref 45))), (1, .inl (a1)), (2, .inl (v2))]) (st' := [.inl (v2), .inr (.inr (.ref 45))]) (σ' := σ3) rfl ?_
          refine wk_call tt_137 rfl rfl rfl rfl rfl tt_129 rfl (by decide) (w_nAdd z σ3 (v2) _ r8 w) (fun u29 σ25 hq27 => ?_)
          obtain ⟨rfl, hF26, w⟩ := hq27
          have w := w hF26
          obtain ⟨c30, w⟩ := w
          refine wk_b tt_137 2 (pc' := 15) (ls' := [(2, .inl ((v2 + 1))), (0, .inr (.inr (.ref 45))), (1, .inl (a1))]) (st' := []) (σ' := σ25) rfl ?_
          obtain ⟨m31, hm31, w⟩ := w
          exact wk_ls [(0, .inr (.inr (.ref 45))), (1, .inl (a1)), (2, .inl ((v2 + 1)))] rfl ⟨rfl, rfl, rfl, trivial⟩ (ih9 m31 hm31 ((v2 + 1)) σ25 c30 (sg_F_t (sg_F_t (sg_F_r [54, 22045] σ) (sg_F_m (L := [54, 22045]) hF4 rfl)) (sg_F_m (L := [54, 22045]) hF26 rfl)) w)
    exact wk_ls [(0, .inr (.inr (.ref 45))), (1, .inl (a1)), (2, .inl (0))] rfl ⟨rfl, rfl, rfl, trivial⟩ (lp11 μ6 (0) σ (by decide) (sg_F_r _ _) w12)
  ·
    have w := w.2 h1
    refine wk_b tt_137 3 (pc' := 12) (ls' := [(0, .inr (.inr (.ref 45))), (1, .inl (a1))]) (st' := []) (σ' := (sg_w σ 45 10 (5))) rfl ?_
    generalize hs33 : (sg_w σ 45 10 (5)) = σ32
    have w := w σ32 hs33.symm
    have hF34 : sg_F [11045] σ σ32 := by rw [← hs33]; exact sg_F_w (sg_F_r _ _) rfl _
    exact wk_rV tt_137 rfl rfl ⟨rfl, (sg_F_t (sg_F_r [48, 53, 54, 8045, 11045, 21045, 22045, 23045] σ) (sg_F_m (L := [48, 53, 54, 8045, 11045, 21045, 22045, 23045]) hF34 rfl)), w⟩
-- NestedVectors$NestedRun.keepParts
def V_nKeepParts (σ : sg_S) (a1 : Int) (a2 : Int) (a3 : Int) (Q : sg_S → Prop) : Prop := (∃ (I6 : Nat → Int → Int → sg_S → Prop) (X8 : sg_S → Prop), (∃ n, I6 n (0) (0) σ) ∧ (∀ (n17 : Nat) (v2 : Int) (v3 : Int) (σ4 : sg_S), sg_R v2 → sg_R v3 → sg_F [48, 53, 54, 8045, 21045, 22045] σ σ4 → I6 n17 v2 v3 σ4 → (((v_nLengthOf σ (a2)) ≤ v3 → X8 σ4) ∧ (v3 < (v_nLengthOf σ (a2)) → p_nItemOf σ4 (a2) (v3) ∧ sg_R (v2 + (v_nItemOf σ4 (a2) (v3))) ∧ sg_R ((v2 + (v_nItemOf σ4 (a2) (v3))) - v2) ∧ (∃ (I43 : Nat → Int → Int → sg_S → Prop) (X45 : Int → sg_S → Prop), (∃ n, I43 n (((v2 + (v_nItemOf σ4 (a2) (v3))) - v2)) (v2) σ4) ∧ (∀ (n54 : Nat) (v39 : Int) (v40 : Int) (σ41 : sg_S), sg_R v39 → sg_R v40 → sg_F [54, 22045] σ4 σ41 → I43 n54 v39 v40 σ41 → (((v2 + (v_nItemOf σ4 (a2) (v3))) ≤ v40 → X45 (v39) σ41) ∧ (v40 < (v2 + (v_nItemOf σ4 (a2) (v3))) → p_nItemOf σ4 (a1) (v40) ∧ V_nAdd σ41 ((v_nItemOf σ4 (a1) (v40))) (fun σ68 => sg_F [54, 22045] σ41 σ68 → ((a3 = 0 → True) ∧ (¬ a3 = 0 → p_nItemOf σ4 (a1) (v40) ∧ p_nCountOf σ4 ((v_nItemOf σ4 (a1) (v40))) ∧ True)) ∧ ∀ v75 : Int, v75 = (if a3 = 0 then (0 : Int) else (v_nCountOf σ4 ((v_nItemOf σ4 (a1) (v40))))) → sg_R v75 → sg_R (v39 + v75) ∧ sg_R (v40 + 1) ∧ (∃ m, m < n54 ∧ I43 m ((v39 + v75)) ((v40 + 1)) σ68))))) ∧ (∀ (v39 : Int) (σ41 : sg_S), sg_R v39 → sg_F [54, 22045] σ4 σ41 → X45 v39 σ41 → V_nKeep σ41 (v39) (fun σ57 => sg_F [48, 53, 8045, 21045, 22045] σ41 σ57 → sg_R (v3 + 1) ∧ (∃ m, m < n17 ∧ I6 m ((v2 + (v_nItemOf σ4 (a2) (v3)))) ((v3 + 1)) σ57))))))) ∧ (∀ (σ4 : sg_S), sg_F [48, 53, 54, 8045, 21045, 22045] σ σ4 → X8 σ4 → V_nGather σ4 ((v_nLengthOf σ (a2))) (fun σ20 => sg_F [54, 8045, 22045] σ4 σ20 → p_nCountOf σ4 (a1) ∧ sg_R ((v_nLengthOf σ (a2)) + (v_nCountOf σ4 (a1))) ∧ V_nKeep σ20 (((v_nLengthOf σ (a2)) + (v_nCountOf σ4 (a1)))) (fun σ29 => sg_F [48, 53, 8045, 21045, 22045] σ20 σ29 → Q σ29))))
set_option maxHeartbeats 4000000 in
set_option maxRecDepth 8000 in
theorem w_nKeepParts (z : Value) (σ : sg_S) (a1 : Int) (a2 : Int) (a3 : Int) (Q : sg_S → Prop) (ra1 : sg_R a1) (ra2 : sg_R a2) (ra3 : sg_R a3) (w : V_nKeepParts σ a1 a2 a3 Q) : wx z 2 148 0 [(0, .inr (.inr (.ref 45))), (1, .inl (a1)), (2, .inl (a2)), (3, .inl (a3))] [] σ (fun v σ' => v = none ∧ sg_F [48, 53, 54, 8045, 21045, 22045] σ σ' ∧ Q σ') := by
  unfold V_nKeepParts at w
  refine wk_b tt_148 2 (pc' := 2) (ls' := [(0, .inr (.inr (.ref 45))), (1, .inl (a1)), (2, .inl (a2)), (3, .inl (a3))]) (st' := [.inl (a2), .inr (.inr (.ref 45))]) (σ' := σ) rfl ?_
  refine wk_callp tt_148 rfl rfl rfl rfl rfl tt_149 rfl (by decide) (w_nLengthOf z σ (a2) ra2 ) ?_
  have r1 := vr_nLengthOf σ  (a2) ra2 
  refine wk_b tt_148 5 (pc' := 13) (ls' := [(6, .inl (0)), (5, .inl (0)), (4, .inl ((v_nLengthOf σ (a2)))), (0, .inr (.inr (.ref 45))), (1, .inl (a1)), (2, .inl (a2)), (3, .inl (a3))]) (st' := []) (σ' := σ) rfl ?_
  obtain ⟨I6, X8, ⟨μ7, w14⟩, w15, w16⟩ := w
  have ex18 : ∀ (σ4 : sg_S), sg_F [48, 53, 54, 8045, 21045, 22045] σ σ4 → X8 σ4 → wx z 2 148 107 [(0, .inr (.inr (.ref 45))), (1, .inl (a1)), (4, .inl ((v_nLengthOf σ (a2))))] [] σ4 (fun v σ' => v = none ∧ sg_F [48, 53, 54, 8045, 21045, 22045] σ σ' ∧ Q σ') := by
    intro σ4 hF5 w
    have w := w16 σ4 hF5 w
    refine wk_b tt_148 2 (pc' := 110) (ls' := [(0, .inr (.inr (.ref 45))), (1, .inl (a1)), (4, .inl ((v_nLengthOf σ (a2))))]) (st' := [.inl ((v_nLengthOf σ (a2))), .inr (.inr (.ref 45))]) (σ' := σ4) rfl ?_
    refine wk_call tt_148 rfl rfl rfl rfl rfl tt_143 rfl (by decide) (w_nGather z σ4 ((v_nLengthOf σ (a2))) _ r1 w) (fun u24 σ20 hq22 => ?_)
    obtain ⟨rfl, hF21, w⟩ := hq22
    have w := w hF21
    refine wk_b tt_148 4 (pc' := 118) (ls' := [(0, .inr (.inr (.ref 45))), (1, .inl (a1)), (4, .inl ((v_nLengthOf σ (a2))))]) (st' := [.inl (a1), .inr (.inr (.ref 45)), .inl ((v_nLengthOf σ (a2))), .inr (.inr (.ref 45))]) (σ' := σ20) rfl ?_
    obtain ⟨c25, w⟩ := w
    have c25 : p_nCountOf σ20 (a1) := by
      rw [pF_nCountOf hF21 rfl]; exact c25
    refine wk_callp tt_148 rfl rfl rfl rfl rfl tt_136 rfl (by decide) (w_nCountOf z σ20 (a1) ra1 c25) ?_
    rw [vF_nCountOf hF21 rfl]
    have r26 := vr_nCountOf σ4  (a1) ra1 (by have q := c25; rw [pF_nCountOf hF21 rfl] at q; exact q)
    obtain ⟨c27, w⟩ := w
    refine wk_b tt_148 1 (pc' := 122) (ls' := [(0, .inr (.inr (.ref 45))), (1, .inl (a1)), (4, .inl ((v_nLengthOf σ (a2))))]) (st' := [.inl (((v_nLengthOf σ (a2)) + (v_nCountOf σ4 (a1)))), .inr (.inr (.ref 45))]) (σ' := σ20) rfl ?_
    refine wk_call tt_148 rfl rfl rfl rfl rfl tt_147 rfl (by decide) (w_nKeep z σ20 (((v_nLengthOf σ (a2)) + (v_nCountOf σ4 (a1)))) _ c27 w) (fun u33 σ29 hq31 => ?_)
    obtain ⟨rfl, hF30, w⟩ := hq31
    have w := w hF30
    exact wk_rV tt_148 rfl rfl ⟨rfl, (sg_F_t (sg_F_t (sg_F_t (sg_F_r [48, 53, 54, 8045, 21045, 22045] σ) (sg_F_m (L := [48, 53, 54, 8045, 21045, 22045]) hF5 rfl)) (sg_F_m (L := [48, 53, 54, 8045, 21045, 22045]) hF21 rfl)) (sg_F_m (L := [48, 53, 54, 8045, 21045, 22045]) hF30 rfl)), w⟩
  have lp13 : ∀ (n17 : Nat) (v2 : Int) (v3 : Int) (σ4 : sg_S), sg_R v2 → sg_R v3 → sg_F [48, 53, 54, 8045, 21045, 22045] σ σ4 → I6 n17 v2 v3 σ4 → wx z 2 148 13 [(0, .inr (.inr (.ref 45))), (1, .inl (a1)), (2, .inl (a2)), (3, .inl (a3)), (4, .inl ((v_nLengthOf σ (a2)))), (5, .inl (v2)), (6, .inl (v3))] [] σ4 (fun v σ' => v = none ∧ sg_F [48, 53, 54, 8045, 21045, 22045] σ σ' ∧ Q σ') := by
    intro n17
    induction n17 using Nat.strongRecOn with
    | _ n17 ih11 =>
      intro v2 v3 σ4 r9 r10 hF5 w
      have w := w15 n17 v2 v3 σ4 r9 r10 hF5 w
      refine wk_b tt_148 2 (pc' := 17) (ls' := [(0, .inr (.inr (.ref 45))), (1, .inl (a1)), (2, .inl (a2)), (3, .inl (a3)), (4, .inl ((v_nLengthOf σ (a2)))), (5, .inl (v2)), (6, .inl (v3))]) (st' := [.inl ((v_nLengthOf σ (a2))), .inl (v3)]) (σ' := σ4) rfl ?_
      refine wk_if2 tt_148 (tgt := 107) rfl rfl r10 r1 (fun (h34 : (v_nLengthOf σ (a2)) ≤ v3) => ?_) (fun (h34 : v3 < (v_nLengthOf σ (a2))) => ?_)
      ·
        have w := w.1 h34
        exact wk_ls [(0, .inr (.inr (.ref 45))), (1, .inl (a1)), (4, .inl ((v_nLengthOf σ (a2))))] rfl ⟨rfl, rfl, rfl, trivial⟩ (ex18  σ4  (sg_F_t (sg_F_r [48, 53, 54, 8045, 21045, 22045] σ) (sg_F_m (L := [48, 53, 54, 8045, 21045, 22045]) hF5 rfl)) w)
      ·
        have w := w.2 h34
        refine wk_b tt_148 4 (pc' := 26) (ls' := [(0, .inr (.inr (.ref 45))), (1, .inl (a1)), (2, .inl (a2)), (3, .inl (a3)), (4, .inl ((v_nLengthOf σ (a2)))), (5, .inl (v2)), (6, .inl (v3))]) (st' := [.inl (v3), .inl (a2), .inr (.inr (.ref 45)), .inl (v2)]) (σ' := σ4) rfl ?_
        obtain ⟨c35, w⟩ := w
        refine wk_callp tt_148 rfl rfl rfl rfl rfl tt_145 rfl (by decide) (w_nItemOf z σ4 (a2) (v3) ra2 r10 c35) ?_
        have r36 := vr_nItemOf σ4  (a2) (v3) ra2 r10 c35
        obtain ⟨c37, w⟩ := w
        obtain ⟨c38, w⟩ := w
        refine wk_b tt_148 8 (pc' := 43) (ls' := [(9, .inl (v2)), (8, .inl (((v2 + (v_nItemOf σ4 (a2) (v3))) - v2))), (7, .inl ((v2 + (v_nItemOf σ4 (a2) (v3))))), (0, .inr (.inr (.ref 45))), (1, .inl (a1)), (2, .inl (a2)), (3, .inl (a3)), (4, .inl ((v_nLengthOf σ (a2)))), (5, .inl (v2)), (6, .inl (v3))]) (st' := []) (σ' := σ4) rfl ?_
        obtain ⟨I43, X45, ⟨μ44, w51⟩, w52, w53⟩ := w
        have ex55 : ∀ (v39 : Int) (σ41 : sg_S), sg_R v39 → sg_F [54, 22045] σ4 σ41 → X45 v39 σ41 → wx z 2 148 91 [(0, .inr (.inr (.ref 45))), (1, .inl (a1)), (2, .inl (a2)), (3, .inl (a3)), (4, .inl ((v_nLengthOf σ (a2)))), (6, .inl (v3)), (7, .inl ((v2 + (v_nItemOf σ4 (a2) (v3))))), (8, .inl (v39))] [] σ41 (fun v σ' => v = none ∧ sg_F [48, 53, 54, 8045, 21045, 22045] σ σ' ∧ Q σ') := by
          intro v39 σ41 r46 hF42 w
          have w := w53 v39 σ41 r46 hF42 w
          refine wk_b tt_148 4 (pc' := 98) (ls' := [(5, .inl ((v2 + (v_nItemOf σ4 (a2) (v3))))), (0, .inr (.inr (.ref 45))), (1, .inl (a1)), (2, .inl (a2)), (3, .inl (a3)), (4, .inl ((v_nLengthOf σ (a2)))), (6, .inl (v3)), (7, .inl ((v2 + (v_nItemOf σ4 (a2) (v3))))), (8, .inl (v39))]) (st' := [.inl (v39), .inr (.inr (.ref 45))]) (σ' := σ41) rfl ?_
          refine wk_call tt_148 rfl rfl rfl rfl rfl tt_147 rfl (by decide) (w_nKeep z σ41 (v39) _ r46 w) (fun u61 σ57 hq59 => ?_)
          obtain ⟨rfl, hF58, w⟩ := hq59
          have w := w hF58
          obtain ⟨c62, w⟩ := w
          refine wk_b tt_148 2 (pc' := 13) (ls' := [(6, .inl ((v3 + 1))), (5, .inl ((v2 + (v_nItemOf σ4 (a2) (v3))))), (0, .inr (.inr (.ref 45))), (1, .inl (a1)), (2, .inl (a2)), (3, .inl (a3)), (4, .inl ((v_nLengthOf σ (a2)))), (7, .inl ((v2 + (v_nItemOf σ4 (a2) (v3))))), (8, .inl (v39))]) (st' := []) (σ' := σ57) rfl ?_
          obtain ⟨m63, hm63, w⟩ := w
          exact wk_ls [(0, .inr (.inr (.ref 45))), (1, .inl (a1)), (2, .inl (a2)), (3, .inl (a3)), (4, .inl ((v_nLengthOf σ (a2)))), (5, .inl ((v2 + (v_nItemOf σ4 (a2) (v3))))), (6, .inl ((v3 + 1)))] rfl ⟨rfl, rfl, rfl, rfl, rfl, rfl, rfl, trivial⟩ (ih11 m63 hm63 ((v2 + (v_nItemOf σ4 (a2) (v3)))) ((v3 + 1)) σ57 c37 c62 (sg_F_t (sg_F_t (sg_F_t (sg_F_r [48, 53, 54, 8045, 21045, 22045] σ) (sg_F_m (L := [48, 53, 54, 8045, 21045, 22045]) hF5 rfl)) (sg_F_m (L := [48, 53, 54, 8045, 21045, 22045]) hF42 rfl)) (sg_F_m (L := [48, 53, 54, 8045, 21045, 22045]) hF58 rfl)) w)
        have lp50 : ∀ (n54 : Nat) (v39 : Int) (v40 : Int) (σ41 : sg_S), sg_R v39 → sg_R v40 → sg_F [54, 22045] σ4 σ41 → I43 n54 v39 v40 σ41 → wx z 2 148 43 [(0, .inr (.inr (.ref 45))), (1, .inl (a1)), (2, .inl (a2)), (3, .inl (a3)), (4, .inl ((v_nLengthOf σ (a2)))), (6, .inl (v3)), (7, .inl ((v2 + (v_nItemOf σ4 (a2) (v3))))), (8, .inl (v39)), (9, .inl (v40))] [] σ41 (fun v σ' => v = none ∧ sg_F [48, 53, 54, 8045, 21045, 22045] σ σ' ∧ Q σ') := by
          intro n54
          induction n54 using Nat.strongRecOn with
          | _ n54 ih48 =>
            intro v39 v40 σ41 r46 r47 hF42 w
            have w := w52 n54 v39 v40 σ41 r46 r47 hF42 w
            refine wk_b tt_148 2 (pc' := 47) (ls' := [(0, .inr (.inr (.ref 45))), (1, .inl (a1)), (2, .inl (a2)), (3, .inl (a3)), (4, .inl ((v_nLengthOf σ (a2)))), (6, .inl (v3)), (7, .inl ((v2 + (v_nItemOf σ4 (a2) (v3))))), (8, .inl (v39)), (9, .inl (v40))]) (st' := [.inl ((v2 + (v_nItemOf σ4 (a2) (v3)))), .inl (v40)]) (σ' := σ41) rfl ?_
            refine wk_if2 tt_148 (tgt := 91) rfl rfl r47 c37 (fun (h64 : (v2 + (v_nItemOf σ4 (a2) (v3))) ≤ v40) => ?_) (fun (h64 : v40 < (v2 + (v_nItemOf σ4 (a2) (v3)))) => ?_)
            ·
              have w := w.1 h64
              exact wk_ls [(0, .inr (.inr (.ref 45))), (1, .inl (a1)), (2, .inl (a2)), (3, .inl (a3)), (4, .inl ((v_nLengthOf σ (a2)))), (6, .inl (v3)), (7, .inl ((v2 + (v_nItemOf σ4 (a2) (v3))))), (8, .inl (v39))] rfl ⟨rfl, rfl, rfl, rfl, rfl, rfl, rfl, rfl, trivial⟩ (ex55 (v39) σ41 r46 (sg_F_t (sg_F_r [54, 22045] σ4) (sg_F_m (L := [54, 22045]) hF42 rfl)) w)
            ·
              have w := w.2 h64
              refine wk_b tt_148 4 (pc' := 55) (ls' := [(0, .inr (.inr (.ref 45))), (1, .inl (a1)), (2, .inl (a2)), (3, .inl (a3)), (4, .inl ((v_nLengthOf σ (a2)))), (6, .inl (v3)), (7, .inl ((v2 + (v_nItemOf σ4 (a2) (v3))))), (8, .inl (v39)), (9, .inl (v40))]) (st' := [.inl (v40), .inl (a1), .inr (.inr (.ref 45)), .inr (.inr (.ref 45))]) (σ' := σ41) rfl ?_
              obtain ⟨c65, w⟩ := w
              have c65 : p_nItemOf σ41 (a1) (v40) := by
                rw [pF_nItemOf hF42 rfl]; exact c65
              refine wk_callp tt_148 rfl rfl rfl rfl rfl tt_145 rfl (by decide) (w_nItemOf z σ41 (a1) (v40) ra1 r47 c65) ?_
              rw [vF_nItemOf hF42 rfl]
              have r66 := vr_nItemOf σ4  (a1) (v40) ra1 r47 (by have q := c65; rw [pF_nItemOf hF42 rfl] at q; exact q)
              refine wk_call tt_148 rfl rfl rfl rfl rfl tt_129 rfl (by decide) (w_nAdd z σ41 ((v_nItemOf σ4 (a1) (v40))) _ r66 w) (fun u72 σ68 hq70 => ?_)
              obtain ⟨rfl, hF69, w⟩ := hq70
              have w := w hF69
              refine wk_b tt_148 2 (pc' := 64) (ls' := [(0, .inr (.inr (.ref 45))), (1, .inl (a1)), (2, .inl (a2)), (3, .inl (a3)), (4, .inl ((v_nLengthOf σ (a2)))), (6, .inl (v3)), (7, .inl ((v2 + (v_nItemOf σ4 (a2) (v3))))), (8, .inl (v39)), (9, .inl (v40))]) (st' := [.inl (a3), .inl (v39)]) (σ' := σ68) rfl ?_
              obtain ⟨wp, w⟩ := w
              have jn74 : ∀ v75 : Int, v75 = (if a3 = 0 then (0 : Int) else (v_nCountOf σ4 ((v_nItemOf σ4 (a1) (v40))))) → sg_R v75 → wx z 2 148 82 [(0, .inr (.inr (.ref 45))), (1, .inl (a1)), (2, .inl (a2)), (3, .inl (a3)), (4, .inl ((v_nLengthOf σ (a2)))), (6, .inl (v3)), (7, .inl ((v2 + (v_nItemOf σ4 (a2) (v3))))), (9, .inl (v40))] [.inl (v75), .inl (v39)] σ68 (fun v σ' => v = none ∧ sg_F [48, 53, 54, 8045, 21045, 22045] σ σ' ∧ Q σ') := by
                intro v75 e77 r76
                have w := w v75 e77 r76
                obtain ⟨c78, w⟩ := w
                obtain ⟨c79, w⟩ := w
                refine wk_b tt_148 4 (pc' := 43) (ls' := [(9, .inl ((v40 + 1))), (8, .inl ((v39 + v75))), (0, .inr (.inr (.ref 45))), (1, .inl (a1)), (2, .inl (a2)), (3, .inl (a3)), (4, .inl ((v_nLengthOf σ (a2)))), (6, .inl (v3)), (7, .inl ((v2 + (v_nItemOf σ4 (a2) (v3)))))]) (st' := []) (σ' := σ68) rfl ?_
                obtain ⟨m80, hm80, w⟩ := w
                exact wk_ls [(0, .inr (.inr (.ref 45))), (1, .inl (a1)), (2, .inl (a2)), (3, .inl (a3)), (4, .inl ((v_nLengthOf σ (a2)))), (6, .inl (v3)), (7, .inl ((v2 + (v_nItemOf σ4 (a2) (v3))))), (8, .inl ((v39 + v75))), (9, .inl ((v40 + 1)))] rfl ⟨rfl, rfl, rfl, rfl, rfl, rfl, rfl, rfl, rfl, trivial⟩ (ih48 m80 hm80 ((v39 + v75)) ((v40 + 1)) σ68 c78 c79 (sg_F_t (sg_F_t (sg_F_r [54, 22045] σ4) (sg_F_m (L := [54, 22045]) hF42 rfl)) (sg_F_m (L := [54, 22045]) hF69 rfl)) w)
              have w := wp
              refine wk_if tt_148 (tgt := 81) rfl rfl ra3 (fun (h73 : a3 = 0) => ?_) (fun (h73 : ¬ a3 = 0) => ?_)
              ·
                have w := w.1 h73
                refine wk_b tt_148 1 (pc' := 82) (ls' := [(0, .inr (.inr (.ref 45))), (1, .inl (a1)), (2, .inl (a2)), (3, .inl (a3)), (4, .inl ((v_nLengthOf σ (a2)))), (6, .inl (v3)), (7, .inl ((v2 + (v_nItemOf σ4 (a2) (v3))))), (8, .inl (v39)), (9, .inl (v40))]) (st' := [.inl (0), .inl (v39)]) (σ' := σ68) rfl ?_
                exact wk_ls [(0, .inr (.inr (.ref 45))), (1, .inl (a1)), (2, .inl (a2)), (3, .inl (a3)), (4, .inl ((v_nLengthOf σ (a2)))), (6, .inl (v3)), (7, .inl ((v2 + (v_nItemOf σ4 (a2) (v3))))), (9, .inl (v40))] rfl ⟨rfl, rfl, rfl, rfl, rfl, rfl, rfl, rfl, trivial⟩ (jn74 (0) (by simp only [if_pos h73]) (by decide))
              ·
                have w := w.2 h73
                refine wk_b tt_148 4 (pc' := 72) (ls' := [(0, .inr (.inr (.ref 45))), (1, .inl (a1)), (2, .inl (a2)), (3, .inl (a3)), (4, .inl ((v_nLengthOf σ (a2)))), (6, .inl (v3)), (7, .inl ((v2 + (v_nItemOf σ4 (a2) (v3))))), (8, .inl (v39)), (9, .inl (v40))]) (st' := [.inl (v40), .inl (a1), .inr (.inr (.ref 45)), .inr (.inr (.ref 45)), .inl (v39)]) (σ' := σ68) rfl ?_
                obtain ⟨c81, w⟩ := w
                have c81 : p_nItemOf σ68 (a1) (v40) := by
                  rw [pF_nItemOf hF69 rfl, pF_nItemOf hF42 rfl]; exact c81
                refine wk_callp tt_148 rfl rfl rfl rfl rfl tt_145 rfl (by decide) (w_nItemOf z σ68 (a1) (v40) ra1 r47 c81) ?_
                rw [vF_nItemOf hF69 rfl, vF_nItemOf hF42 rfl]
                have r82 := vr_nItemOf σ4  (a1) (v40) ra1 r47 (by have q := c81; rw [pF_nItemOf hF69 rfl, pF_nItemOf hF42 rfl] at q; exact q)
                obtain ⟨c83, w⟩ := w
                have c83 : p_nCountOf σ68 ((v_nItemOf σ4 (a1) (v40))) := by
                  rw [pF_nCountOf hF69 rfl, pF_nCountOf hF42 rfl]; exact c83
                refine wk_callp tt_148 rfl rfl rfl rfl rfl tt_136 rfl (by decide) (w_nCountOf z σ68 ((v_nItemOf σ4 (a1) (v40))) r82 c83) ?_
                rw [vF_nCountOf hF69 rfl, vF_nCountOf hF42 rfl]
                have r84 := vr_nCountOf σ4  ((v_nItemOf σ4 (a1) (v40))) r82 (by have q := c83; rw [pF_nCountOf hF69 rfl, pF_nCountOf hF42 rfl] at q; exact q)
                refine wk_b tt_148 1 (pc' := 82) (ls' := [(0, .inr (.inr (.ref 45))), (1, .inl (a1)), (2, .inl (a2)), (3, .inl (a3)), (4, .inl ((v_nLengthOf σ (a2)))), (6, .inl (v3)), (7, .inl ((v2 + (v_nItemOf σ4 (a2) (v3))))), (8, .inl (v39)), (9, .inl (v40))]) (st' := [.inl ((v_nCountOf σ4 ((v_nItemOf σ4 (a1) (v40))))), .inl (v39)]) (σ' := σ68) rfl ?_
                exact wk_ls [(0, .inr (.inr (.ref 45))), (1, .inl (a1)), (2, .inl (a2)), (3, .inl (a3)), (4, .inl ((v_nLengthOf σ (a2)))), (6, .inl (v3)), (7, .inl ((v2 + (v_nItemOf σ4 (a2) (v3))))), (9, .inl (v40))] rfl ⟨rfl, rfl, rfl, rfl, rfl, rfl, rfl, rfl, trivial⟩ (jn74 ((v_nCountOf σ4 ((v_nItemOf σ4 (a1) (v40))))) (by simp only [if_neg (show ¬ (a3 = 0) by omega)]) r84)
        exact wk_ls [(0, .inr (.inr (.ref 45))), (1, .inl (a1)), (2, .inl (a2)), (3, .inl (a3)), (4, .inl ((v_nLengthOf σ (a2)))), (6, .inl (v3)), (7, .inl ((v2 + (v_nItemOf σ4 (a2) (v3))))), (8, .inl (((v2 + (v_nItemOf σ4 (a2) (v3))) - v2))), (9, .inl (v2))] rfl ⟨rfl, rfl, rfl, rfl, rfl, rfl, rfl, rfl, rfl, trivial⟩ (lp50 μ44 (((v2 + (v_nItemOf σ4 (a2) (v3))) - v2)) (v2) σ4 c38 r9 (sg_F_r _ _) w51)
  exact wk_ls [(0, .inr (.inr (.ref 45))), (1, .inl (a1)), (2, .inl (a2)), (3, .inl (a3)), (4, .inl ((v_nLengthOf σ (a2)))), (5, .inl (0)), (6, .inl (0))] rfl ⟨rfl, rfl, rfl, rfl, rfl, rfl, rfl, trivial⟩ (lp13 μ7 (0) (0) σ (by decide) (by decide) (sg_F_r _ _) w14)
-- NestedVectors$NestedRun.divide
def V_nDivide (σ : sg_S) (a1 : Int) (a2 : Int) (Q : sg_S → Prop) : Prop := (∃ (I7 : Nat → Int → Int → Int → Prop) (X9 : Int → Int → Prop), (∃ n, I7 n (0) (0) (0)) ∧ (∀ (n19 : Nat) (v2 : Int) (v3 : Int) (v4 : Int), sg_RL v2 → sg_R v3 → sg_R v4 → I7 n19 v2 v3 v4 → (((v_nLengthOf σ (a2)) ≤ v4 → X9 (v2) (v3)) ∧ (v4 < (v_nLengthOf σ (a2)) → ((¬ v3 = 0 → True) ∧ (v3 = 0 → p_nItemOf σ (a2) (v4) ∧ ((0 ≤ (v_nItemOf σ (a2) (v4)) → True) ∧ ((v_nItemOf σ (a2) (v4)) < 0 → True)))) ∧ ∀ v62 : Int, v62 = (if ¬ v3 = 0 then (1 : Int) else (if 0 ≤ (v_nItemOf σ (a2) (v4)) then (0 : Int) else (1 : Int))) → sg_R v62 → p_nItemOf σ (a2) (v4) ∧ sg_RL (v2 + (v_nItemOf σ (a2) (v4))) ∧ sg_R (v4 + 1) ∧ (∃ m, m < n19 ∧ I7 m ((v2 + (v_nItemOf σ (a2) (v4)))) (v62) ((v4 + 1)))))) ∧ (∀ (v2 : Int) (v3 : Int), sg_RL v2 → sg_R v3 → X9 v2 v3 → ((¬ v3 = 0 → ((v3 = 0 → ∀ σ23, σ23 = (sg_w σ 45 10 (3)) → Q σ23) ∧ (¬ v3 = 0 → ∀ σ26, σ26 = (sg_w σ 45 10 (5)) → Q σ26))) ∧ (v3 = 0 → ((v2 = (v_nLengthOf σ (a1)) → p_nCountOf σ (a1) ∧ sg_R ((v_nLengthOf σ (a2)) + (v_nCountOf σ (a1))) ∧ V_nSpend σ (((v_nLengthOf σ (a2)) + (v_nCountOf σ (a1)))) (fun q34 σ35 => (q34 = 0 ∨ q34 = 1) → sg_F [11045, 23045] σ σ35 → ((q34 = 0 → Q σ35) ∧ (¬ q34 = 0 → ∀ v43 : Int, v43 = (if (sg_g σ 45 9) ≤ 2 then (0 : Int) else (1 : Int)) → sg_R v43 → V_nKeepParts σ35 (a1) (a2) (v43) (fun σ47 => sg_F [48, 53, 54, 8045, 21045, 22045] σ35 σ47 → Q σ47))))) ∧ (¬ v2 = (v_nLengthOf σ (a1)) → ((v3 = 0 → ∀ σ53, σ53 = (sg_w σ 45 10 (3)) → Q σ53) ∧ (¬ v3 = 0 → ∀ σ56, σ56 = (sg_w σ 45 10 (5)) → Q σ56))))))))
set_option maxHeartbeats 4000000 in
set_option maxRecDepth 8000 in
theorem w_nDivide (z : Value) (σ : sg_S) (a1 : Int) (a2 : Int) (Q : sg_S → Prop) (ra1 : sg_R a1) (ra2 : sg_R a2) (w : V_nDivide σ a1 a2 Q) : wx z 3 138 0 [(0, .inr (.inr (.ref 45))), (1, .inl (a1)), (2, .inl (a2))] [] σ (fun v σ' => v = none ∧ sg_F [48, 53, 54, 8045, 11045, 21045, 22045, 23045] σ σ' ∧ Q σ') := by
  unfold V_nDivide at w
  refine wk_b tt_138 2 (pc' := 2) (ls' := [(0, .inr (.inr (.ref 45))), (1, .inl (a1)), (2, .inl (a2))]) (st' := [.inl (a2), .inr (.inr (.ref 45))]) (σ' := σ) rfl ?_
  refine wk_callp tt_138 rfl rfl rfl rfl rfl tt_149 rfl (by decide) (w_nLengthOf z σ (a2) ra2 ) ?_
  have r1 := vr_nLengthOf σ  (a2) ra2 
  refine wk_b tt_138 7 (pc' := 15) (ls' := [(7, .inl (0)), (6, .inl (0)), (4, .inr (.inl (0))), (3, .inl ((v_nLengthOf σ (a2)))), (0, .inr (.inr (.ref 45))), (1, .inl (a1)), (2, .inl (a2))]) (st' := []) (σ' := σ) rfl ?_
  obtain ⟨I7, X9, ⟨μ8, w16⟩, w17, w18⟩ := w
  have ex20 : ∀ (v2 : Int) (v3 : Int), sg_RL v2 → sg_R v3 → X9 v2 v3 → wx z 3 138 62 [(0, .inr (.inr (.ref 45))), (1, .inl (a1)), (2, .inl (a2)), (3, .inl ((v_nLengthOf σ (a2)))), (4, .inr (.inl (v2))), (6, .inl (v3))] [] σ (fun v σ' => v = none ∧ sg_F [48, 53, 54, 8045, 11045, 21045, 22045, 23045] σ σ' ∧ Q σ') := by
    intro v2 v3 r10 r11 w
    have w := w18 v2 v3 r10 r11 w
    refine wk_b tt_138 1 (pc' := 64) (ls' := [(0, .inr (.inr (.ref 45))), (1, .inl (a1)), (2, .inl (a2)), (3, .inl ((v_nLengthOf σ (a2)))), (4, .inr (.inl (v2))), (6, .inl (v3))]) (st' := [.inl (v3)]) (σ' := σ) rfl ?_
    refine wk_if tt_138 (tgt := 79) rfl rfl r11 (fun (h21 : ¬ v3 = 0) => ?_) (fun (h21 : v3 = 0) => ?_)
    ·
      have w := w.1 h21
      refine wk_b tt_138 2 (pc' := 82) (ls' := [(0, .inr (.inr (.ref 45))), (1, .inl (a1)), (2, .inl (a2)), (3, .inl ((v_nLengthOf σ (a2)))), (4, .inr (.inl (v2))), (6, .inl (v3))]) (st' := [.inl (v3), .inr (.inr (.ref 45))]) (σ' := σ) rfl ?_
      refine wk_if tt_138 (tgt := 89) rfl rfl r11 (fun (h22 : v3 = 0) => ?_) (fun (h22 : ¬ v3 = 0) => ?_)
      ·
        have w := w.1 h22
        refine wk_b tt_138 2 (pc' := 93) (ls' := [(0, .inr (.inr (.ref 45))), (1, .inl (a1)), (2, .inl (a2)), (3, .inl ((v_nLengthOf σ (a2)))), (4, .inr (.inl (v2))), (6, .inl (v3))]) (st' := []) (σ' := (sg_w σ 45 10 (3))) rfl ?_
        generalize hs24 : (sg_w σ 45 10 (3)) = σ23
        have w := w σ23 hs24.symm
        have hF25 : sg_F [11045] σ σ23 := by rw [← hs24]; exact sg_F_w (sg_F_r _ _) rfl _
        refine wk_b tt_138 1 (pc' := 129) (ls' := [(0, .inr (.inr (.ref 45))), (1, .inl (a1)), (2, .inl (a2)), (3, .inl ((v_nLengthOf σ (a2)))), (4, .inr (.inl (v2))), (6, .inl (v3))]) (st' := []) (σ' := σ23) rfl ?_
        exact wk_rV tt_138 rfl rfl ⟨rfl, (sg_F_t (sg_F_r [48, 53, 54, 8045, 11045, 21045, 22045, 23045] σ) (sg_F_m (L := [48, 53, 54, 8045, 11045, 21045, 22045, 23045]) hF25 rfl)), w⟩
      ·
        have w := w.2 h22
        refine wk_b tt_138 3 (pc' := 93) (ls' := [(0, .inr (.inr (.ref 45))), (1, .inl (a1)), (2, .inl (a2)), (3, .inl ((v_nLengthOf σ (a2)))), (4, .inr (.inl (v2))), (6, .inl (v3))]) (st' := []) (σ' := (sg_w σ 45 10 (5))) rfl ?_
        generalize hs27 : (sg_w σ 45 10 (5)) = σ26
        have w := w σ26 hs27.symm
        have hF28 : sg_F [11045] σ σ26 := by rw [← hs27]; exact sg_F_w (sg_F_r _ _) rfl _
        refine wk_b tt_138 1 (pc' := 129) (ls' := [(0, .inr (.inr (.ref 45))), (1, .inl (a1)), (2, .inl (a2)), (3, .inl ((v_nLengthOf σ (a2)))), (4, .inr (.inl (v2))), (6, .inl (v3))]) (st' := []) (σ' := σ26) rfl ?_
        exact wk_rV tt_138 rfl rfl ⟨rfl, (sg_F_t (sg_F_r [48, 53, 54, 8045, 11045, 21045, 22045, 23045] σ) (sg_F_m (L := [48, 53, 54, 8045, 11045, 21045, 22045, 23045]) hF28 rfl)), w⟩
    ·
      have w := w.2 h21
      refine wk_b tt_138 3 (pc' := 71) (ls' := [(0, .inr (.inr (.ref 45))), (1, .inl (a1)), (2, .inl (a2)), (3, .inl ((v_nLengthOf σ (a2)))), (4, .inr (.inl (v2))), (6, .inl (v3))]) (st' := [.inl (a1), .inr (.inr (.ref 45)), .inr (.inl (v2))]) (σ' := σ) rfl ?_
      refine wk_callp tt_138 rfl rfl rfl rfl rfl tt_149 rfl (by decide) (w_nLengthOf z σ (a1) ra1 ) ?_
      have r29 := vr_nLengthOf σ  (a1) ra1 
      refine wk_b tt_138 1 (pc' := 75) (ls' := [(0, .inr (.inr (.ref 45))), (1, .inl (a1)), (2, .inl (a2)), (3, .inl ((v_nLengthOf σ (a2)))), (4, .inr (.inl (v2))), (6, .inl (v3))]) (st' := [.inr (.inl ((sg_n ((v_nLengthOf σ (a1)))))), .inr (.inl (v2))]) (σ' := σ) rfl ?_
      rw [show (sg_n ((v_nLengthOf σ (a1)))) = (v_nLengthOf σ (a1)) from by rw [sg_id r29]]
      refine wk_lcif tt_138 (tgt := 96) rfl rfl rfl r10 (sg_Rgl2 r29) (fun (h30 : v2 = (v_nLengthOf σ (a1))) => ?_) (fun (h30 : ¬ v2 = (v_nLengthOf σ (a1))) => ?_)
      ·
        have w := w.1 h30
        refine wk_b tt_138 4 (pc' := 100) (ls' := [(0, .inr (.inr (.ref 45))), (1, .inl (a1)), (2, .inl (a2)), (3, .inl ((v_nLengthOf σ (a2)))), (4, .inr (.inl (v2))), (6, .inl (v3))]) (st' := [.inl (a1), .inr (.inr (.ref 45)), .inl ((v_nLengthOf σ (a2))), .inr (.inr (.ref 45))]) (σ' := σ) rfl ?_
        obtain ⟨c31, w⟩ := w
        refine wk_callp tt_138 rfl rfl rfl rfl rfl tt_136 rfl (by decide) (w_nCountOf z σ (a1) ra1 c31) ?_
        have r32 := vr_nCountOf σ  (a1) ra1 c31
        obtain ⟨c33, w⟩ := w
        refine wk_b tt_138 1 (pc' := 104) (ls' := [(0, .inr (.inr (.ref 45))), (1, .inl (a1)), (2, .inl (a2)), (3, .inl ((v_nLengthOf σ (a2)))), (4, .inr (.inl (v2))), (6, .inl (v3))]) (st' := [.inl (((v_nLengthOf σ (a2)) + (v_nCountOf σ (a1)))), .inr (.inr (.ref 45))]) (σ' := σ) rfl ?_
        refine wk_call tt_138 rfl rfl rfl rfl rfl tt_162 rfl (by decide) (w_nSpend z σ (((v_nLengthOf σ (a2)) + (v_nCountOf σ (a1)))) _ c33 w) (fun u39 σ35 hq37 => ?_)
        obtain ⟨q34, rfl, r38, hF36, w⟩ := hq37
        have w := w r38 hF36
        refine wk_if tt_138 (tgt := 129) rfl rfl (sg_Rz r38) (fun (h40 : q34 = 0) => ?_) (fun (h40 : ¬ q34 = 0) => ?_)
        ·
          have w := w.1 h40
          exact wk_rV tt_138 rfl rfl ⟨rfl, (sg_F_t (sg_F_r [48, 53, 54, 8045, 11045, 21045, 22045, 23045] σ) (sg_F_m (L := [48, 53, 54, 8045, 11045, 21045, 22045, 23045]) hF36 rfl)), w⟩
        ·
          have w := w.2 h40
          refine wk_b tt_138 6 (pc' := 118) (ls' := [(0, .inr (.inr (.ref 45))), (1, .inl (a1)), (2, .inl (a2)), (3, .inl ((v_nLengthOf σ (a2)))), (4, .inr (.inl (v2))), (6, .inl (v3))]) (st' := [.inl (2), .inl ((sg_g σ35 45 9)), .inl (a2), .inl (a1), .inr (.inr (.ref 45))]) (σ' := σ35) rfl ?_
          rw [show (sg_g σ35 45 9) = (sg_g σ 45 9) from by rw [sg_F_g hF36 rfl]]
          have jn42 : ∀ v43 : Int, v43 = (if (sg_g σ 45 9) ≤ 2 then (0 : Int) else (1 : Int)) → sg_R v43 → wx z 3 138 126 [] [.inl (v43), .inl (a2), .inl (a1), .inr (.inr (.ref 45))] σ35 (fun v σ' => v = none ∧ sg_F [48, 53, 54, 8045, 11045, 21045, 22045, 23045] σ σ' ∧ Q σ') := by
            intro v43 e45 r44
            have w := w v43 e45 r44
            refine wk_call tt_138 rfl rfl rfl rfl rfl tt_148 rfl (by decide) (w_nKeepParts z σ35 (a1) (a2) (v43) _ ra1 ra2 r44 w) (fun u51 σ47 hq49 => ?_)
            obtain ⟨rfl, hF48, w⟩ := hq49
            have w := w hF48
            exact wk_rV tt_138 rfl rfl ⟨rfl, (sg_F_t (sg_F_t (sg_F_r [48, 53, 54, 8045, 11045, 21045, 22045, 23045] σ) (sg_F_m (L := [48, 53, 54, 8045, 11045, 21045, 22045, 23045]) hF36 rfl)) (sg_F_m (L := [48, 53, 54, 8045, 11045, 21045, 22045, 23045]) hF48 rfl)), w⟩
          refine wk_if2 tt_138 (tgt := 125) rfl rfl (sg_Rg _ _ _) (by decide) (fun (h41 : (sg_g σ 45 9) ≤ 2) => ?_) (fun (h41 : 2 < (sg_g σ 45 9)) => ?_)
          ·
            clear w
            refine wk_b tt_138 1 (pc' := 126) (ls' := [(0, .inr (.inr (.ref 45))), (1, .inl (a1)), (2, .inl (a2)), (3, .inl ((v_nLengthOf σ (a2)))), (4, .inr (.inl (v2))), (6, .inl (v3))]) (st' := [.inl (0), .inl (a2), .inl (a1), .inr (.inr (.ref 45))]) (σ' := σ35) rfl ?_
            exact wk_ls [] rfl trivial (jn42 (0) (by simp only [if_pos h41]) (by decide))
          ·
            clear w
            refine wk_b tt_138 2 (pc' := 126) (ls' := [(0, .inr (.inr (.ref 45))), (1, .inl (a1)), (2, .inl (a2)), (3, .inl ((v_nLengthOf σ (a2)))), (4, .inr (.inl (v2))), (6, .inl (v3))]) (st' := [.inl (1), .inl (a2), .inl (a1), .inr (.inr (.ref 45))]) (σ' := σ35) rfl ?_
            exact wk_ls [] rfl trivial (jn42 (1) (by simp only [if_neg (show ¬ ((sg_g σ 45 9) ≤ 2) by omega)]) (by decide))
      ·
        have w := w.2 h30
        refine wk_b tt_138 2 (pc' := 82) (ls' := [(0, .inr (.inr (.ref 45))), (1, .inl (a1)), (2, .inl (a2)), (3, .inl ((v_nLengthOf σ (a2)))), (4, .inr (.inl (v2))), (6, .inl (v3))]) (st' := [.inl (v3), .inr (.inr (.ref 45))]) (σ' := σ) rfl ?_
        refine wk_if tt_138 (tgt := 89) rfl rfl r11 (fun (h52 : v3 = 0) => ?_) (fun (h52 : ¬ v3 = 0) => ?_)
        ·
          have w := w.1 h52
          refine wk_b tt_138 2 (pc' := 93) (ls' := [(0, .inr (.inr (.ref 45))), (1, .inl (a1)), (2, .inl (a2)), (3, .inl ((v_nLengthOf σ (a2)))), (4, .inr (.inl (v2))), (6, .inl (v3))]) (st' := []) (σ' := (sg_w σ 45 10 (3))) rfl ?_
          generalize hs54 : (sg_w σ 45 10 (3)) = σ53
          have w := w σ53 hs54.symm
          have hF55 : sg_F [11045] σ σ53 := by rw [← hs54]; exact sg_F_w (sg_F_r _ _) rfl _
          refine wk_b tt_138 1 (pc' := 129) (ls' := [(0, .inr (.inr (.ref 45))), (1, .inl (a1)), (2, .inl (a2)), (3, .inl ((v_nLengthOf σ (a2)))), (4, .inr (.inl (v2))), (6, .inl (v3))]) (st' := []) (σ' := σ53) rfl ?_
          exact wk_rV tt_138 rfl rfl ⟨rfl, (sg_F_t (sg_F_r [48, 53, 54, 8045, 11045, 21045, 22045, 23045] σ) (sg_F_m (L := [48, 53, 54, 8045, 11045, 21045, 22045, 23045]) hF55 rfl)), w⟩
        ·
          have w := w.2 h52
          refine wk_b tt_138 3 (pc' := 93) (ls' := [(0, .inr (.inr (.ref 45))), (1, .inl (a1)), (2, .inl (a2)), (3, .inl ((v_nLengthOf σ (a2)))), (4, .inr (.inl (v2))), (6, .inl (v3))]) (st' := []) (σ' := (sg_w σ 45 10 (5))) rfl ?_
          generalize hs57 : (sg_w σ 45 10 (5)) = σ56
          have w := w σ56 hs57.symm
          have hF58 : sg_F [11045] σ σ56 := by rw [← hs57]; exact sg_F_w (sg_F_r _ _) rfl _
          refine wk_b tt_138 1 (pc' := 129) (ls' := [(0, .inr (.inr (.ref 45))), (1, .inl (a1)), (2, .inl (a2)), (3, .inl ((v_nLengthOf σ (a2)))), (4, .inr (.inl (v2))), (6, .inl (v3))]) (st' := []) (σ' := σ56) rfl ?_
          exact wk_rV tt_138 rfl rfl ⟨rfl, (sg_F_t (sg_F_r [48, 53, 54, 8045, 11045, 21045, 22045, 23045] σ) (sg_F_m (L := [48, 53, 54, 8045, 11045, 21045, 22045, 23045]) hF58 rfl)), w⟩
  have lp15 : ∀ (n19 : Nat) (v2 : Int) (v3 : Int) (v4 : Int), sg_RL v2 → sg_R v3 → sg_R v4 → I7 n19 v2 v3 v4 → wx z 3 138 15 [(0, .inr (.inr (.ref 45))), (1, .inl (a1)), (2, .inl (a2)), (3, .inl ((v_nLengthOf σ (a2)))), (4, .inr (.inl (v2))), (6, .inl (v3)), (7, .inl (v4))] [] σ (fun v σ' => v = none ∧ sg_F [48, 53, 54, 8045, 11045, 21045, 22045, 23045] σ σ' ∧ Q σ') := by
    intro n19
    induction n19 using Nat.strongRecOn with
    | _ n19 ih13 =>
      intro v2 v3 v4 r10 r11 r12 w
      have w := w17 n19 v2 v3 v4 r10 r11 r12 w
      refine wk_b tt_138 2 (pc' := 18) (ls' := [(0, .inr (.inr (.ref 45))), (1, .inl (a1)), (2, .inl (a2)), (3, .inl ((v_nLengthOf σ (a2)))), (4, .inr (.inl (v2))), (6, .inl (v3)), (7, .inl (v4))]) (st' := [.inl ((v_nLengthOf σ (a2))), .inl (v4)]) (σ' := σ) rfl ?_
      refine wk_if2 tt_138 (tgt := 62) rfl rfl r12 r1 (fun (h59 : (v_nLengthOf σ (a2)) ≤ v4) => ?_) (fun (h59 : v4 < (v_nLengthOf σ (a2))) => ?_)
      ·
        have w := w.1 h59
        exact wk_ls [(0, .inr (.inr (.ref 45))), (1, .inl (a1)), (2, .inl (a2)), (3, .inl ((v_nLengthOf σ (a2)))), (4, .inr (.inl (v2))), (6, .inl (v3))] rfl ⟨rfl, rfl, rfl, rfl, rfl, rfl, trivial⟩ (ex20 (v2) (v3)  r10 r11  w)
      ·
        have w := w.2 h59
        refine wk_b tt_138 1 (pc' := 23) (ls' := [(0, .inr (.inr (.ref 45))), (1, .inl (a1)), (2, .inl (a2)), (3, .inl ((v_nLengthOf σ (a2)))), (4, .inr (.inl (v2))), (6, .inl (v3)), (7, .inl (v4))]) (st' := [.inl (v3)]) (σ' := σ) rfl ?_
        obtain ⟨wp, w⟩ := w
        have jn61 : ∀ v62 : Int, v62 = (if ¬ v3 = 0 then (1 : Int) else (if 0 ≤ (v_nItemOf σ (a2) (v4)) then (0 : Int) else (1 : Int))) → sg_R v62 → wx z 3 138 41 [(0, .inr (.inr (.ref 45))), (1, .inl (a1)), (2, .inl (a2)), (3, .inl ((v_nLengthOf σ (a2)))), (4, .inr (.inl (v2))), (7, .inl (v4))] [.inl (v62)] σ (fun v σ' => v = none ∧ sg_F [48, 53, 54, 8045, 11045, 21045, 22045, 23045] σ σ' ∧ Q σ') := by
          intro v62 e64 r63
          have w := w v62 e64 r63
          refine wk_b tt_138 5 (pc' := 49) (ls' := [(6, .inl (v62)), (0, .inr (.inr (.ref 45))), (1, .inl (a1)), (2, .inl (a2)), (3, .inl ((v_nLengthOf σ (a2)))), (4, .inr (.inl (v2))), (7, .inl (v4))]) (st' := [.inl (v4), .inl (a2), .inr (.inr (.ref 45)), .inr (.inl (v2))]) (σ' := σ) rfl ?_
          obtain ⟨c65, w⟩ := w
          refine wk_callp tt_138 rfl rfl rfl rfl rfl tt_145 rfl (by decide) (w_nItemOf z σ (a2) (v4) ra2 r12 c65) ?_
          have r66 := vr_nItemOf σ  (a2) (v4) ra2 r12 c65
          obtain ⟨c67, w⟩ := w
          obtain ⟨c68, w⟩ := w
          refine wk_b tt_138 5 (pc' := 15) (ls' := [(7, .inl ((v4 + 1))), (4, .inr (.inl ((v2 + (sg_n ((v_nItemOf σ (a2) (v4)))))))), (6, .inl (v62)), (0, .inr (.inr (.ref 45))), (1, .inl (a1)), (2, .inl (a2)), (3, .inl ((v_nLengthOf σ (a2))))]) (st' := []) (σ' := σ) rfl ?_
          rw [show (sg_n ((v_nItemOf σ (a2) (v4)))) = (v_nItemOf σ (a2) (v4)) from by rw [sg_id r66]]
          obtain ⟨m69, hm69, w⟩ := w
          exact wk_ls [(0, .inr (.inr (.ref 45))), (1, .inl (a1)), (2, .inl (a2)), (3, .inl ((v_nLengthOf σ (a2)))), (4, .inr (.inl ((v2 + (v_nItemOf σ (a2) (v4)))))), (6, .inl (v62)), (7, .inl ((v4 + 1)))] rfl ⟨rfl, rfl, rfl, rfl, rfl, rfl, rfl, trivial⟩ (ih13 m69 hm69 ((v2 + (v_nItemOf σ (a2) (v4)))) (v62) ((v4 + 1))  c67 r63 c68  w)
        have w := wp
        refine wk_if tt_138 (tgt := 36) rfl rfl r11 (fun (h60 : ¬ v3 = 0) => ?_) (fun (h60 : v3 = 0) => ?_)
        ·
          have w := w.1 h60
          refine wk_b tt_138 2 (pc' := 41) (ls' := [(0, .inr (.inr (.ref 45))), (1, .inl (a1)), (2, .inl (a2)), (3, .inl ((v_nLengthOf σ (a2)))), (4, .inr (.inl (v2))), (6, .inl (v3)), (7, .inl (v4))]) (st' := [.inl (1)]) (σ' := σ) rfl ?_
          exact wk_ls [(0, .inr (.inr (.ref 45))), (1, .inl (a1)), (2, .inl (a2)), (3, .inl ((v_nLengthOf σ (a2)))), (4, .inr (.inl (v2))), (7, .inl (v4))] rfl ⟨rfl, rfl, rfl, rfl, rfl, rfl, trivial⟩ (jn61 (1) (by simp only [if_pos h60]) (by decide))
        ·
          have w := w.2 h60
          refine wk_b tt_138 3 (pc' := 30) (ls' := [(0, .inr (.inr (.ref 45))), (1, .inl (a1)), (2, .inl (a2)), (3, .inl ((v_nLengthOf σ (a2)))), (4, .inr (.inl (v2))), (6, .inl (v3)), (7, .inl (v4))]) (st' := [.inl (v4), .inl (a2), .inr (.inr (.ref 45))]) (σ' := σ) rfl ?_
          obtain ⟨c70, w⟩ := w
          refine wk_callp tt_138 rfl rfl rfl rfl rfl tt_145 rfl (by decide) (w_nItemOf z σ (a2) (v4) ra2 r12 c70) ?_
          have r71 := vr_nItemOf σ  (a2) (v4) ra2 r12 c70
          refine wk_if tt_138 (tgt := 40) rfl rfl r71 (fun (h72 : 0 ≤ (v_nItemOf σ (a2) (v4))) => ?_) (fun (h72 : (v_nItemOf σ (a2) (v4)) < 0) => ?_)
          ·
            have w := w.1 h72
            refine wk_b tt_138 1 (pc' := 41) (ls' := [(0, .inr (.inr (.ref 45))), (1, .inl (a1)), (2, .inl (a2)), (3, .inl ((v_nLengthOf σ (a2)))), (4, .inr (.inl (v2))), (6, .inl (v3)), (7, .inl (v4))]) (st' := [.inl (0)]) (σ' := σ) rfl ?_
            exact wk_ls [(0, .inr (.inr (.ref 45))), (1, .inl (a1)), (2, .inl (a2)), (3, .inl ((v_nLengthOf σ (a2)))), (4, .inr (.inl (v2))), (7, .inl (v4))] rfl ⟨rfl, rfl, rfl, rfl, rfl, rfl, trivial⟩ (jn61 (0) (by simp only [if_neg (show ¬ (¬ v3 = 0) by omega), if_pos h72]) (by decide))
          ·
            have w := w.2 h72
            refine wk_b tt_138 2 (pc' := 41) (ls' := [(0, .inr (.inr (.ref 45))), (1, .inl (a1)), (2, .inl (a2)), (3, .inl ((v_nLengthOf σ (a2)))), (4, .inr (.inl (v2))), (6, .inl (v3)), (7, .inl (v4))]) (st' := [.inl (1)]) (σ' := σ) rfl ?_
            exact wk_ls [(0, .inr (.inr (.ref 45))), (1, .inl (a1)), (2, .inl (a2)), (3, .inl ((v_nLengthOf σ (a2)))), (4, .inr (.inl (v2))), (7, .inl (v4))] rfl ⟨rfl, rfl, rfl, rfl, rfl, rfl, trivial⟩ (jn61 (1) (by simp only [if_neg (show ¬ (¬ v3 = 0) by omega), if_neg (show ¬ (0 ≤ (v_nItemOf σ (a2) (v4))) by omega)]) (by decide))
  exact wk_ls [(0, .inr (.inr (.ref 45))), (1, .inl (a1)), (2, .inl (a2)), (3, .inl ((v_nLengthOf σ (a2)))), (4, .inr (.inl (0))), (6, .inl (0)), (7, .inl (0))] rfl ⟨rfl, rfl, rfl, rfl, rfl, rfl, rfl, trivial⟩ (lp15 μ8 (0) (0) (0)  (by decide) (by decide) (by decide)  w16)
-- NestedVectors$NestedRun.flatten
/-! What the methods of the nested run of the class ask for (2). -/
def V_nFlatten (σ : sg_S) (a1 : Int) (Q : sg_S → Prop) : Prop := (∃ (I5 : Nat → Int → Int → Prop) (X7 : Int → Prop), (∃ n, I5 n (0) (0)) ∧ (∀ (n16 : Nat) (v1 : Int) (v2 : Int), sg_R v1 → sg_R v2 → I5 n16 v1 v2 → (((v_nLengthOf σ (a1)) ≤ v2 → X7 (v1)) ∧ (v2 < (v_nLengthOf σ (a1)) → p_nItemOf σ (a1) (v2) ∧ sg_R (v1 + (v_nLengthOf σ ((v_nItemOf σ (a1) (v2))))) ∧ sg_R (v2 + 1) ∧ (∃ m, m < n16 ∧ I5 m ((v1 + (v_nLengthOf σ ((v_nItemOf σ (a1) (v2)))))) ((v2 + 1)))))) ∧ (∀ (v1 : Int), sg_R v1 → X7 v1 → (((v_yBadSize (v1)) = 0 → (∃ (I22 : Nat → Int → sg_S → Prop) (X24 : sg_S → Prop), (∃ n, I22 n (0) σ) ∧ (∀ (n32 : Nat) (v19 : Int) (σ20 : sg_S), sg_R v19 → sg_F [54, 22045] σ σ20 → I22 n32 v19 σ20 → (((v_nLengthOf σ (a1)) ≤ v19 → X24 σ20) ∧ (v19 < (v_nLengthOf σ (a1)) → p_nItemOf σ (a1) (v19) ∧ V_nAddAll σ20 ((v_nItemOf σ (a1) (v19))) (fun σ45 => sg_F [54, 22045] σ20 σ45 → sg_R (v19 + 1) ∧ (∃ m, m < n32 ∧ I22 m ((v19 + 1)) σ45))))) ∧ (∀ (σ20 : sg_S), sg_F [54, 22045] σ σ20 → X24 σ20 → V_nGive σ20  (fun σ35 => sg_F [48, 53, 8045, 11045, 21045, 22045, 23045] σ20 σ35 → Q σ35)))) ∧ (¬ (v_yBadSize (v1)) = 0 → ∀ σ52, σ52 = (sg_w σ 45 10 (5)) → Q σ52))))
set_option maxHeartbeats 4000000 in
set_option maxRecDepth 8000 in
theorem w_nFlatten (z : Value) (σ : sg_S) (a1 : Int) (Q : sg_S → Prop) (ra1 : sg_R a1) (w : V_nFlatten σ a1 Q) : wx z 3 141 0 [(0, .inr (.inr (.ref 45))), (1, .inl (a1))] [] σ (fun v σ' => v = none ∧ sg_F [48, 53, 54, 8045, 11045, 21045, 22045, 23045] σ σ' ∧ Q σ') := by
  unfold V_nFlatten at w
  refine wk_b tt_141 4 (pc' := 4) (ls' := [(3, .inl (0)), (2, .inl (0)), (0, .inr (.inr (.ref 45))), (1, .inl (a1))]) (st' := []) (σ' := σ) rfl ?_
  obtain ⟨I5, X7, ⟨μ6, w13⟩, w14, w15⟩ := w
  have ex17 : ∀ (v1 : Int), sg_R v1 → X7 v1 → wx z 3 141 32 [(0, .inr (.inr (.ref 45))), (1, .inl (a1)), (2, .inl (v1))] [] σ (fun v σ' => v = none ∧ sg_F [48, 53, 54, 8045, 11045, 21045, 22045, 23045] σ σ' ∧ Q σ') := by
    intro v1 r8 w
    have w := w15 v1 r8 w
    refine wk_b tt_141 1 (pc' := 33) (ls' := [(0, .inr (.inr (.ref 45))), (1, .inl (a1)), (2, .inl (v1))]) (st' := [.inl (v1)]) (σ' := σ) rfl ?_
    refine wk_callp tt_141 rfl rfl rfl rfl rfl tt_7 rfl (by decide) (w_yBadSize z σ (v1) r8 ) ?_
    refine wk_if tt_141 (tgt := 45) rfl rfl (sg_Rz (vz_yBadSize ..)) (fun (h18 : (v_yBadSize (v1)) = 0) => ?_) (fun (h18 : ¬ (v_yBadSize (v1)) = 0) => ?_)
    ·
      have w := w.1 h18
      refine wk_b tt_141 2 (pc' := 47) (ls' := [(3, .inl (0)), (0, .inr (.inr (.ref 45))), (1, .inl (a1)), (2, .inl (v1))]) (st' := []) (σ' := σ) rfl ?_
      obtain ⟨I22, X24, ⟨μ23, w29⟩, w30, w31⟩ := w
      have ex33 : ∀ (σ20 : sg_S), sg_F [54, 22045] σ σ20 → X24 σ20 → wx z 3 141 72 [(0, .inr (.inr (.ref 45)))] [] σ20 (fun v σ' => v = none ∧ sg_F [48, 53, 54, 8045, 11045, 21045, 22045, 23045] σ σ' ∧ Q σ') := by
        intro σ20 hF21 w
        have w := w31 σ20 hF21 w
        refine wk_b tt_141 1 (pc' := 73) (ls' := [(0, .inr (.inr (.ref 45)))]) (st' := [.inr (.inr (.ref 45))]) (σ' := σ20) rfl ?_
        refine wk_call tt_141 rfl rfl rfl rfl rfl tt_144 rfl (by decide) (w_nGive z σ20  _  w) (fun u39 σ35 hq37 => ?_)
        obtain ⟨rfl, hF36, w⟩ := hq37
        have w := w hF36
        exact wk_rV tt_141 rfl rfl ⟨rfl, (sg_F_t (sg_F_t (sg_F_r [48, 53, 54, 8045, 11045, 21045, 22045, 23045] σ) (sg_F_m (L := [48, 53, 54, 8045, 11045, 21045, 22045, 23045]) hF21 rfl)) (sg_F_m (L := [48, 53, 54, 8045, 11045, 21045, 22045, 23045]) hF36 rfl)), w⟩
      have lp28 : ∀ (n32 : Nat) (v19 : Int) (σ20 : sg_S), sg_R v19 → sg_F [54, 22045] σ σ20 → I22 n32 v19 σ20 → wx z 3 141 47 [(0, .inr (.inr (.ref 45))), (1, .inl (a1)), (3, .inl (v19))] [] σ20 (fun v σ' => v = none ∧ sg_F [48, 53, 54, 8045, 11045, 21045, 22045, 23045] σ σ' ∧ Q σ') := by
        intro n32
        induction n32 using Nat.strongRecOn with
        | _ n32 ih26 =>
          intro v19 σ20 r25 hF21 w
          have w := w30 n32 v19 σ20 r25 hF21 w
          refine wk_b tt_141 3 (pc' := 50) (ls' := [(0, .inr (.inr (.ref 45))), (1, .inl (a1)), (3, .inl (v19))]) (st' := [.inl (a1), .inr (.inr (.ref 45)), .inl (v19)]) (σ' := σ20) rfl ?_
          refine wk_callp tt_141 rfl rfl rfl rfl rfl tt_149 rfl (by decide) (w_nLengthOf z σ20 (a1) ra1 ) ?_
          rw [vF_nLengthOf hF21 rfl]
          have r40 := vr_nLengthOf σ  (a1) ra1 
          refine wk_if2 tt_141 (tgt := 72) rfl rfl r25 r40 (fun (h41 : (v_nLengthOf σ (a1)) ≤ v19) => ?_) (fun (h41 : v19 < (v_nLengthOf σ (a1))) => ?_)
          ·
            have w := w.1 h41
            exact wk_ls [(0, .inr (.inr (.ref 45)))] rfl ⟨rfl, trivial⟩ (ex33  σ20  (sg_F_t (sg_F_r [54, 22045] σ) (sg_F_m (L := [54, 22045]) hF21 rfl)) w)
          ·
            have w := w.2 h41
            refine wk_b tt_141 4 (pc' := 60) (ls' := [(0, .inr (.inr (.ref 45))), (1, .inl (a1)), (3, .inl (v19))]) (st' := [.inl (v19), .inl (a1), .inr (.inr (.ref 45)), .inr (.inr (.ref 45))]) (σ' := σ20) rfl ?_
            obtain ⟨c42, w⟩ := w
            have c42 : p_nItemOf σ20 (a1) (v19) := by
              rw [pF_nItemOf hF21 rfl]; exact c42
            refine wk_callp tt_141 rfl rfl rfl rfl rfl tt_145 rfl (by decide) (w_nItemOf z σ20 (a1) (v19) ra1 r25 c42) ?_
            rw [vF_nItemOf hF21 rfl]
            have r43 := vr_nItemOf σ  (a1) (v19) ra1 r25 (by have q := c42; rw [pF_nItemOf hF21 rfl] at q; exact q)
            refine wk_call tt_141 rfl rfl rfl rfl rfl tt_130 rfl (by decide) (w_nAddAll z σ20 ((v_nItemOf σ (a1) (v19))) _ r43 w) (fun u49 σ45 hq47 => ?_)
            obtain ⟨rfl, hF46, w⟩ := hq47
            have w := w hF46
            obtain ⟨c50, w⟩ := w
            refine wk_b tt_141 2 (pc' := 47) (ls' := [(3, .inl ((v19 + 1))), (0, .inr (.inr (.ref 45))), (1, .inl (a1))]) (st' := []) (σ' := σ45) rfl ?_
            obtain ⟨m51, hm51, w⟩ := w
            exact wk_ls [(0, .inr (.inr (.ref 45))), (1, .inl (a1)), (3, .inl ((v19 + 1)))] rfl ⟨rfl, rfl, rfl, trivial⟩ (ih26 m51 hm51 ((v19 + 1)) σ45 c50 (sg_F_t (sg_F_t (sg_F_r [54, 22045] σ) (sg_F_m (L := [54, 22045]) hF21 rfl)) (sg_F_m (L := [54, 22045]) hF46 rfl)) w)
      exact wk_ls [(0, .inr (.inr (.ref 45))), (1, .inl (a1)), (3, .inl (0))] rfl ⟨rfl, rfl, rfl, trivial⟩ (lp28 μ23 (0) σ (by decide) (sg_F_r _ _) w29)
    ·
      have w := w.2 h18
      refine wk_b tt_141 3 (pc' := 44) (ls' := [(0, .inr (.inr (.ref 45))), (1, .inl (a1)), (2, .inl (v1))]) (st' := []) (σ' := (sg_w σ 45 10 (5))) rfl ?_
      generalize hs53 : (sg_w σ 45 10 (5)) = σ52
      have w := w σ52 hs53.symm
      have hF54 : sg_F [11045] σ σ52 := by rw [← hs53]; exact sg_F_w (sg_F_r _ _) rfl _
      exact wk_rV tt_141 rfl rfl ⟨rfl, (sg_F_t (sg_F_r [48, 53, 54, 8045, 11045, 21045, 22045, 23045] σ) (sg_F_m (L := [48, 53, 54, 8045, 11045, 21045, 22045, 23045]) hF54 rfl)), w⟩
  have lp12 : ∀ (n16 : Nat) (v1 : Int) (v2 : Int), sg_R v1 → sg_R v2 → I5 n16 v1 v2 → wx z 3 141 4 [(0, .inr (.inr (.ref 45))), (1, .inl (a1)), (2, .inl (v1)), (3, .inl (v2))] [] σ (fun v σ' => v = none ∧ sg_F [48, 53, 54, 8045, 11045, 21045, 22045, 23045] σ σ' ∧ Q σ') := by
    intro n16
    induction n16 using Nat.strongRecOn with
    | _ n16 ih10 =>
      intro v1 v2 r8 r9 w
      have w := w14 n16 v1 v2 r8 r9 w
      refine wk_b tt_141 3 (pc' := 7) (ls' := [(0, .inr (.inr (.ref 45))), (1, .inl (a1)), (2, .inl (v1)), (3, .inl (v2))]) (st' := [.inl (a1), .inr (.inr (.ref 45)), .inl (v2)]) (σ' := σ) rfl ?_
      refine wk_callp tt_141 rfl rfl rfl rfl rfl tt_149 rfl (by decide) (w_nLengthOf z σ (a1) ra1 ) ?_
      have r55 := vr_nLengthOf σ  (a1) ra1 
      refine wk_if2 tt_141 (tgt := 32) rfl rfl r9 r55 (fun (h56 : (v_nLengthOf σ (a1)) ≤ v2) => ?_) (fun (h56 : v2 < (v_nLengthOf σ (a1))) => ?_)
      ·
        have w := w.1 h56
        exact wk_ls [(0, .inr (.inr (.ref 45))), (1, .inl (a1)), (2, .inl (v1))] rfl ⟨rfl, rfl, rfl, trivial⟩ (ex17 (v1)  r8  w)
      ·
        have w := w.2 h56
        refine wk_b tt_141 5 (pc' := 18) (ls' := [(0, .inr (.inr (.ref 45))), (1, .inl (a1)), (2, .inl (v1)), (3, .inl (v2))]) (st' := [.inl (v2), .inl (a1), .inr (.inr (.ref 45)), .inr (.inr (.ref 45)), .inl (v1)]) (σ' := σ) rfl ?_
        obtain ⟨c57, w⟩ := w
        refine wk_callp tt_141 rfl rfl rfl rfl rfl tt_145 rfl (by decide) (w_nItemOf z σ (a1) (v2) ra1 r9 c57) ?_
        have r58 := vr_nItemOf σ  (a1) (v2) ra1 r9 c57
        refine wk_callp tt_141 rfl rfl rfl rfl rfl tt_149 rfl (by decide) (w_nLengthOf z σ ((v_nItemOf σ (a1) (v2))) r58 ) ?_
        have r59 := vr_nLengthOf σ  ((v_nItemOf σ (a1) (v2))) r58 
        obtain ⟨c60, w⟩ := w
        obtain ⟨c61, w⟩ := w
        refine wk_b tt_141 4 (pc' := 4) (ls' := [(3, .inl ((v2 + 1))), (2, .inl ((v1 + (v_nLengthOf σ ((v_nItemOf σ (a1) (v2))))))), (0, .inr (.inr (.ref 45))), (1, .inl (a1))]) (st' := []) (σ' := σ) rfl ?_
        obtain ⟨m62, hm62, w⟩ := w
        exact wk_ls [(0, .inr (.inr (.ref 45))), (1, .inl (a1)), (2, .inl ((v1 + (v_nLengthOf σ ((v_nItemOf σ (a1) (v2))))))), (3, .inl ((v2 + 1)))] rfl ⟨rfl, rfl, rfl, rfl, trivial⟩ (ih10 m62 hm62 ((v1 + (v_nLengthOf σ ((v_nItemOf σ (a1) (v2)))))) ((v2 + 1))  c60 c61  w)
  exact wk_ls [(0, .inr (.inr (.ref 45))), (1, .inl (a1)), (2, .inl (0)), (3, .inl (0))] rfl ⟨rfl, rfl, rfl, rfl, trivial⟩ (lp12 μ6 (0) (0)  (by decide) (by decide)  w13)
-- NestedVectors$Machine.pop
def V_mnPop (σ : sg_S) (Q : Int → sg_S → Prop) : Prop := sg_R ((sg_g σ 45 7) - 1) ∧ ∀ σ2, σ2 = (sg_w σ 45 7 (((sg_g σ 45 7) - 1))) → Q ((sx_at σ 48 3200 (((sg_g σ 45 7) - 1)))) σ2
set_option maxHeartbeats 4000000 in
set_option maxRecDepth 8000 in
theorem w_mnPop (z : Value) (σ : sg_S) (Q : Int → sg_S → Prop)  (w : V_mnPop σ  Q) : wx z 1 124 0 [(0, .inr (.inr (.ref 45)))] [] σ (fun v σ' => ∃ q, v = some (.inl q) ∧ sg_R q ∧ sg_F [8045] σ σ' ∧ Q q σ') := by
  unfold V_mnPop at w
  obtain ⟨c1, w⟩ := w
  refine wk_b tt_124 6 (pc' := 10) (ls' := [(0, .inr (.inr (.ref 45)))]) (st' := []) (σ' := (sg_w σ 45 7 (((sg_g σ 45 7) - 1)))) rfl ?_
  generalize hs3 : (sg_w σ 45 7 (((sg_g σ 45 7) - 1))) = σ2
  have w := w σ2 hs3.symm
  have hF4 : sg_F [8045] σ σ2 := by rw [← hs3]; exact sg_F_w (sg_F_r _ _) rfl _
  refine wk_b tt_124 4 (pc' := 18) (ls' := [(0, .inr (.inr (.ref 45)))]) (st' := [.inl ((sg_g σ2 45 7)), .inr (.inr (.ref 48))]) (σ' := σ2) rfl ?_
  rw [show (sg_g σ2 45 7) = ((sg_g σ 45 7) - 1) from by rw [(show sg_g σ2 45 7 = ((sg_g σ 45 7) - 1) from by rw [← hs3]; exact sg_gw_e _ _ _ _ c1)]]
  refine wk_callp tt_124 rfl rfl rfl rfl rfl tt_5 rfl (by decide) (at_i0 z σ2 48 3200 (((sg_g σ 45 7) - 1)) rfl (by decide) c1) ?_
  show wx z 1 124 21 [(0, .inr (.inr (.ref 45)))] [.inl ((sx_at σ2 48 3200 (((sg_g σ 45 7) - 1))))] σ2 (fun v σ' => ∃ q, v = some (.inl q) ∧ sg_R q ∧ sg_F [8045] σ σ' ∧ Q q σ')
  rw [sx_F (a := 48) (n := 3200) (i := (((sg_g σ 45 7) - 1))) hF4 rfl]
  exact wk_rI tt_124 rfl rfl ⟨_, rfl, (sx_R ..), (sg_F_t (sg_F_r [8045] σ) (sg_F_m (L := [8045]) hF4 rfl)), w⟩
-- NestedVectors$NestedRun.fork
def V_nFork (σ : sg_S) (a1 : Int) (Q : sg_S → Prop) : Prop := V_mnPop σ  (fun q1 σ2 => sg_R q1 → sg_F [8045] σ σ2 → ((¬ q1 = 0 → Q σ2) ∧ (q1 = 0 → ∀ σ8, σ8 = (sg_w σ2 45 8 ((sx_at σ 32 200 (a1)))) → Q σ8)))
set_option maxHeartbeats 4000000 in
set_option maxRecDepth 8000 in
theorem w_nFork (z : Value) (σ : sg_S) (a1 : Int) (Q : sg_S → Prop) (ra1 : sg_R a1) (w : V_nFork σ a1 Q) : wx z 2 142 0 [(0, .inr (.inr (.ref 45))), (1, .inl (a1))] [] σ (fun v σ' => v = none ∧ sg_F [8045, 9045] σ σ' ∧ Q σ') := by
  unfold V_nFork at w
  refine wk_b tt_142 1 (pc' := 1) (ls' := [(0, .inr (.inr (.ref 45))), (1, .inl (a1))]) (st' := [.inr (.inr (.ref 45))]) (σ' := σ) rfl ?_
  refine wk_call tt_142 rfl rfl rfl rfl rfl tt_124 rfl (by decide) (w_mnPop z σ  _  w) (fun u6 σ2 hq4 => ?_)
  obtain ⟨q1, rfl, r5, hF3, w⟩ := hq4
  have w := w r5 hF3
  refine wk_if tt_142 (tgt := 22) rfl rfl r5 (fun (h7 : ¬ q1 = 0) => ?_) (fun (h7 : q1 = 0) => ?_)
  ·
    have w := w.1 h7
    exact wk_rV tt_142 rfl rfl ⟨rfl, (sg_F_t (sg_F_r [8045, 9045] σ) (sg_F_m (L := [8045, 9045]) hF3 rfl)), w⟩
  ·
    have w := w.2 h7
    refine wk_b tt_142 5 (pc' := 16) (ls' := [(0, .inr (.inr (.ref 45))), (1, .inl (a1))]) (st' := [.inl (a1), .inr (.inr (.ref 32)), .inr (.inr (.ref 45))]) (σ' := σ2) rfl ?_
    refine wk_callp tt_142 rfl rfl rfl rfl rfl tt_5 rfl (by decide) (at_i0 z σ2 32 200 (a1) rfl (by decide) ra1) ?_
    show wx z 2 142 19 [(0, .inr (.inr (.ref 45))), (1, .inl (a1))] [.inl ((sx_at σ2 32 200 (a1))), .inr (.inr (.ref 45))] σ2 (fun v σ' => v = none ∧ sg_F [8045, 9045] σ σ' ∧ Q σ')
    rw [sx_F (a := 32) (n := 200) (i := (a1)) hF3 rfl]
    refine wk_b tt_142 1 (pc' := 22) (ls' := [(0, .inr (.inr (.ref 45))), (1, .inl (a1))]) (st' := []) (σ' := (sg_w σ2 45 8 ((sx_at σ 32 200 (a1))))) rfl ?_
    generalize hs9 : (sg_w σ2 45 8 ((sx_at σ 32 200 (a1)))) = σ8
    have w := w σ8 hs9.symm
    have hF10 : sg_F [9045] σ2 σ8 := by rw [← hs9]; exact sg_F_w (sg_F_r _ _) rfl _
    exact wk_rV tt_142 rfl rfl ⟨rfl, (sg_F_t (sg_F_t (sg_F_r [8045, 9045] σ) (sg_F_m (L := [8045, 9045]) hF3 rfl)) (sg_F_m (L := [8045, 9045]) hF10 rfl)), w⟩
-- NestedVectors$NestedRun.measure
def V_nMeasure (σ : sg_S) (a1 : Int) (Q : sg_S → Prop) : Prop := V_mnPush σ ((v_nLengthOf σ (a1))) (fun σ3 => sg_F [48, 8045] σ σ3 → Q σ3)
set_option maxHeartbeats 4000000 in
set_option maxRecDepth 8000 in
theorem w_nMeasure (z : Value) (σ : sg_S) (a1 : Int) (Q : sg_S → Prop) (ra1 : sg_R a1) (w : V_nMeasure σ a1 Q) : wx z 2 150 0 [(0, .inr (.inr (.ref 45))), (1, .inl (a1))] [] σ (fun v σ' => v = none ∧ sg_F [48, 8045] σ σ' ∧ Q σ') := by
  unfold V_nMeasure at w
  refine wk_b tt_150 3 (pc' := 3) (ls' := [(0, .inr (.inr (.ref 45))), (1, .inl (a1))]) (st' := [.inl (a1), .inr (.inr (.ref 45)), .inr (.inr (.ref 45))]) (σ' := σ) rfl ?_
  refine wk_callp tt_150 rfl rfl rfl rfl rfl tt_149 rfl (by decide) (w_nLengthOf z σ (a1) ra1 ) ?_
  have r1 := vr_nLengthOf σ  (a1) ra1 
  refine wk_call tt_150 rfl rfl rfl rfl rfl tt_125 rfl (by decide) (w_mnPush z σ ((v_nLengthOf σ (a1))) _ r1 w) (fun u7 σ3 hq5 => ?_)
  obtain ⟨rfl, hF4, w⟩ := hq5
  have w := w hF4
  exact wk_rV tt_150 rfl rfl ⟨rfl, (sg_F_t (sg_F_r [48, 8045] σ) (sg_F_m (L := [48, 8045]) hF4 rfl)), w⟩
-- NestedVectors$NestedRun.visit
def V_nVisit (σ : sg_S) (a1 : Int) (Q : sg_S → Prop) : Prop := (((sx_at σ 57 200 (a1)) < (sx_at σ 58 200 (a1)) → (∃ (I5 : Nat → Int → sg_S → Prop) (X7 : sg_S → Prop), (∃ n, I5 n (0) σ) ∧ (∀ (n15 : Nat) (v2 : Int) (σ3 : sg_S), sg_R v2 → sg_F [46] σ σ3 → I5 n15 v2 σ3 → (((sx_at σ 13 200 (a1)) ≤ v2 → X7 σ3) ∧ (v2 < (sx_at σ 13 200 (a1)) → ((4 ≤ v2 → X7 σ3) ∧ (v2 < 4 → sg_R ((sx_at σ 56 200 (a1)) - (sx_at σ 13 200 (a1))) ∧ sg_R (((sx_at σ 56 200 (a1)) - (sx_at σ 13 200 (a1))) + v2) ∧ sg_R ((sx_at σ 16 200 (a1)) + v2) ∧ p_nItemOf σ ((sx_at σ 48 3200 ((((sx_at σ 56 200 (a1)) - (sx_at σ 13 200 (a1))) + v2)))) ((sx_at σ 57 200 (a1))) ∧ ∀ σ30, σ30 = (sx_put σ3 46 272 (((sx_at σ 16 200 (a1)) + v2)) ((v_nItemOf σ ((sx_at σ 48 3200 ((((sx_at σ 56 200 (a1)) - (sx_at σ 13 200 (a1))) + v2)))) ((sx_at σ 57 200 (a1)))))) → sg_R (v2 + 1) ∧ (∃ m, m < n15 ∧ I5 m ((v2 + 1)) σ30)))))) ∧ (∀ (σ3 : sg_S), sg_F [46] σ σ3 → X7 σ3 → ∀ σ17, σ17 = (sg_w σ3 45 23 (0)) → ∀ σ20, σ20 = (sg_w σ17 45 8 ((sx_at σ 32 200 (a1)))) → Q σ20))) ∧ ((sx_at σ 58 200 (a1)) ≤ (sx_at σ 57 200 (a1)) → sg_R ((sx_at σ 59 200 (a1)) + (sx_at σ 60 200 (a1))) ∧ ∀ σ36, σ36 = (sg_w σ 45 23 (((sx_at σ 59 200 (a1)) + (sx_at σ 60 200 (a1))))) → ∀ σ39, σ39 = (sg_w σ36 45 8 ((sx_at σ 33 200 (a1)))) → Q σ39))
set_option maxHeartbeats 4000000 in
set_option maxRecDepth 8000 in
theorem w_nVisit (z : Value) (σ : sg_S) (a1 : Int) (Q : sg_S → Prop) (ra1 : sg_R a1) (w : V_nVisit σ a1 Q) : wx z 2 165 0 [(0, .inr (.inr (.ref 45))), (1, .inl (a1))] [] σ (fun v σ' => v = none ∧ sg_F [46, 9045, 24045] σ σ' ∧ Q σ') := by
  unfold V_nVisit at w
  refine wk_b tt_165 3 (pc' := 5) (ls' := [(0, .inr (.inr (.ref 45))), (1, .inl (a1))]) (st' := [.inl (a1), .inr (.inr (.ref 57))]) (σ' := σ) rfl ?_
  refine wk_callp tt_165 rfl rfl rfl rfl rfl tt_5 rfl (by decide) (at_i0 z σ 57 200 (a1) rfl (by decide) ra1) ?_
  show wx z 2 165 8 [(0, .inr (.inr (.ref 45))), (1, .inl (a1))] [.inl ((sx_at σ 57 200 (a1)))] σ (fun v σ' => v = none ∧ sg_F [46, 9045, 24045] σ σ' ∧ Q σ')
  refine wk_b tt_165 5 (pc' := 15) (ls' := [(2, .inl ((sx_at σ 57 200 (a1)))), (0, .inr (.inr (.ref 45))), (1, .inl (a1))]) (st' := [.inl (a1), .inr (.inr (.ref 58)), .inl ((sx_at σ 57 200 (a1)))]) (σ' := σ) rfl ?_
  refine wk_callp tt_165 rfl rfl rfl rfl rfl tt_5 rfl (by decide) (at_i0 z σ 58 200 (a1) rfl (by decide) ra1) ?_
  show wx z 2 165 18 [(2, .inl ((sx_at σ 57 200 (a1)))), (0, .inr (.inr (.ref 45))), (1, .inl (a1))] [.inl ((sx_at σ 58 200 (a1))), .inl ((sx_at σ 57 200 (a1)))] σ (fun v σ' => v = none ∧ sg_F [46, 9045, 24045] σ σ' ∧ Q σ')
  refine wk_if2 tt_165 (tgt := 58) rfl rfl (sx_R ..) (sx_R ..) (fun (h1 : (sx_at σ 57 200 (a1)) < (sx_at σ 58 200 (a1))) => ?_) (fun (h1 : (sx_at σ 58 200 (a1)) ≤ (sx_at σ 57 200 (a1))) => ?_)
  ·
    have w := w.1 h1
    refine wk_b tt_165 4 (pc' := 66) (ls' := [(2, .inl ((sx_at σ 57 200 (a1)))), (0, .inr (.inr (.ref 45))), (1, .inl (a1))]) (st' := [.inl (a1), .inr (.inr (.ref 13))]) (σ' := σ) rfl ?_
    refine wk_callp tt_165 rfl rfl rfl rfl rfl tt_5 rfl (by decide) (at_i0 z σ 13 200 (a1) rfl (by decide) ra1) ?_
    show wx z 2 165 69 [(2, .inl ((sx_at σ 57 200 (a1)))), (0, .inr (.inr (.ref 45))), (1, .inl (a1))] [.inl ((sx_at σ 13 200 (a1)))] σ (fun v σ' => v = none ∧ sg_F [46, 9045, 24045] σ σ' ∧ Q σ')
    refine wk_b tt_165 3 (pc' := 73) (ls' := [(4, .inl (0)), (3, .inl ((sx_at σ 13 200 (a1)))), (2, .inl ((sx_at σ 57 200 (a1)))), (0, .inr (.inr (.ref 45))), (1, .inl (a1))]) (st' := []) (σ' := σ) rfl ?_
    obtain ⟨I5, X7, ⟨μ6, w12⟩, w13, w14⟩ := w
    have ex16 : ∀ (σ3 : sg_S), sg_F [46] σ σ3 → X7 σ3 → wx z 2 165 141 [(0, .inr (.inr (.ref 45))), (1, .inl (a1))] [] σ3 (fun v σ' => v = none ∧ sg_F [46, 9045, 24045] σ σ' ∧ Q σ') := by
      intro σ3 hF4 w
      have w := w14 σ3 hF4 w
      refine wk_b tt_165 3 (pc' := 146) (ls' := [(0, .inr (.inr (.ref 45))), (1, .inl (a1))]) (st' := []) (σ' := (sg_w σ3 45 23 (0))) rfl ?_
      generalize hs18 : (sg_w σ3 45 23 (0)) = σ17
      have w := w σ17 hs18.symm
      have hF19 : sg_F [24045] σ3 σ17 := by rw [← hs18]; exact sg_F_w (sg_F_r _ _) rfl _
      refine wk_b tt_165 5 (pc' := 155) (ls' := [(0, .inr (.inr (.ref 45))), (1, .inl (a1))]) (st' := [.inl (a1), .inr (.inr (.ref 32)), .inr (.inr (.ref 45))]) (σ' := σ17) rfl ?_
      refine wk_callp tt_165 rfl rfl rfl rfl rfl tt_5 rfl (by decide) (at_i0 z σ17 32 200 (a1) rfl (by decide) ra1) ?_
      show wx z 2 165 158 [(0, .inr (.inr (.ref 45))), (1, .inl (a1))] [.inl ((sx_at σ17 32 200 (a1))), .inr (.inr (.ref 45))] σ17 (fun v σ' => v = none ∧ sg_F [46, 9045, 24045] σ σ' ∧ Q σ')
      rw [sx_F (a := 32) (n := 200) (i := (a1)) hF19 rfl, sx_F (a := 32) (n := 200) (i := (a1)) hF4 rfl]
      refine wk_b tt_165 1 (pc' := 161) (ls' := [(0, .inr (.inr (.ref 45))), (1, .inl (a1))]) (st' := []) (σ' := (sg_w σ17 45 8 ((sx_at σ 32 200 (a1))))) rfl ?_
      generalize hs21 : (sg_w σ17 45 8 ((sx_at σ 32 200 (a1)))) = σ20
      have w := w σ20 hs21.symm
      have hF22 : sg_F [9045] σ17 σ20 := by rw [← hs21]; exact sg_F_w (sg_F_r _ _) rfl _
      exact wk_rV tt_165 rfl rfl ⟨rfl, (sg_F_t (sg_F_t (sg_F_t (sg_F_r [46, 9045, 24045] σ) (sg_F_m (L := [46, 9045, 24045]) hF4 rfl)) (sg_F_m (L := [46, 9045, 24045]) hF19 rfl)) (sg_F_m (L := [46, 9045, 24045]) hF22 rfl)), w⟩
    have lp11 : ∀ (n15 : Nat) (v2 : Int) (σ3 : sg_S), sg_R v2 → sg_F [46] σ σ3 → I5 n15 v2 σ3 → wx z 2 165 73 [(0, .inr (.inr (.ref 45))), (1, .inl (a1)), (2, .inl ((sx_at σ 57 200 (a1)))), (3, .inl ((sx_at σ 13 200 (a1)))), (4, .inl (v2))] [] σ3 (fun v σ' => v = none ∧ sg_F [46, 9045, 24045] σ σ' ∧ Q σ') := by
      intro n15
      induction n15 using Nat.strongRecOn with
      | _ n15 ih9 =>
        intro v2 σ3 r8 hF4 w
        have w := w13 n15 v2 σ3 r8 hF4 w
        refine wk_b tt_165 2 (pc' := 76) (ls' := [(0, .inr (.inr (.ref 45))), (1, .inl (a1)), (2, .inl ((sx_at σ 57 200 (a1)))), (3, .inl ((sx_at σ 13 200 (a1)))), (4, .inl (v2))]) (st' := [.inl ((sx_at σ 13 200 (a1))), .inl (v2)]) (σ' := σ3) rfl ?_
        refine wk_if2 tt_165 (tgt := 141) rfl rfl r8 (sx_R ..) (fun (h23 : (sx_at σ 13 200 (a1)) ≤ v2) => ?_) (fun (h23 : v2 < (sx_at σ 13 200 (a1))) => ?_)
        ·
          have w := w.1 h23
          exact wk_ls [(0, .inr (.inr (.ref 45))), (1, .inl (a1))] rfl ⟨rfl, rfl, trivial⟩ (ex16  σ3  (sg_F_t (sg_F_r [46] σ) (sg_F_m (L := [46]) hF4 rfl)) w)
        ·
          have w := w.2 h23
          refine wk_b tt_165 2 (pc' := 82) (ls' := [(0, .inr (.inr (.ref 45))), (1, .inl (a1)), (2, .inl ((sx_at σ 57 200 (a1)))), (3, .inl ((sx_at σ 13 200 (a1)))), (4, .inl (v2))]) (st' := [.inl (4), .inl (v2)]) (σ' := σ3) rfl ?_
          refine wk_if2 tt_165 (tgt := 141) rfl rfl r8 (by decide) (fun (h24 : 4 ≤ v2) => ?_) (fun (h24 : v2 < 4) => ?_)
          ·
            have w := w.1 h24
            exact wk_ls [(0, .inr (.inr (.ref 45))), (1, .inl (a1))] rfl ⟨rfl, rfl, trivial⟩ (ex16  σ3  (sg_F_t (sg_F_r [46] σ) (sg_F_m (L := [46]) hF4 rfl)) w)
          ·
            have w := w.2 h24
            refine wk_b tt_165 5 (pc' := 94) (ls' := [(0, .inr (.inr (.ref 45))), (1, .inl (a1)), (2, .inl ((sx_at σ 57 200 (a1)))), (3, .inl ((sx_at σ 13 200 (a1)))), (4, .inl (v2))]) (st' := [.inl (a1), .inr (.inr (.ref 56)), .inr (.inr (.ref 48))]) (σ' := σ3) rfl ?_
            refine wk_callp tt_165 rfl rfl rfl rfl rfl tt_5 rfl (by decide) (at_i0 z σ3 56 200 (a1) rfl (by decide) ra1) ?_
            show wx z 2 165 97 [(0, .inr (.inr (.ref 45))), (1, .inl (a1)), (2, .inl ((sx_at σ 57 200 (a1)))), (3, .inl ((sx_at σ 13 200 (a1)))), (4, .inl (v2))] [.inl ((sx_at σ3 56 200 (a1))), .inr (.inr (.ref 48))] σ3 (fun v σ' => v = none ∧ sg_F [46, 9045, 24045] σ σ' ∧ Q σ')
            rw [sx_F (a := 56) (n := 200) (i := (a1)) hF4 rfl]
            obtain ⟨c25, w⟩ := w
            obtain ⟨c26, w⟩ := w
            refine wk_b tt_165 4 (pc' := 102) (ls' := [(0, .inr (.inr (.ref 45))), (1, .inl (a1)), (2, .inl ((sx_at σ 57 200 (a1)))), (3, .inl ((sx_at σ 13 200 (a1)))), (4, .inl (v2))]) (st' := [.inl ((((sx_at σ 56 200 (a1)) - (sx_at σ 13 200 (a1))) + v2)), .inr (.inr (.ref 48))]) (σ' := σ3) rfl ?_
            refine wk_callp tt_165 rfl rfl rfl rfl rfl tt_5 rfl (by decide) (at_i0 z σ3 48 3200 ((((sx_at σ 56 200 (a1)) - (sx_at σ 13 200 (a1))) + v2)) rfl (by decide) c26) ?_
            show wx z 2 165 105 [(0, .inr (.inr (.ref 45))), (1, .inl (a1)), (2, .inl ((sx_at σ 57 200 (a1)))), (3, .inl ((sx_at σ 13 200 (a1)))), (4, .inl (v2))] [.inl ((sx_at σ3 48 3200 ((((sx_at σ 56 200 (a1)) - (sx_at σ 13 200 (a1))) + v2))))] σ3 (fun v σ' => v = none ∧ sg_F [46, 9045, 24045] σ σ' ∧ Q σ')
            rw [sx_F (a := 48) (n := 3200) (i := ((((sx_at σ 56 200 (a1)) - (sx_at σ 13 200 (a1))) + v2))) hF4 rfl]
            refine wk_b tt_165 7 (pc' := 119) (ls' := [(5, .inl ((sx_at σ 48 3200 ((((sx_at σ 56 200 (a1)) - (sx_at σ 13 200 (a1))) + v2))))), (0, .inr (.inr (.ref 45))), (1, .inl (a1)), (2, .inl ((sx_at σ 57 200 (a1)))), (3, .inl ((sx_at σ 13 200 (a1)))), (4, .inl (v2))]) (st' := [.inl (a1), .inr (.inr (.ref 16)), .inr (.inr (.ref 46))]) (σ' := σ3) rfl ?_
            refine wk_callp tt_165 rfl rfl rfl rfl rfl tt_5 rfl (by decide) (at_i0 z σ3 16 200 (a1) rfl (by decide) ra1) ?_
            show wx z 2 165 122 [(5, .inl ((sx_at σ 48 3200 ((((sx_at σ 56 200 (a1)) - (sx_at σ 13 200 (a1))) + v2))))), (0, .inr (.inr (.ref 45))), (1, .inl (a1)), (2, .inl ((sx_at σ 57 200 (a1)))), (3, .inl ((sx_at σ 13 200 (a1)))), (4, .inl (v2))] [.inl ((sx_at σ3 16 200 (a1))), .inr (.inr (.ref 46))] σ3 (fun v σ' => v = none ∧ sg_F [46, 9045, 24045] σ σ' ∧ Q σ')
            rw [sx_F (a := 16) (n := 200) (i := (a1)) hF4 rfl]
            obtain ⟨c27, w⟩ := w
            refine wk_b tt_165 5 (pc' := 129) (ls' := [(5, .inl ((sx_at σ 48 3200 ((((sx_at σ 56 200 (a1)) - (sx_at σ 13 200 (a1))) + v2))))), (0, .inr (.inr (.ref 45))), (1, .inl (a1)), (2, .inl ((sx_at σ 57 200 (a1)))), (3, .inl ((sx_at σ 13 200 (a1)))), (4, .inl (v2))]) (st' := [.inl ((sx_at σ 57 200 (a1))), .inl ((sx_at σ 48 3200 ((((sx_at σ 56 200 (a1)) - (sx_at σ 13 200 (a1))) + v2)))), .inr (.inr (.ref 45)), .inl (((sx_at σ 16 200 (a1)) + v2)), .inr (.inr (.ref 46))]) (σ' := σ3) rfl ?_
            obtain ⟨c28, w⟩ := w
            have c28 : p_nItemOf σ3 ((sx_at σ 48 3200 ((((sx_at σ 56 200 (a1)) - (sx_at σ 13 200 (a1))) + v2)))) ((sx_at σ 57 200 (a1))) := by
              rw [pF_nItemOf hF4 rfl]; exact c28
            refine wk_callp tt_165 rfl rfl rfl rfl rfl tt_145 rfl (by decide) (w_nItemOf z σ3 ((sx_at σ 48 3200 ((((sx_at σ 56 200 (a1)) - (sx_at σ 13 200 (a1))) + v2)))) ((sx_at σ 57 200 (a1))) (sx_R ..) (sx_R ..) c28) ?_
            rw [vF_nItemOf hF4 rfl]
            have r29 := vr_nItemOf σ  ((sx_at σ 48 3200 ((((sx_at σ 56 200 (a1)) - (sx_at σ 13 200 (a1))) + v2)))) ((sx_at σ 57 200 (a1))) (sx_R ..) (sx_R ..) (by have q := c28; rw [pF_nItemOf hF4 rfl] at q; exact q)
            refine wk_callp tt_165 rfl rfl rfl rfl rfl tt_21 rfl (by decide) (pt_i0 z σ3 46 272 (((sx_at σ 16 200 (a1)) + v2)) ((v_nItemOf σ ((sx_at σ 48 3200 ((((sx_at σ 56 200 (a1)) - (sx_at σ 13 200 (a1))) + v2)))) ((sx_at σ 57 200 (a1))))) rfl (by decide) c27) ?_
            show wx z 2 165 135 [(5, .inl ((sx_at σ 48 3200 ((((sx_at σ 56 200 (a1)) - (sx_at σ 13 200 (a1))) + v2))))), (0, .inr (.inr (.ref 45))), (1, .inl (a1)), (2, .inl ((sx_at σ 57 200 (a1)))), (3, .inl ((sx_at σ 13 200 (a1)))), (4, .inl (v2))] [] (sx_put σ3 46 272 (((sx_at σ 16 200 (a1)) + v2)) ((v_nItemOf σ ((sx_at σ 48 3200 ((((sx_at σ 56 200 (a1)) - (sx_at σ 13 200 (a1))) + v2)))) ((sx_at σ 57 200 (a1)))))) (fun v σ' => v = none ∧ sg_F [46, 9045, 24045] σ σ' ∧ Q σ')
            generalize hs31 : (sx_put σ3 46 272 (((sx_at σ 16 200 (a1)) + v2)) ((v_nItemOf σ ((sx_at σ 48 3200 ((((sx_at σ 56 200 (a1)) - (sx_at σ 13 200 (a1))) + v2)))) ((sx_at σ 57 200 (a1)))))) = σ30
            have w := w σ30 hs31.symm
            have hF32 : sg_F [46] σ3 σ30 := by rw [← hs31]; exact sg_F_p (sg_F_r _ _) rfl _ _ _
            obtain ⟨c33, w⟩ := w
            refine wk_b tt_165 2 (pc' := 73) (ls' := [(4, .inl ((v2 + 1))), (5, .inl ((sx_at σ 48 3200 ((((sx_at σ 56 200 (a1)) - (sx_at σ 13 200 (a1))) + v2))))), (0, .inr (.inr (.ref 45))), (1, .inl (a1)), (2, .inl ((sx_at σ 57 200 (a1)))), (3, .inl ((sx_at σ 13 200 (a1))))]) (st' := []) (σ' := σ30) rfl ?_
            obtain ⟨m34, hm34, w⟩ := w
            exact wk_ls [(0, .inr (.inr (.ref 45))), (1, .inl (a1)), (2, .inl ((sx_at σ 57 200 (a1)))), (3, .inl ((sx_at σ 13 200 (a1)))), (4, .inl ((v2 + 1)))] rfl ⟨rfl, rfl, rfl, rfl, rfl, trivial⟩ (ih9 m34 hm34 ((v2 + 1)) σ30 c33 (sg_F_t (sg_F_t (sg_F_r [46] σ) (sg_F_m (L := [46]) hF4 rfl)) (sg_F_m (L := [46]) hF32 rfl)) w)
    exact wk_ls [(0, .inr (.inr (.ref 45))), (1, .inl (a1)), (2, .inl ((sx_at σ 57 200 (a1)))), (3, .inl ((sx_at σ 13 200 (a1)))), (4, .inl (0))] rfl ⟨rfl, rfl, rfl, rfl, rfl, trivial⟩ (lp11 μ6 (0) σ (by decide) (sg_F_r _ _) w12)
  ·
    have w := w.2 h1
    refine wk_b tt_165 4 (pc' := 27) (ls' := [(2, .inl ((sx_at σ 57 200 (a1)))), (0, .inr (.inr (.ref 45))), (1, .inl (a1))]) (st' := [.inl (a1), .inr (.inr (.ref 59)), .inr (.inr (.ref 45))]) (σ' := σ) rfl ?_
    refine wk_callp tt_165 rfl rfl rfl rfl rfl tt_5 rfl (by decide) (at_i0 z σ 59 200 (a1) rfl (by decide) ra1) ?_
    show wx z 2 165 30 [(2, .inl ((sx_at σ 57 200 (a1)))), (0, .inr (.inr (.ref 45))), (1, .inl (a1))] [.inl ((sx_at σ 59 200 (a1))), .inr (.inr (.ref 45))] σ (fun v σ' => v = none ∧ sg_F [46, 9045, 24045] σ σ' ∧ Q σ')
    refine wk_b tt_165 3 (pc' := 35) (ls' := [(2, .inl ((sx_at σ 57 200 (a1)))), (0, .inr (.inr (.ref 45))), (1, .inl (a1))]) (st' := [.inl (a1), .inr (.inr (.ref 60)), .inl ((sx_at σ 59 200 (a1))), .inr (.inr (.ref 45))]) (σ' := σ) rfl ?_
    refine wk_callp tt_165 rfl rfl rfl rfl rfl tt_5 rfl (by decide) (at_i0 z σ 60 200 (a1) rfl (by decide) ra1) ?_
    show wx z 2 165 38 [(2, .inl ((sx_at σ 57 200 (a1)))), (0, .inr (.inr (.ref 45))), (1, .inl (a1))] [.inl ((sx_at σ 60 200 (a1))), .inl ((sx_at σ 59 200 (a1))), .inr (.inr (.ref 45))] σ (fun v σ' => v = none ∧ sg_F [46, 9045, 24045] σ σ' ∧ Q σ')
    obtain ⟨c35, w⟩ := w
    refine wk_b tt_165 2 (pc' := 42) (ls' := [(2, .inl ((sx_at σ 57 200 (a1)))), (0, .inr (.inr (.ref 45))), (1, .inl (a1))]) (st' := []) (σ' := (sg_w σ 45 23 (((sx_at σ 59 200 (a1)) + (sx_at σ 60 200 (a1)))))) rfl ?_
    generalize hs37 : (sg_w σ 45 23 (((sx_at σ 59 200 (a1)) + (sx_at σ 60 200 (a1))))) = σ36
    have w := w σ36 hs37.symm
    have hF38 : sg_F [24045] σ σ36 := by rw [← hs37]; exact sg_F_w (sg_F_r _ _) rfl _
    refine wk_b tt_165 5 (pc' := 51) (ls' := [(2, .inl ((sx_at σ 57 200 (a1)))), (0, .inr (.inr (.ref 45))), (1, .inl (a1))]) (st' := [.inl (a1), .inr (.inr (.ref 33)), .inr (.inr (.ref 45))]) (σ' := σ36) rfl ?_
    refine wk_callp tt_165 rfl rfl rfl rfl rfl tt_5 rfl (by decide) (at_i0 z σ36 33 200 (a1) rfl (by decide) ra1) ?_
    show wx z 2 165 54 [(2, .inl ((sx_at σ 57 200 (a1)))), (0, .inr (.inr (.ref 45))), (1, .inl (a1))] [.inl ((sx_at σ36 33 200 (a1))), .inr (.inr (.ref 45))] σ36 (fun v σ' => v = none ∧ sg_F [46, 9045, 24045] σ σ' ∧ Q σ')
    rw [sx_F (a := 33) (n := 200) (i := (a1)) hF38 rfl]
    refine wk_b tt_165 1 (pc' := 57) (ls' := [(2, .inl ((sx_at σ 57 200 (a1)))), (0, .inr (.inr (.ref 45))), (1, .inl (a1))]) (st' := []) (σ' := (sg_w σ36 45 8 ((sx_at σ 33 200 (a1))))) rfl ?_
    generalize hs40 : (sg_w σ36 45 8 ((sx_at σ 33 200 (a1)))) = σ39
    have w := w σ39 hs40.symm
    have hF41 : sg_F [9045] σ36 σ39 := by rw [← hs40]; exact sg_F_w (sg_F_r _ _) rfl _
    exact wk_rV tt_165 rfl rfl ⟨rfl, (sg_F_t (sg_F_t (sg_F_r [46, 9045, 24045] σ) (sg_F_m (L := [46, 9045, 24045]) hF38 rfl)) (sg_F_m (L := [46, 9045, 24045]) hF41 rfl)), w⟩
-- NestedVectors$NestedRun.next
def V_nNext (σ : sg_S) (a1 : Int) (Q : sg_S → Prop) : Prop := ∀ v1 : Int, v1 = (if (sx_at σ 60 200 (a1)) < (sg_g σ 45 23) then (sg_g σ 45 23) else (sx_at σ 60 200 (a1))) → sg_R v1 → ∀ σ4, σ4 = (sx_put σ 60 200 (a1) (v1)) → sg_R ((sx_at σ 57 200 (a1)) + 1) ∧ ∀ σ8, σ8 = (sx_put σ4 57 200 (a1) (((sx_at σ 57 200 (a1)) + 1))) → V_nVisit σ8 (a1) (fun σ12 => sg_F [46, 9045, 24045] σ8 σ12 → Q σ12)
set_option maxHeartbeats 4000000 in
set_option maxRecDepth 8000 in
theorem w_nNext (z : Value) (σ : sg_S) (a1 : Int) (Q : sg_S → Prop) (ra1 : sg_R a1) (w : V_nNext σ a1 Q) : wx z 3 151 0 [(0, .inr (.inr (.ref 45))), (1, .inl (a1))] [] σ (fun v σ' => v = none ∧ sg_F [46, 57, 60, 9045, 24045] σ σ' ∧ Q σ') := by
  unfold V_nNext at w
  refine wk_b tt_151 6 (pc' := 10) (ls' := [(0, .inr (.inr (.ref 45))), (1, .inl (a1))]) (st' := [.inl (a1), .inr (.inr (.ref 60)), .inl (a1), .inr (.inr (.ref 60))]) (σ' := σ) rfl ?_
  refine wk_callp tt_151 rfl rfl rfl rfl rfl tt_5 rfl (by decide) (at_i0 z σ 60 200 (a1) rfl (by decide) ra1) ?_
  show wx z 3 151 13 [(0, .inr (.inr (.ref 45))), (1, .inl (a1))] [.inl ((sx_at σ 60 200 (a1))), .inl (a1), .inr (.inr (.ref 60))] σ (fun v σ' => v = none ∧ sg_F [46, 57, 60, 9045, 24045] σ σ' ∧ Q σ')
  refine wk_b tt_151 2 (pc' := 17) (ls' := [(0, .inr (.inr (.ref 45))), (1, .inl (a1))]) (st' := [.inl ((sg_g σ 45 23)), .inl ((sx_at σ 60 200 (a1))), .inl (a1), .inr (.inr (.ref 60))]) (σ' := σ) rfl ?_
  refine wk_max (k0 := 0) tt_151 rfl (sx_R ..) (sg_Rg _ _ _) rfl ?_
  obtain ⟨v1, e2⟩ : ∃ q, q = (if (sx_at σ 60 200 (a1)) < (sg_g σ 45 23) then (sg_g σ 45 23) else (sx_at σ 60 200 (a1))) := ⟨_, rfl⟩
  have r3 : sg_R v1 := by rw [e2]; split <;> first | exact (sx_R ..) | exact (sg_Rg _ _ _)
  rw [← e2]
  have w := w v1 e2 r3
  refine wk_callp tt_151 rfl rfl rfl rfl rfl tt_21 rfl (by decide) (pt_i0 z σ 60 200 (a1) (v1) rfl (by decide) ra1) ?_
  show wx z 3 151 23 [(0, .inr (.inr (.ref 45))), (1, .inl (a1))] [] (sx_put σ 60 200 (a1) (v1)) (fun v σ' => v = none ∧ sg_F [46, 57, 60, 9045, 24045] σ σ' ∧ Q σ')
  generalize hs5 : (sx_put σ 60 200 (a1) (v1)) = σ4
  have w := w σ4 hs5.symm
  have hF6 : sg_F [60] σ σ4 := by rw [← hs5]; exact sg_F_p (sg_F_r _ _) rfl _ _ _
  refine wk_b tt_151 6 (pc' := 33) (ls' := [(0, .inr (.inr (.ref 45))), (1, .inl (a1))]) (st' := [.inl (a1), .inr (.inr (.ref 57)), .inl (a1), .inr (.inr (.ref 57))]) (σ' := σ4) rfl ?_
  refine wk_callp tt_151 rfl rfl rfl rfl rfl tt_5 rfl (by decide) (at_i0 z σ4 57 200 (a1) rfl (by decide) ra1) ?_
  show wx z 3 151 36 [(0, .inr (.inr (.ref 45))), (1, .inl (a1))] [.inl ((sx_at σ4 57 200 (a1))), .inl (a1), .inr (.inr (.ref 57))] σ4 (fun v σ' => v = none ∧ sg_F [46, 57, 60, 9045, 24045] σ σ' ∧ Q σ')
  rw [sx_F (a := 57) (n := 200) (i := (a1)) hF6 rfl]
  obtain ⟨c7, w⟩ := w
  refine wk_b tt_151 2 (pc' := 38) (ls' := [(0, .inr (.inr (.ref 45))), (1, .inl (a1))]) (st' := [.inl (((sx_at σ 57 200 (a1)) + 1)), .inl (a1), .inr (.inr (.ref 57))]) (σ' := σ4) rfl ?_
  refine wk_callp tt_151 rfl rfl rfl rfl rfl tt_21 rfl (by decide) (pt_i0 z σ4 57 200 (a1) (((sx_at σ 57 200 (a1)) + 1)) rfl (by decide) ra1) ?_
  show wx z 3 151 41 [(0, .inr (.inr (.ref 45))), (1, .inl (a1))] [] (sx_put σ4 57 200 (a1) (((sx_at σ 57 200 (a1)) + 1))) (fun v σ' => v = none ∧ sg_F [46, 57, 60, 9045, 24045] σ σ' ∧ Q σ')
  generalize hs9 : (sx_put σ4 57 200 (a1) (((sx_at σ 57 200 (a1)) + 1))) = σ8
  have w := w σ8 hs9.symm
  have hF10 : sg_F [57] σ4 σ8 := by rw [← hs9]; exact sg_F_p (sg_F_r _ _) rfl _ _ _
  refine wk_b tt_151 2 (pc' := 43) (ls' := [(0, .inr (.inr (.ref 45))), (1, .inl (a1))]) (st' := [.inl (a1), .inr (.inr (.ref 45))]) (σ' := σ8) rfl ?_
  refine wk_call tt_151 rfl rfl rfl rfl rfl tt_165 rfl (by decide) (w_nVisit z σ8 (a1) _ ra1 w) (fun u16 σ12 hq14 => ?_)
  obtain ⟨rfl, hF13, w⟩ := hq14
  have w := w hF13
  exact wk_rV tt_151 rfl rfl ⟨rfl, (sg_F_t (sg_F_t (sg_F_t (sg_F_r [46, 57, 60, 9045, 24045] σ) (sg_F_m (L := [46, 57, 60, 9045, 24045]) hF6 rfl)) (sg_F_m (L := [46, 57, 60, 9045, 24045]) hF10 rfl)) (sg_F_m (L := [46, 57, 60, 9045, 24045]) hF13 rfl)), w⟩
-- NestedVectors$NestedRun.open
def V_nOpen (σ : sg_S) (a1 : Int) (Q : sg_S → Prop) : Prop := sg_R ((sg_g σ 45 7) - (sx_at σ 13 200 (a1))) ∧ (∃ (I6 : Nat → Int → sg_S → Prop) (X8 : sg_S → Prop), (∃ n, I6 n (1) σ) ∧ (∀ (n16 : Nat) (v3 : Int) (σ4 : sg_S), sg_R v3 → sg_F [11045] σ σ4 → I6 n16 v3 σ4 → (((sx_at σ 13 200 (a1)) ≤ v3 → X8 σ4) ∧ (v3 < (sx_at σ 13 200 (a1)) → ((4 ≤ v3 → X8 σ4) ∧ (v3 < 4 → sg_R (((sg_g σ 45 7) - (sx_at σ 13 200 (a1))) + v3) ∧ (((v_nLengthOf σ ((sx_at σ 48 3200 ((((sg_g σ 45 7) - (sx_at σ 13 200 (a1))) + v3))))) = (v_nLengthOf σ ((sx_at σ 48 3200 (((sg_g σ 45 7) - (sx_at σ 13 200 (a1))))))) → sg_R (v3 + 1) ∧ (∃ m, m < n16 ∧ I6 m ((v3 + 1)) σ4)) ∧ (¬ (v_nLengthOf σ ((sx_at σ 48 3200 ((((sg_g σ 45 7) - (sx_at σ 13 200 (a1))) + v3))))) = (v_nLengthOf σ ((sx_at σ 48 3200 (((sg_g σ 45 7) - (sx_at σ 13 200 (a1))))))) → ∀ σ46, σ46 = (sg_w σ4 45 10 (3)) → Q σ46))))))) ∧ (∀ (σ4 : sg_S), sg_F [11045] σ σ4 → X8 σ4 → ∀ σ18, σ18 = (sx_put σ4 56 200 (a1) ((sg_g σ 45 7))) → ∀ σ21, σ21 = (sx_put σ18 58 200 (a1) ((v_nLengthOf σ ((sx_at σ 48 3200 (((sg_g σ 45 7) - (sx_at σ 13 200 (a1))))))))) → ∀ σ24, σ24 = (sx_put σ21 57 200 (a1) (0)) → ∀ σ27, σ27 = (sx_put σ24 59 200 (a1) ((sg_g σ 45 23))) → ∀ σ30, σ30 = (sx_put σ27 60 200 (a1) (0)) → V_nVisit σ30 (a1) (fun σ34 => sg_F [46, 9045, 24045] σ30 σ34 → Q σ34)))
set_option maxHeartbeats 4000000 in
set_option maxRecDepth 8000 in
theorem w_nOpen (z : Value) (σ : sg_S) (a1 : Int) (Q : sg_S → Prop) (ra1 : sg_R a1) (w : V_nOpen σ a1 Q) : wx z 3 152 0 [(0, .inr (.inr (.ref 45))), (1, .inl (a1))] [] σ (fun v σ' => v = none ∧ sg_F [46, 56, 57, 58, 59, 60, 9045, 11045, 24045] σ σ' ∧ Q σ') := by
  unfold V_nOpen at w
  refine wk_b tt_152 4 (pc' := 8) (ls' := [(0, .inr (.inr (.ref 45))), (1, .inl (a1))]) (st' := [.inl (a1), .inr (.inr (.ref 13))]) (σ' := σ) rfl ?_
  refine wk_callp tt_152 rfl rfl rfl rfl rfl tt_5 rfl (by decide) (at_i0 z σ 13 200 (a1) rfl (by decide) ra1) ?_
  show wx z 3 152 11 [(0, .inr (.inr (.ref 45))), (1, .inl (a1))] [.inl ((sx_at σ 13 200 (a1)))] σ (fun v σ' => v = none ∧ sg_F [46, 56, 57, 58, 59, 60, 9045, 11045, 24045] σ σ' ∧ Q σ')
  obtain ⟨c1, w⟩ := w
  refine wk_b tt_152 8 (pc' := 23) (ls' := [(2, .inl ((sx_at σ 13 200 (a1)))), (0, .inr (.inr (.ref 45))), (1, .inl (a1))]) (st' := [.inl (((sg_g σ 45 7) - (sx_at σ 13 200 (a1)))), .inr (.inr (.ref 48)), .inr (.inr (.ref 45))]) (σ' := σ) rfl ?_
  refine wk_callp tt_152 rfl rfl rfl rfl rfl tt_5 rfl (by decide) (at_i0 z σ 48 3200 (((sg_g σ 45 7) - (sx_at σ 13 200 (a1)))) rfl (by decide) c1) ?_
  show wx z 3 152 26 [(2, .inl ((sx_at σ 13 200 (a1)))), (0, .inr (.inr (.ref 45))), (1, .inl (a1))] [.inl ((sx_at σ 48 3200 (((sg_g σ 45 7) - (sx_at σ 13 200 (a1)))))), .inr (.inr (.ref 45))] σ (fun v σ' => v = none ∧ sg_F [46, 56, 57, 58, 59, 60, 9045, 11045, 24045] σ σ' ∧ Q σ')
  refine wk_callp tt_152 rfl rfl rfl rfl rfl tt_149 rfl (by decide) (w_nLengthOf z σ ((sx_at σ 48 3200 (((sg_g σ 45 7) - (sx_at σ 13 200 (a1)))))) (sx_R ..) ) ?_
  have r2 := vr_nLengthOf σ  ((sx_at σ 48 3200 (((sg_g σ 45 7) - (sx_at σ 13 200 (a1)))))) (sx_R ..) 
  refine wk_b tt_152 3 (pc' := 33) (ls' := [(4, .inl (1)), (3, .inl ((v_nLengthOf σ ((sx_at σ 48 3200 (((sg_g σ 45 7) - (sx_at σ 13 200 (a1))))))))), (2, .inl ((sx_at σ 13 200 (a1)))), (0, .inr (.inr (.ref 45))), (1, .inl (a1))]) (st' := []) (σ' := σ) rfl ?_
  obtain ⟨I6, X8, ⟨μ7, w13⟩, w14, w15⟩ := w
  have ex17 : ∀ (σ4 : sg_S), sg_F [11045] σ σ4 → X8 σ4 → wx z 3 152 81 [(0, .inr (.inr (.ref 45))), (1, .inl (a1)), (3, .inl ((v_nLengthOf σ ((sx_at σ 48 3200 (((sg_g σ 45 7) - (sx_at σ 13 200 (a1)))))))))] [] σ4 (fun v σ' => v = none ∧ sg_F [46, 56, 57, 58, 59, 60, 9045, 11045, 24045] σ σ' ∧ Q σ') := by
    intro σ4 hF5 w
    have w := w15 σ4 hF5 w
    refine wk_b tt_152 5 (pc' := 90) (ls' := [(0, .inr (.inr (.ref 45))), (1, .inl (a1)), (3, .inl ((v_nLengthOf σ ((sx_at σ 48 3200 (((sg_g σ 45 7) - (sx_at σ 13 200 (a1)))))))))]) (st' := [.inl ((sg_g σ4 45 7)), .inl (a1), .inr (.inr (.ref 56))]) (σ' := σ4) rfl ?_
    rw [show (sg_g σ4 45 7) = (sg_g σ 45 7) from by rw [sg_F_g hF5 rfl]]
    refine wk_callp tt_152 rfl rfl rfl rfl rfl tt_21 rfl (by decide) (pt_i0 z σ4 56 200 (a1) ((sg_g σ 45 7)) rfl (by decide) ra1) ?_
    show wx z 3 152 93 [(0, .inr (.inr (.ref 45))), (1, .inl (a1)), (3, .inl ((v_nLengthOf σ ((sx_at σ 48 3200 (((sg_g σ 45 7) - (sx_at σ 13 200 (a1)))))))))] [] (sx_put σ4 56 200 (a1) ((sg_g σ 45 7))) (fun v σ' => v = none ∧ sg_F [46, 56, 57, 58, 59, 60, 9045, 11045, 24045] σ σ' ∧ Q σ')
    generalize hs19 : (sx_put σ4 56 200 (a1) ((sg_g σ 45 7))) = σ18
    have w := w σ18 hs19.symm
    have hF20 : sg_F [56] σ4 σ18 := by rw [← hs19]; exact sg_F_p (sg_F_r _ _) rfl _ _ _
    refine wk_b tt_152 4 (pc' := 99) (ls' := [(0, .inr (.inr (.ref 45))), (1, .inl (a1)), (3, .inl ((v_nLengthOf σ ((sx_at σ 48 3200 (((sg_g σ 45 7) - (sx_at σ 13 200 (a1)))))))))]) (st' := [.inl ((v_nLengthOf σ ((sx_at σ 48 3200 (((sg_g σ 45 7) - (sx_at σ 13 200 (a1)))))))), .inl (a1), .inr (.inr (.ref 58))]) (σ' := σ18) rfl ?_
    refine wk_callp tt_152 rfl rfl rfl rfl rfl tt_21 rfl (by decide) (pt_i0 z σ18 58 200 (a1) ((v_nLengthOf σ ((sx_at σ 48 3200 (((sg_g σ 45 7) - (sx_at σ 13 200 (a1)))))))) rfl (by decide) ra1) ?_
    show wx z 3 152 102 [(0, .inr (.inr (.ref 45))), (1, .inl (a1)), (3, .inl ((v_nLengthOf σ ((sx_at σ 48 3200 (((sg_g σ 45 7) - (sx_at σ 13 200 (a1)))))))))] [] (sx_put σ18 58 200 (a1) ((v_nLengthOf σ ((sx_at σ 48 3200 (((sg_g σ 45 7) - (sx_at σ 13 200 (a1))))))))) (fun v σ' => v = none ∧ sg_F [46, 56, 57, 58, 59, 60, 9045, 11045, 24045] σ σ' ∧ Q σ')
    generalize hs22 : (sx_put σ18 58 200 (a1) ((v_nLengthOf σ ((sx_at σ 48 3200 (((sg_g σ 45 7) - (sx_at σ 13 200 (a1))))))))) = σ21
    have w := w σ21 hs22.symm
    have hF23 : sg_F [58] σ18 σ21 := by rw [← hs22]; exact sg_F_p (sg_F_r _ _) rfl _ _ _
    refine wk_b tt_152 4 (pc' := 108) (ls' := [(0, .inr (.inr (.ref 45))), (1, .inl (a1)), (3, .inl ((v_nLengthOf σ ((sx_at σ 48 3200 (((sg_g σ 45 7) - (sx_at σ 13 200 (a1)))))))))]) (st' := [.inl (0), .inl (a1), .inr (.inr (.ref 57))]) (σ' := σ21) rfl ?_
    refine wk_callp tt_152 rfl rfl rfl rfl rfl tt_21 rfl (by decide) (pt_i0 z σ21 57 200 (a1) (0) rfl (by decide) ra1) ?_
    show wx z 3 152 111 [(0, .inr (.inr (.ref 45))), (1, .inl (a1)), (3, .inl ((v_nLengthOf σ ((sx_at σ 48 3200 (((sg_g σ 45 7) - (sx_at σ 13 200 (a1)))))))))] [] (sx_put σ21 57 200 (a1) (0)) (fun v σ' => v = none ∧ sg_F [46, 56, 57, 58, 59, 60, 9045, 11045, 24045] σ σ' ∧ Q σ')
    generalize hs25 : (sx_put σ21 57 200 (a1) (0)) = σ24
    have w := w σ24 hs25.symm
    have hF26 : sg_F [57] σ21 σ24 := by rw [← hs25]; exact sg_F_p (sg_F_r _ _) rfl _ _ _
    refine wk_b tt_152 5 (pc' := 120) (ls' := [(0, .inr (.inr (.ref 45))), (1, .inl (a1)), (3, .inl ((v_nLengthOf σ ((sx_at σ 48 3200 (((sg_g σ 45 7) - (sx_at σ 13 200 (a1)))))))))]) (st' := [.inl ((sg_g σ24 45 23)), .inl (a1), .inr (.inr (.ref 59))]) (σ' := σ24) rfl ?_
    rw [show (sg_g σ24 45 23) = (sg_g σ 45 23) from by rw [sg_F_ga hF26 rfl, sg_F_ga hF23 rfl, sg_F_ga hF20 rfl, sg_F_g hF5 rfl]]
    refine wk_callp tt_152 rfl rfl rfl rfl rfl tt_21 rfl (by decide) (pt_i0 z σ24 59 200 (a1) ((sg_g σ 45 23)) rfl (by decide) ra1) ?_
    show wx z 3 152 123 [(0, .inr (.inr (.ref 45))), (1, .inl (a1)), (3, .inl ((v_nLengthOf σ ((sx_at σ 48 3200 (((sg_g σ 45 7) - (sx_at σ 13 200 (a1)))))))))] [] (sx_put σ24 59 200 (a1) ((sg_g σ 45 23))) (fun v σ' => v = none ∧ sg_F [46, 56, 57, 58, 59, 60, 9045, 11045, 24045] σ σ' ∧ Q σ')
    generalize hs28 : (sx_put σ24 59 200 (a1) ((sg_g σ 45 23))) = σ27
    have w := w σ27 hs28.symm
    have hF29 : sg_F [59] σ24 σ27 := by rw [← hs28]; exact sg_F_p (sg_F_r _ _) rfl _ _ _
    refine wk_b tt_152 4 (pc' := 129) (ls' := [(0, .inr (.inr (.ref 45))), (1, .inl (a1)), (3, .inl ((v_nLengthOf σ ((sx_at σ 48 3200 (((sg_g σ 45 7) - (sx_at σ 13 200 (a1)))))))))]) (st' := [.inl (0), .inl (a1), .inr (.inr (.ref 60))]) (σ' := σ27) rfl ?_
    refine wk_callp tt_152 rfl rfl rfl rfl rfl tt_21 rfl (by decide) (pt_i0 z σ27 60 200 (a1) (0) rfl (by decide) ra1) ?_
    show wx z 3 152 132 [(0, .inr (.inr (.ref 45))), (1, .inl (a1)), (3, .inl ((v_nLengthOf σ ((sx_at σ 48 3200 (((sg_g σ 45 7) - (sx_at σ 13 200 (a1)))))))))] [] (sx_put σ27 60 200 (a1) (0)) (fun v σ' => v = none ∧ sg_F [46, 56, 57, 58, 59, 60, 9045, 11045, 24045] σ σ' ∧ Q σ')
    generalize hs31 : (sx_put σ27 60 200 (a1) (0)) = σ30
    have w := w σ30 hs31.symm
    have hF32 : sg_F [60] σ27 σ30 := by rw [← hs31]; exact sg_F_p (sg_F_r _ _) rfl _ _ _
    refine wk_b tt_152 2 (pc' := 134) (ls' := [(0, .inr (.inr (.ref 45))), (1, .inl (a1)), (3, .inl ((v_nLengthOf σ ((sx_at σ 48 3200 (((sg_g σ 45 7) - (sx_at σ 13 200 (a1)))))))))]) (st' := [.inl (a1), .inr (.inr (.ref 45))]) (σ' := σ30) rfl ?_
    refine wk_call tt_152 rfl rfl rfl rfl rfl tt_165 rfl (by decide) (w_nVisit z σ30 (a1) _ ra1 w) (fun u38 σ34 hq36 => ?_)
    obtain ⟨rfl, hF35, w⟩ := hq36
    have w := w hF35
    exact wk_rV tt_152 rfl rfl ⟨rfl, (sg_F_t (sg_F_t (sg_F_t (sg_F_t (sg_F_t (sg_F_t (sg_F_t (sg_F_r [46, 56, 57, 58, 59, 60, 9045, 11045, 24045] σ) (sg_F_m (L := [46, 56, 57, 58, 59, 60, 9045, 11045, 24045]) hF5 rfl)) (sg_F_m (L := [46, 56, 57, 58, 59, 60, 9045, 11045, 24045]) hF20 rfl)) (sg_F_m (L := [46, 56, 57, 58, 59, 60, 9045, 11045, 24045]) hF23 rfl)) (sg_F_m (L := [46, 56, 57, 58, 59, 60, 9045, 11045, 24045]) hF26 rfl)) (sg_F_m (L := [46, 56, 57, 58, 59, 60, 9045, 11045, 24045]) hF29 rfl)) (sg_F_m (L := [46, 56, 57, 58, 59, 60, 9045, 11045, 24045]) hF32 rfl)) (sg_F_m (L := [46, 56, 57, 58, 59, 60, 9045, 11045, 24045]) hF35 rfl)), w⟩
  have lp12 : ∀ (n16 : Nat) (v3 : Int) (σ4 : sg_S), sg_R v3 → sg_F [11045] σ σ4 → I6 n16 v3 σ4 → wx z 3 152 33 [(0, .inr (.inr (.ref 45))), (1, .inl (a1)), (2, .inl ((sx_at σ 13 200 (a1)))), (3, .inl ((v_nLengthOf σ ((sx_at σ 48 3200 (((sg_g σ 45 7) - (sx_at σ 13 200 (a1))))))))), (4, .inl (v3))] [] σ4 (fun v σ' => v = none ∧ sg_F [46, 56, 57, 58, 59, 60, 9045, 11045, 24045] σ σ' ∧ Q σ') := by
    intro n16
    induction n16 using Nat.strongRecOn with
    | _ n16 ih10 =>
      intro v3 σ4 r9 hF5 w
      have w := w14 n16 v3 σ4 r9 hF5 w
      refine wk_b tt_152 2 (pc' := 36) (ls' := [(0, .inr (.inr (.ref 45))), (1, .inl (a1)), (2, .inl ((sx_at σ 13 200 (a1)))), (3, .inl ((v_nLengthOf σ ((sx_at σ 48 3200 (((sg_g σ 45 7) - (sx_at σ 13 200 (a1))))))))), (4, .inl (v3))]) (st' := [.inl ((sx_at σ 13 200 (a1))), .inl (v3)]) (σ' := σ4) rfl ?_
      refine wk_if2 tt_152 (tgt := 81) rfl rfl r9 (sx_R ..) (fun (h39 : (sx_at σ 13 200 (a1)) ≤ v3) => ?_) (fun (h39 : v3 < (sx_at σ 13 200 (a1))) => ?_)
      ·
        have w := w.1 h39
        exact wk_ls [(0, .inr (.inr (.ref 45))), (1, .inl (a1)), (3, .inl ((v_nLengthOf σ ((sx_at σ 48 3200 (((sg_g σ 45 7) - (sx_at σ 13 200 (a1)))))))))] rfl ⟨rfl, rfl, rfl, trivial⟩ (ex17  σ4  (sg_F_t (sg_F_r [11045] σ) (sg_F_m (L := [11045]) hF5 rfl)) w)
      ·
        have w := w.2 h39
        refine wk_b tt_152 2 (pc' := 42) (ls' := [(0, .inr (.inr (.ref 45))), (1, .inl (a1)), (2, .inl ((sx_at σ 13 200 (a1)))), (3, .inl ((v_nLengthOf σ ((sx_at σ 48 3200 (((sg_g σ 45 7) - (sx_at σ 13 200 (a1))))))))), (4, .inl (v3))]) (st' := [.inl (4), .inl (v3)]) (σ' := σ4) rfl ?_
        refine wk_if2 tt_152 (tgt := 81) rfl rfl r9 (by decide) (fun (h40 : 4 ≤ v3) => ?_) (fun (h40 : v3 < 4) => ?_)
        ·
          have w := w.1 h40
          exact wk_ls [(0, .inr (.inr (.ref 45))), (1, .inl (a1)), (3, .inl ((v_nLengthOf σ ((sx_at σ 48 3200 (((sg_g σ 45 7) - (sx_at σ 13 200 (a1)))))))))] rfl ⟨rfl, rfl, rfl, trivial⟩ (ex17  σ4  (sg_F_t (sg_F_r [11045] σ) (sg_F_m (L := [11045]) hF5 rfl)) w)
        ·
          have w := w.2 h40
          obtain ⟨c41, w⟩ := w
          refine wk_b tt_152 9 (pc' := 59) (ls' := [(0, .inr (.inr (.ref 45))), (1, .inl (a1)), (2, .inl ((sx_at σ 13 200 (a1)))), (3, .inl ((v_nLengthOf σ ((sx_at σ 48 3200 (((sg_g σ 45 7) - (sx_at σ 13 200 (a1))))))))), (4, .inl (v3))]) (st' := [.inl ((((sg_g σ4 45 7) - (sx_at σ 13 200 (a1))) + v3)), .inr (.inr (.ref 48)), .inr (.inr (.ref 45))]) (σ' := σ4) rfl ?_
          rw [show (sg_g σ4 45 7) = (sg_g σ 45 7) from by rw [sg_F_g hF5 rfl]]
          refine wk_callp tt_152 rfl rfl rfl rfl rfl tt_5 rfl (by decide) (at_i0 z σ4 48 3200 ((((sg_g σ 45 7) - (sx_at σ 13 200 (a1))) + v3)) rfl (by decide) c41) ?_
          show wx z 3 152 62 [(0, .inr (.inr (.ref 45))), (1, .inl (a1)), (2, .inl ((sx_at σ 13 200 (a1)))), (3, .inl ((v_nLengthOf σ ((sx_at σ 48 3200 (((sg_g σ 45 7) - (sx_at σ 13 200 (a1))))))))), (4, .inl (v3))] [.inl ((sx_at σ4 48 3200 ((((sg_g σ 45 7) - (sx_at σ 13 200 (a1))) + v3)))), .inr (.inr (.ref 45))] σ4 (fun v σ' => v = none ∧ sg_F [46, 56, 57, 58, 59, 60, 9045, 11045, 24045] σ σ' ∧ Q σ')
          rw [sx_F (a := 48) (n := 3200) (i := ((((sg_g σ 45 7) - (sx_at σ 13 200 (a1))) + v3))) hF5 rfl]
          refine wk_callp tt_152 rfl rfl rfl rfl rfl tt_149 rfl (by decide) (w_nLengthOf z σ4 ((sx_at σ 48 3200 ((((sg_g σ 45 7) - (sx_at σ 13 200 (a1))) + v3)))) (sx_R ..) ) ?_
          rw [vF_nLengthOf hF5 rfl]
          have r42 := vr_nLengthOf σ  ((sx_at σ 48 3200 ((((sg_g σ 45 7) - (sx_at σ 13 200 (a1))) + v3)))) (sx_R ..) 
          refine wk_b tt_152 1 (pc' := 66) (ls' := [(0, .inr (.inr (.ref 45))), (1, .inl (a1)), (2, .inl ((sx_at σ 13 200 (a1)))), (3, .inl ((v_nLengthOf σ ((sx_at σ 48 3200 (((sg_g σ 45 7) - (sx_at σ 13 200 (a1))))))))), (4, .inl (v3))]) (st' := [.inl ((v_nLengthOf σ ((sx_at σ 48 3200 (((sg_g σ 45 7) - (sx_at σ 13 200 (a1)))))))), .inl ((v_nLengthOf σ ((sx_at σ 48 3200 ((((sg_g σ 45 7) - (sx_at σ 13 200 (a1))) + v3))))))]) (σ' := σ4) rfl ?_
          refine wk_if2 tt_152 (tgt := 75) rfl rfl r42 r2 (fun (h43 : (v_nLengthOf σ ((sx_at σ 48 3200 ((((sg_g σ 45 7) - (sx_at σ 13 200 (a1))) + v3))))) = (v_nLengthOf σ ((sx_at σ 48 3200 (((sg_g σ 45 7) - (sx_at σ 13 200 (a1)))))))) => ?_) (fun (h43 : ¬ (v_nLengthOf σ ((sx_at σ 48 3200 ((((sg_g σ 45 7) - (sx_at σ 13 200 (a1))) + v3))))) = (v_nLengthOf σ ((sx_at σ 48 3200 (((sg_g σ 45 7) - (sx_at σ 13 200 (a1)))))))) => ?_)
          ·
            have w := w.1 h43
            obtain ⟨c44, w⟩ := w
            refine wk_b tt_152 2 (pc' := 33) (ls' := [(4, .inl ((v3 + 1))), (0, .inr (.inr (.ref 45))), (1, .inl (a1)), (2, .inl ((sx_at σ 13 200 (a1)))), (3, .inl ((v_nLengthOf σ ((sx_at σ 48 3200 (((sg_g σ 45 7) - (sx_at σ 13 200 (a1)))))))))]) (st' := []) (σ' := σ4) rfl ?_
            obtain ⟨m45, hm45, w⟩ := w
            exact wk_ls [(0, .inr (.inr (.ref 45))), (1, .inl (a1)), (2, .inl ((sx_at σ 13 200 (a1)))), (3, .inl ((v_nLengthOf σ ((sx_at σ 48 3200 (((sg_g σ 45 7) - (sx_at σ 13 200 (a1))))))))), (4, .inl ((v3 + 1)))] rfl ⟨rfl, rfl, rfl, rfl, rfl, trivial⟩ (ih10 m45 hm45 ((v3 + 1)) σ4 c44 (sg_F_t (sg_F_r [11045] σ) (sg_F_m (L := [11045]) hF5 rfl)) w)
          ·
            have w := w.2 h43
            refine wk_b tt_152 3 (pc' := 74) (ls' := [(0, .inr (.inr (.ref 45))), (1, .inl (a1)), (2, .inl ((sx_at σ 13 200 (a1)))), (3, .inl ((v_nLengthOf σ ((sx_at σ 48 3200 (((sg_g σ 45 7) - (sx_at σ 13 200 (a1))))))))), (4, .inl (v3))]) (st' := []) (σ' := (sg_w σ4 45 10 (3))) rfl ?_
            generalize hs47 : (sg_w σ4 45 10 (3)) = σ46
            have w := w σ46 hs47.symm
            have hF48 : sg_F [11045] σ4 σ46 := by rw [← hs47]; exact sg_F_w (sg_F_r _ _) rfl _
            exact wk_rV tt_152 rfl rfl ⟨rfl, (sg_F_t (sg_F_t (sg_F_r [46, 56, 57, 58, 59, 60, 9045, 11045, 24045] σ) (sg_F_m (L := [46, 56, 57, 58, 59, 60, 9045, 11045, 24045]) hF5 rfl)) (sg_F_m (L := [46, 56, 57, 58, 59, 60, 9045, 11045, 24045]) hF48 rfl)), w⟩
  exact wk_ls [(0, .inr (.inr (.ref 45))), (1, .inl (a1)), (2, .inl ((sx_at σ 13 200 (a1)))), (3, .inl ((v_nLengthOf σ ((sx_at σ 48 3200 (((sg_g σ 45 7) - (sx_at σ 13 200 (a1))))))))), (4, .inl (1))] rfl ⟨rfl, rfl, rfl, rfl, rfl, trivial⟩ (lp12 μ7 (1) σ (by decide) (sg_F_r _ _) w13)
-- NestedVectors$NestedRun.pack
def V_nPack (σ : sg_S) (a1 : Int) (a2 : Int) (Q : sg_S → Prop) : Prop := (((v_nLengthOf σ (a1)) = (v_nLengthOf σ (a2)) → (∃ (I7 : Nat → Int → sg_S → Prop) (X9 : sg_S → Prop), (∃ n, I7 n (0) σ) ∧ (∀ (n17 : Nat) (v4 : Int) (σ5 : sg_S), sg_R v4 → sg_F [54, 22045] σ σ5 → I7 n17 v4 σ5 → (((v_nLengthOf σ (a1)) ≤ v4 → X9 σ5) ∧ (v4 < (v_nLengthOf σ (a1)) → p_nItemOf σ (a2) (v4) ∧ (∃ P31 : sg_S → Prop, (((v_nItemOf σ (a2) (v4)) = 0 → P31 σ5) ∧ (¬ (v_nItemOf σ (a2) (v4)) = 0 → p_nItemOf σ (a1) (v4) ∧ V_nAdd σ5 ((v_nItemOf σ (a1) (v4))) (fun σ40 => sg_F [54, 22045] σ5 σ40 → P31 σ40))) ∧ (∀ (σ32 : sg_S), sg_F [54, 22045] σ5 σ32 → P31 σ32 → sg_R (v4 + 1) ∧ (∃ m, m < n17 ∧ I7 m ((v4 + 1)) σ32)))))) ∧ (∀ (σ5 : sg_S), sg_F [54, 22045] σ σ5 → X9 σ5 → V_nGive σ5  (fun σ20 => sg_F [48, 53, 8045, 11045, 21045, 22045, 23045] σ5 σ20 → Q σ20)))) ∧ (¬ (v_nLengthOf σ (a1)) = (v_nLengthOf σ (a2)) → ∀ σ45, σ45 = (sg_w σ 45 10 (3)) → Q σ45))
set_option maxHeartbeats 4000000 in
set_option maxRecDepth 8000 in
theorem w_nPack (z : Value) (σ : sg_S) (a1 : Int) (a2 : Int) (Q : sg_S → Prop) (ra1 : sg_R a1) (ra2 : sg_R a2) (w : V_nPack σ a1 a2 Q) : wx z 3 153 0 [(0, .inr (.inr (.ref 45))), (1, .inl (a1)), (2, .inl (a2))] [] σ (fun v σ' => v = none ∧ sg_F [48, 53, 54, 8045, 11045, 21045, 22045, 23045] σ σ' ∧ Q σ') := by
  unfold V_nPack at w
  refine wk_b tt_153 2 (pc' := 2) (ls' := [(0, .inr (.inr (.ref 45))), (1, .inl (a1)), (2, .inl (a2))]) (st' := [.inl (a1), .inr (.inr (.ref 45))]) (σ' := σ) rfl ?_
  refine wk_callp tt_153 rfl rfl rfl rfl rfl tt_149 rfl (by decide) (w_nLengthOf z σ (a1) ra1 ) ?_
  have r1 := vr_nLengthOf σ  (a1) ra1 
  refine wk_b tt_153 2 (pc' := 7) (ls' := [(0, .inr (.inr (.ref 45))), (1, .inl (a1)), (2, .inl (a2))]) (st' := [.inl (a2), .inr (.inr (.ref 45)), .inl ((v_nLengthOf σ (a1)))]) (σ' := σ) rfl ?_
  refine wk_callp tt_153 rfl rfl rfl rfl rfl tt_149 rfl (by decide) (w_nLengthOf z σ (a2) ra2 ) ?_
  have r2 := vr_nLengthOf σ  (a2) ra2 
  refine wk_if2 tt_153 (tgt := 19) rfl rfl r1 r2 (fun (h3 : (v_nLengthOf σ (a1)) = (v_nLengthOf σ (a2))) => ?_) (fun (h3 : ¬ (v_nLengthOf σ (a1)) = (v_nLengthOf σ (a2))) => ?_)
  ·
    have w := w.1 h3
    refine wk_b tt_153 2 (pc' := 21) (ls' := [(3, .inl (0)), (0, .inr (.inr (.ref 45))), (1, .inl (a1)), (2, .inl (a2))]) (st' := []) (σ' := σ) rfl ?_
    obtain ⟨I7, X9, ⟨μ8, w14⟩, w15, w16⟩ := w
    have ex18 : ∀ (σ5 : sg_S), sg_F [54, 22045] σ σ5 → X9 σ5 → wx z 3 153 55 [(0, .inr (.inr (.ref 45)))] [] σ5 (fun v σ' => v = none ∧ sg_F [48, 53, 54, 8045, 11045, 21045, 22045, 23045] σ σ' ∧ Q σ') := by
      intro σ5 hF6 w
      have w := w16 σ5 hF6 w
      refine wk_b tt_153 1 (pc' := 56) (ls' := [(0, .inr (.inr (.ref 45)))]) (st' := [.inr (.inr (.ref 45))]) (σ' := σ5) rfl ?_
      refine wk_call tt_153 rfl rfl rfl rfl rfl tt_144 rfl (by decide) (w_nGive z σ5  _  w) (fun u24 σ20 hq22 => ?_)
      obtain ⟨rfl, hF21, w⟩ := hq22
      have w := w hF21
      exact wk_rV tt_153 rfl rfl ⟨rfl, (sg_F_t (sg_F_t (sg_F_r [48, 53, 54, 8045, 11045, 21045, 22045, 23045] σ) (sg_F_m (L := [48, 53, 54, 8045, 11045, 21045, 22045, 23045]) hF6 rfl)) (sg_F_m (L := [48, 53, 54, 8045, 11045, 21045, 22045, 23045]) hF21 rfl)), w⟩
    have lp13 : ∀ (n17 : Nat) (v4 : Int) (σ5 : sg_S), sg_R v4 → sg_F [54, 22045] σ σ5 → I7 n17 v4 σ5 → wx z 3 153 21 [(0, .inr (.inr (.ref 45))), (1, .inl (a1)), (2, .inl (a2)), (3, .inl (v4))] [] σ5 (fun v σ' => v = none ∧ sg_F [48, 53, 54, 8045, 11045, 21045, 22045, 23045] σ σ' ∧ Q σ') := by
      intro n17
      induction n17 using Nat.strongRecOn with
      | _ n17 ih11 =>
        intro v4 σ5 r10 hF6 w
        have w := w15 n17 v4 σ5 r10 hF6 w
        refine wk_b tt_153 3 (pc' := 24) (ls' := [(0, .inr (.inr (.ref 45))), (1, .inl (a1)), (2, .inl (a2)), (3, .inl (v4))]) (st' := [.inl (a1), .inr (.inr (.ref 45)), .inl (v4)]) (σ' := σ5) rfl ?_
        refine wk_callp tt_153 rfl rfl rfl rfl rfl tt_149 rfl (by decide) (w_nLengthOf z σ5 (a1) ra1 ) ?_
        rw [vF_nLengthOf hF6 rfl]
        have r25 := vr_nLengthOf σ  (a1) ra1 
        refine wk_if2 tt_153 (tgt := 55) rfl rfl r10 r25 (fun (h26 : (v_nLengthOf σ (a1)) ≤ v4) => ?_) (fun (h26 : v4 < (v_nLengthOf σ (a1))) => ?_)
        ·
          have w := w.1 h26
          exact wk_ls [(0, .inr (.inr (.ref 45)))] rfl ⟨rfl, trivial⟩ (ex18  σ5  (sg_F_t (sg_F_r [54, 22045] σ) (sg_F_m (L := [54, 22045]) hF6 rfl)) w)
        ·
          have w := w.2 h26
          refine wk_b tt_153 3 (pc' := 33) (ls' := [(0, .inr (.inr (.ref 45))), (1, .inl (a1)), (2, .inl (a2)), (3, .inl (v4))]) (st' := [.inl (v4), .inl (a2), .inr (.inr (.ref 45))]) (σ' := σ5) rfl ?_
          obtain ⟨c27, w⟩ := w
          have c27 : p_nItemOf σ5 (a2) (v4) := by
            rw [pF_nItemOf hF6 rfl]; exact c27
          refine wk_callp tt_153 rfl rfl rfl rfl rfl tt_145 rfl (by decide) (w_nItemOf z σ5 (a2) (v4) ra2 r10 c27) ?_
          rw [vF_nItemOf hF6 rfl]
          have r28 := vr_nItemOf σ  (a2) (v4) ra2 r10 (by have q := c27; rw [pF_nItemOf hF6 rfl] at q; exact q)
          obtain ⟨P31, w, w34⟩ := w
          have jn30 : ∀ (σ32 : sg_S), sg_F [54, 22045] σ5 σ32 → P31 σ32 → wx z 3 153 49 [(0, .inr (.inr (.ref 45))), (1, .inl (a1)), (2, .inl (a2)), (3, .inl (v4))] [] σ32 (fun v σ' => v = none ∧ sg_F [48, 53, 54, 8045, 11045, 21045, 22045, 23045] σ σ' ∧ Q σ') := by
            intro σ32 hF33 w
            have w := w34 σ32 hF33 w
            obtain ⟨c35, w⟩ := w
            refine wk_b tt_153 2 (pc' := 21) (ls' := [(3, .inl ((v4 + 1))), (0, .inr (.inr (.ref 45))), (1, .inl (a1)), (2, .inl (a2))]) (st' := []) (σ' := σ32) rfl ?_
            obtain ⟨m36, hm36, w⟩ := w
            exact wk_ls [(0, .inr (.inr (.ref 45))), (1, .inl (a1)), (2, .inl (a2)), (3, .inl ((v4 + 1)))] rfl ⟨rfl, rfl, rfl, rfl, trivial⟩ (ih11 m36 hm36 ((v4 + 1)) σ32 c35 (sg_F_t (sg_F_t (sg_F_r [54, 22045] σ) (sg_F_m (L := [54, 22045]) hF6 rfl)) (sg_F_m (L := [54, 22045]) hF33 rfl)) w)
          refine wk_if tt_153 (tgt := 49) rfl rfl r28 (fun (h29 : (v_nItemOf σ (a2) (v4)) = 0) => ?_) (fun (h29 : ¬ (v_nItemOf σ (a2) (v4)) = 0) => ?_)
          ·
            have w := w.1 h29
            exact wk_ls [(0, .inr (.inr (.ref 45))), (1, .inl (a1)), (2, .inl (a2)), (3, .inl (v4))] rfl ⟨rfl, rfl, rfl, rfl, trivial⟩ (jn30 σ5 (sg_F_r [54, 22045] σ5) w)
          ·
            have w := w.2 h29
            refine wk_b tt_153 4 (pc' := 43) (ls' := [(0, .inr (.inr (.ref 45))), (1, .inl (a1)), (2, .inl (a2)), (3, .inl (v4))]) (st' := [.inl (v4), .inl (a1), .inr (.inr (.ref 45)), .inr (.inr (.ref 45))]) (σ' := σ5) rfl ?_
            obtain ⟨c37, w⟩ := w
            have c37 : p_nItemOf σ5 (a1) (v4) := by
              rw [pF_nItemOf hF6 rfl]; exact c37
            refine wk_callp tt_153 rfl rfl rfl rfl rfl tt_145 rfl (by decide) (w_nItemOf z σ5 (a1) (v4) ra1 r10 c37) ?_
            rw [vF_nItemOf hF6 rfl]
            have r38 := vr_nItemOf σ  (a1) (v4) ra1 r10 (by have q := c37; rw [pF_nItemOf hF6 rfl] at q; exact q)
            refine wk_call tt_153 rfl rfl rfl rfl rfl tt_129 rfl (by decide) (w_nAdd z σ5 ((v_nItemOf σ (a1) (v4))) _ r38 w) (fun u44 σ40 hq42 => ?_)
            obtain ⟨rfl, hF41, w⟩ := hq42
            have w := w hF41
            exact wk_ls [(0, .inr (.inr (.ref 45))), (1, .inl (a1)), (2, .inl (a2)), (3, .inl (v4))] rfl ⟨rfl, rfl, rfl, rfl, trivial⟩ (jn30 σ40 (sg_F_t (sg_F_r [54, 22045] σ5) (sg_F_m (L := [54, 22045]) hF41 rfl)) w)
    exact wk_ls [(0, .inr (.inr (.ref 45))), (1, .inl (a1)), (2, .inl (a2)), (3, .inl (0))] rfl ⟨rfl, rfl, rfl, rfl, trivial⟩ (lp13 μ8 (0) σ (by decide) (sg_F_r _ _) w14)
  ·
    have w := w.2 h3
    refine wk_b tt_153 3 (pc' := 18) (ls' := [(0, .inr (.inr (.ref 45))), (1, .inl (a1)), (2, .inl (a2))]) (st' := []) (σ' := (sg_w σ 45 10 (3))) rfl ?_
    generalize hs46 : (sg_w σ 45 10 (3)) = σ45
    have w := w σ45 hs46.symm
    have hF47 : sg_F [11045] σ σ45 := by rw [← hs46]; exact sg_F_w (sg_F_r _ _) rfl _
    exact wk_rV tt_153 rfl rfl ⟨rfl, (sg_F_t (sg_F_r [48, 53, 54, 8045, 11045, 21045, 22045, 23045] σ) (sg_F_m (L := [48, 53, 54, 8045, 11045, 21045, 22045, 23045]) hF47 rfl)), w⟩
-- NestedVectors.invert
def V_yInvert (σ : sg_S) (a1 : Int) (Q : Int → sg_S → Prop) : Prop := (∃ (I4 : Nat → Int → sg_S → Prop) (X6 : sg_S → Prop), (∃ n, I4 n (0) σ) ∧ (∀ (n14 : Nat) (v1 : Int) (σ2 : sg_S), sg_R v1 → sg_F [55] σ σ2 → I4 n14 v1 σ2 → ((a1 ≤ v1 → X6 σ2) ∧ (v1 < a1 → ∀ σ41, σ41 = (sx_put σ2 55 200 (v1) ((-1))) → sg_R (v1 + 1) ∧ (∃ m, m < n14 ∧ I4 m ((v1 + 1)) σ41)))) ∧ (∀ (σ2 : sg_S), sg_F [55] σ σ2 → X6 σ2 → (∃ (I19 : Nat → Int → sg_S → Prop) (X21 : sg_S → Prop), (∃ n, I19 n (0) σ2) ∧ (∀ (n29 : Nat) (v16 : Int) (σ17 : sg_S), sg_R v16 → sg_F [55] σ2 σ17 → I19 n29 v16 σ17 → ((a1 ≤ v16 → X21 σ17) ∧ (v16 < a1 → (((sx_at σ 54 200 (v16)) < 0 → Q (0) σ17) ∧ (0 ≤ (sx_at σ 54 200 (v16)) → ((a1 ≤ (sx_at σ 54 200 (v16)) → Q (0) σ17) ∧ ((sx_at σ 54 200 (v16)) < a1 → (((sx_at σ17 55 200 ((sx_at σ 54 200 (v16)))) < 0 → ∀ σ35, σ35 = (sx_put σ17 55 200 ((sx_at σ 54 200 (v16))) (v16)) → sg_R (v16 + 1) ∧ (∃ m, m < n29 ∧ I19 m ((v16 + 1)) σ35)) ∧ (0 ≤ (sx_at σ17 55 200 ((sx_at σ 54 200 (v16)))) → Q (0) σ17))))))))) ∧ (∀ (σ17 : sg_S), sg_F [55] σ2 σ17 → X21 σ17 → Q (1) σ17))))
set_option maxHeartbeats 4000000 in
set_option maxRecDepth 8000 in
theorem w_yInvert (z : Value) (σ : sg_S) (a1 : Int) (Q : Int → sg_S → Prop) (ra1 : sg_R a1) (w : V_yInvert σ a1 Q) : wx z 1 17 0 [(0, .inr (.inr (.ref 54))), (1, .inl (a1)), (2, .inr (.inr (.ref 55)))] [] σ (fun v σ' => ∃ q, v = some (.inl q) ∧ (q = 0 ∨ q = 1) ∧ sg_F [55] σ σ' ∧ Q q σ') := by
  unfold V_yInvert at w
  refine wk_b tt_17 2 (pc' := 2) (ls' := [(3, .inl (0)), (0, .inr (.inr (.ref 54))), (1, .inl (a1)), (2, .inr (.inr (.ref 55)))]) (st' := []) (σ' := σ) rfl ?_
  obtain ⟨I4, X6, ⟨μ5, w11⟩, w12, w13⟩ := w
  have ex15 : ∀ (σ2 : sg_S), sg_F [55] σ σ2 → X6 σ2 → wx z 1 17 19 [(0, .inr (.inr (.ref 54))), (1, .inl (a1)), (2, .inr (.inr (.ref 55)))] [] σ2 (fun v σ' => ∃ q, v = some (.inl q) ∧ (q = 0 ∨ q = 1) ∧ sg_F [55] σ σ' ∧ Q q σ') := by
    intro σ2 hF3 w
    have w := w13 σ2 hF3 w
    refine wk_b tt_17 2 (pc' := 21) (ls' := [(3, .inl (0)), (0, .inr (.inr (.ref 54))), (1, .inl (a1)), (2, .inr (.inr (.ref 55)))]) (st' := []) (σ' := σ2) rfl ?_
    obtain ⟨I19, X21, ⟨μ20, w26⟩, w27, w28⟩ := w
    have ex30 : ∀ (σ17 : sg_S), sg_F [55] σ2 σ17 → X21 σ17 → wx z 1 17 68 [] [] σ17 (fun v σ' => ∃ q, v = some (.inl q) ∧ (q = 0 ∨ q = 1) ∧ sg_F [55] σ σ' ∧ Q q σ') := by
      intro σ17 hF18 w
      have w := w28 σ17 hF18 w
      refine wk_b tt_17 1 (pc' := 69) (ls' := []) (st' := [.inl (1)]) (σ' := σ17) rfl ?_
      exact wk_rZ tt_17 rfl rfl (by decide) ⟨_, rfl, (by decide), (sg_F_t (sg_F_t (sg_F_r [55] σ) (sg_F_m (L := [55]) hF3 rfl)) (sg_F_m (L := [55]) hF18 rfl)), w⟩
    have lp25 : ∀ (n29 : Nat) (v16 : Int) (σ17 : sg_S), sg_R v16 → sg_F [55] σ2 σ17 → I19 n29 v16 σ17 → wx z 1 17 21 [(0, .inr (.inr (.ref 54))), (1, .inl (a1)), (2, .inr (.inr (.ref 55))), (3, .inl (v16))] [] σ17 (fun v σ' => ∃ q, v = some (.inl q) ∧ (q = 0 ∨ q = 1) ∧ sg_F [55] σ σ' ∧ Q q σ') := by
      intro n29
      induction n29 using Nat.strongRecOn with
      | _ n29 ih23 =>
        intro v16 σ17 r22 hF18 w
        have w := w27 n29 v16 σ17 r22 hF18 w
        refine wk_b tt_17 2 (pc' := 23) (ls' := [(0, .inr (.inr (.ref 54))), (1, .inl (a1)), (2, .inr (.inr (.ref 55))), (3, .inl (v16))]) (st' := [.inl (a1), .inl (v16)]) (σ' := σ17) rfl ?_
        refine wk_if2 tt_17 (tgt := 68) rfl rfl r22 ra1 (fun (h31 : a1 ≤ v16) => ?_) (fun (h31 : v16 < a1) => ?_)
        ·
          have w := w.1 h31
          exact wk_ls [] rfl trivial (ex30  σ17  (sg_F_t (sg_F_r [55] σ2) (sg_F_m (L := [55]) hF18 rfl)) w)
        ·
          have w := w.2 h31
          refine wk_b tt_17 2 (pc' := 28) (ls' := [(0, .inr (.inr (.ref 54))), (1, .inl (a1)), (2, .inr (.inr (.ref 55))), (3, .inl (v16))]) (st' := [.inl (v16), .inr (.inr (.ref 54))]) (σ' := σ17) rfl ?_
          refine wk_callp tt_17 rfl rfl rfl rfl rfl tt_5 rfl (by decide) (at_i0 z σ17 54 200 (v16) rfl (by decide) r22) ?_
          show wx z 1 17 31 [(0, .inr (.inr (.ref 54))), (1, .inl (a1)), (2, .inr (.inr (.ref 55))), (3, .inl (v16))] [.inl ((sx_at σ17 54 200 (v16)))] σ17 (fun v σ' => ∃ q, v = some (.inl q) ∧ (q = 0 ∨ q = 1) ∧ sg_F [55] σ σ' ∧ Q q σ')
          rw [sx_F (a := 54) (n := 200) (i := (v16)) hF18 rfl, sx_F (a := 54) (n := 200) (i := (v16)) hF3 rfl]
          refine wk_b tt_17 2 (pc' := 35) (ls' := [(4, .inl ((sx_at σ 54 200 (v16)))), (0, .inr (.inr (.ref 54))), (1, .inl (a1)), (2, .inr (.inr (.ref 55))), (3, .inl (v16))]) (st' := [.inl ((sx_at σ 54 200 (v16)))]) (σ' := σ17) rfl ?_
          refine wk_if tt_17 (tgt := 53) rfl rfl (sx_R ..) (fun (h32 : (sx_at σ 54 200 (v16)) < 0) => ?_) (fun (h32 : 0 ≤ (sx_at σ 54 200 (v16))) => ?_)
          ·
            have w := w.1 h32
            refine wk_b tt_17 1 (pc' := 54) (ls' := [(4, .inl ((sx_at σ 54 200 (v16)))), (0, .inr (.inr (.ref 54))), (1, .inl (a1)), (2, .inr (.inr (.ref 55))), (3, .inl (v16))]) (st' := [.inl (0)]) (σ' := σ17) rfl ?_
            exact wk_rZ tt_17 rfl rfl (by decide) ⟨_, rfl, (by decide), (sg_F_t (sg_F_t (sg_F_r [55] σ) (sg_F_m (L := [55]) hF3 rfl)) (sg_F_m (L := [55]) hF18 rfl)), w⟩
          ·
            have w := w.2 h32
            refine wk_b tt_17 2 (pc' := 41) (ls' := [(4, .inl ((sx_at σ 54 200 (v16)))), (0, .inr (.inr (.ref 54))), (1, .inl (a1)), (2, .inr (.inr (.ref 55))), (3, .inl (v16))]) (st' := [.inl (a1), .inl ((sx_at σ 54 200 (v16)))]) (σ' := σ17) rfl ?_
            refine wk_if2 tt_17 (tgt := 53) rfl rfl (sx_R ..) ra1 (fun (h33 : a1 ≤ (sx_at σ 54 200 (v16))) => ?_) (fun (h33 : (sx_at σ 54 200 (v16)) < a1) => ?_)
            ·
              have w := w.1 h33
              refine wk_b tt_17 1 (pc' := 54) (ls' := [(4, .inl ((sx_at σ 54 200 (v16)))), (0, .inr (.inr (.ref 54))), (1, .inl (a1)), (2, .inr (.inr (.ref 55))), (3, .inl (v16))]) (st' := [.inl (0)]) (σ' := σ17) rfl ?_
              exact wk_rZ tt_17 rfl rfl (by decide) ⟨_, rfl, (by decide), (sg_F_t (sg_F_t (sg_F_r [55] σ) (sg_F_m (L := [55]) hF3 rfl)) (sg_F_m (L := [55]) hF18 rfl)), w⟩
            ·
              have w := w.2 h33
              refine wk_b tt_17 2 (pc' := 47) (ls' := [(4, .inl ((sx_at σ 54 200 (v16)))), (0, .inr (.inr (.ref 54))), (1, .inl (a1)), (2, .inr (.inr (.ref 55))), (3, .inl (v16))]) (st' := [.inl ((sx_at σ 54 200 (v16))), .inr (.inr (.ref 55))]) (σ' := σ17) rfl ?_
              refine wk_callp tt_17 rfl rfl rfl rfl rfl tt_5 rfl (by decide) (at_i0 z σ17 55 200 ((sx_at σ 54 200 (v16))) rfl (by decide) (sx_R ..)) ?_
              show wx z 1 17 50 [(4, .inl ((sx_at σ 54 200 (v16)))), (0, .inr (.inr (.ref 54))), (1, .inl (a1)), (2, .inr (.inr (.ref 55))), (3, .inl (v16))] [.inl ((sx_at σ17 55 200 ((sx_at σ 54 200 (v16)))))] σ17 (fun v σ' => ∃ q, v = some (.inl q) ∧ (q = 0 ∨ q = 1) ∧ sg_F [55] σ σ' ∧ Q q σ')
              refine wk_if tt_17 (tgt := 55) rfl rfl (sx_R ..) (fun (h34 : (sx_at σ17 55 200 ((sx_at σ 54 200 (v16)))) < 0) => ?_) (fun (h34 : 0 ≤ (sx_at σ17 55 200 ((sx_at σ 54 200 (v16))))) => ?_)
              ·
                have w := w.1 h34
                refine wk_b tt_17 3 (pc' := 59) (ls' := [(4, .inl ((sx_at σ 54 200 (v16)))), (0, .inr (.inr (.ref 54))), (1, .inl (a1)), (2, .inr (.inr (.ref 55))), (3, .inl (v16))]) (st' := [.inl (v16), .inl ((sx_at σ 54 200 (v16))), .inr (.inr (.ref 55))]) (σ' := σ17) rfl ?_
                refine wk_callp tt_17 rfl rfl rfl rfl rfl tt_21 rfl (by decide) (pt_i0 z σ17 55 200 ((sx_at σ 54 200 (v16))) (v16) rfl (by decide) (sx_R ..)) ?_
                show wx z 1 17 62 [(4, .inl ((sx_at σ 54 200 (v16)))), (0, .inr (.inr (.ref 54))), (1, .inl (a1)), (2, .inr (.inr (.ref 55))), (3, .inl (v16))] [] (sx_put σ17 55 200 ((sx_at σ 54 200 (v16))) (v16)) (fun v σ' => ∃ q, v = some (.inl q) ∧ (q = 0 ∨ q = 1) ∧ sg_F [55] σ σ' ∧ Q q σ')
                generalize hs36 : (sx_put σ17 55 200 ((sx_at σ 54 200 (v16))) (v16)) = σ35
                have w := w σ35 hs36.symm
                have hF37 : sg_F [55] σ17 σ35 := by rw [← hs36]; exact sg_F_p (sg_F_r _ _) rfl _ _ _
                obtain ⟨c38, w⟩ := w
                refine wk_b tt_17 2 (pc' := 21) (ls' := [(3, .inl ((v16 + 1))), (4, .inl ((sx_at σ 54 200 (v16)))), (0, .inr (.inr (.ref 54))), (1, .inl (a1)), (2, .inr (.inr (.ref 55)))]) (st' := []) (σ' := σ35) rfl ?_
                obtain ⟨m39, hm39, w⟩ := w
                exact wk_ls [(0, .inr (.inr (.ref 54))), (1, .inl (a1)), (2, .inr (.inr (.ref 55))), (3, .inl ((v16 + 1)))] rfl ⟨rfl, rfl, rfl, rfl, trivial⟩ (ih23 m39 hm39 ((v16 + 1)) σ35 c38 (sg_F_t (sg_F_t (sg_F_r [55] σ2) (sg_F_m (L := [55]) hF18 rfl)) (sg_F_m (L := [55]) hF37 rfl)) w)
              ·
                have w := w.2 h34
                refine wk_b tt_17 1 (pc' := 54) (ls' := [(4, .inl ((sx_at σ 54 200 (v16)))), (0, .inr (.inr (.ref 54))), (1, .inl (a1)), (2, .inr (.inr (.ref 55))), (3, .inl (v16))]) (st' := [.inl (0)]) (σ' := σ17) rfl ?_
                exact wk_rZ tt_17 rfl rfl (by decide) ⟨_, rfl, (by decide), (sg_F_t (sg_F_t (sg_F_r [55] σ) (sg_F_m (L := [55]) hF3 rfl)) (sg_F_m (L := [55]) hF18 rfl)), w⟩
    exact wk_ls [(0, .inr (.inr (.ref 54))), (1, .inl (a1)), (2, .inr (.inr (.ref 55))), (3, .inl (0))] rfl ⟨rfl, rfl, rfl, rfl, trivial⟩ (lp25 μ20 (0) σ2 (by decide) (sg_F_r _ _) w26)
  have lp10 : ∀ (n14 : Nat) (v1 : Int) (σ2 : sg_S), sg_R v1 → sg_F [55] σ σ2 → I4 n14 v1 σ2 → wx z 1 17 2 [(0, .inr (.inr (.ref 54))), (1, .inl (a1)), (2, .inr (.inr (.ref 55))), (3, .inl (v1))] [] σ2 (fun v σ' => ∃ q, v = some (.inl q) ∧ (q = 0 ∨ q = 1) ∧ sg_F [55] σ σ' ∧ Q q σ') := by
    intro n14
    induction n14 using Nat.strongRecOn with
    | _ n14 ih8 =>
      intro v1 σ2 r7 hF3 w
      have w := w12 n14 v1 σ2 r7 hF3 w
      refine wk_b tt_17 2 (pc' := 4) (ls' := [(0, .inr (.inr (.ref 54))), (1, .inl (a1)), (2, .inr (.inr (.ref 55))), (3, .inl (v1))]) (st' := [.inl (a1), .inl (v1)]) (σ' := σ2) rfl ?_
      refine wk_if2 tt_17 (tgt := 19) rfl rfl r7 ra1 (fun (h40 : a1 ≤ v1) => ?_) (fun (h40 : v1 < a1) => ?_)
      ·
        have w := w.1 h40
        exact wk_ls [(0, .inr (.inr (.ref 54))), (1, .inl (a1)), (2, .inr (.inr (.ref 55)))] rfl ⟨rfl, rfl, rfl, trivial⟩ (ex15  σ2  (sg_F_t (sg_F_r [55] σ) (sg_F_m (L := [55]) hF3 rfl)) w)
      ·
        have w := w.2 h40
        refine wk_b tt_17 3 (pc' := 10) (ls' := [(0, .inr (.inr (.ref 54))), (1, .inl (a1)), (2, .inr (.inr (.ref 55))), (3, .inl (v1))]) (st' := [.inl ((-1)), .inl (v1), .inr (.inr (.ref 55))]) (σ' := σ2) rfl ?_
        refine wk_callp tt_17 rfl rfl rfl rfl rfl tt_21 rfl (by decide) (pt_i0 z σ2 55 200 (v1) ((-1)) rfl (by decide) r7) ?_
        show wx z 1 17 13 [(0, .inr (.inr (.ref 54))), (1, .inl (a1)), (2, .inr (.inr (.ref 55))), (3, .inl (v1))] [] (sx_put σ2 55 200 (v1) ((-1))) (fun v σ' => ∃ q, v = some (.inl q) ∧ (q = 0 ∨ q = 1) ∧ sg_F [55] σ σ' ∧ Q q σ')
        generalize hs42 : (sx_put σ2 55 200 (v1) ((-1))) = σ41
        have w := w σ41 hs42.symm
        have hF43 : sg_F [55] σ2 σ41 := by rw [← hs42]; exact sg_F_p (sg_F_r _ _) rfl _ _ _
        obtain ⟨c44, w⟩ := w
        refine wk_b tt_17 2 (pc' := 2) (ls' := [(3, .inl ((v1 + 1))), (0, .inr (.inr (.ref 54))), (1, .inl (a1)), (2, .inr (.inr (.ref 55)))]) (st' := []) (σ' := σ41) rfl ?_
        obtain ⟨m45, hm45, w⟩ := w
        exact wk_ls [(0, .inr (.inr (.ref 54))), (1, .inl (a1)), (2, .inr (.inr (.ref 55))), (3, .inl ((v1 + 1)))] rfl ⟨rfl, rfl, rfl, rfl, trivial⟩ (ih8 m45 hm45 ((v1 + 1)) σ41 c44 (sg_F_t (sg_F_t (sg_F_r [55] σ) (sg_F_m (L := [55]) hF3 rfl)) (sg_F_m (L := [55]) hF43 rfl)) w)
  exact wk_ls [(0, .inr (.inr (.ref 54))), (1, .inl (a1)), (2, .inr (.inr (.ref 55))), (3, .inl (0))] rfl ⟨rfl, rfl, rfl, rfl, trivial⟩ (lp10 μ5 (0) σ (by decide) (sg_F_r _ _) w11)
-- NestedVectors$NestedRun.permute
