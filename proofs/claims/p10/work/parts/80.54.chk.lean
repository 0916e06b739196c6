/-! What the methods of Checker ask for (5). -/
-- NestedVectors$Checker.depthOfParts
def V_kDepthOfParts_275 (σ : sg_S) (b3 : Int) (Q : Int → sg_S → Prop) : Prop := ((b3 ≤ 1 → Q ((-1)) σ) ∧ (1 < b3 → sg_R (b3 - 1) ∧ Q ((b3 - 1)) σ))
set_option maxHeartbeats 4000000 in
set_option maxRecDepth 8000 in
theorem w_kDepthOfParts_275 (z : Value) (σ : sg_S) (b3 : Int) (Q : Int → sg_S → Prop) (rb3 : sg_R b3) (w : V_kDepthOfParts_275 σ b3 Q) : wx z 0 36 266 [(3, .inl (b3))] [] σ (fun v σ' => ∃ q, v = some (.inl q) ∧ sg_R q ∧ σ = σ' ∧ Q q σ') := by
  unfold V_kDepthOfParts_275 at w
  refine wk_b tt_36 2 (pc' := 268) (ls' := [(3, .inl (b3))]) (st' := [.inl (1), .inl (b3)]) (σ' := σ) rfl ?_
  refine wk_if2 tt_36 (tgt := 277) rfl rfl rb3 (by decide) (fun (h1 : b3 ≤ 1) => ?_) (fun (h1 : 1 < b3) => ?_)
  ·
    have w := w.1 h1
    refine wk_b tt_36 1 (pc' := 278) (ls' := [(3, .inl (b3))]) (st' := [.inl ((-1))]) (σ' := σ) rfl ?_
    exact wk_rI tt_36 rfl rfl ⟨_, rfl, (by decide), rfl, w⟩
  ·
    have w := w.2 h1
    obtain ⟨c2, w⟩ := w
    refine wk_b tt_36 4 (pc' := 278) (ls' := [(3, .inl (b3))]) (st' := [.inl ((b3 - 1))]) (σ' := σ) rfl ?_
    exact wk_rI tt_36 rfl rfl ⟨_, rfl, c2, rfl, w⟩
-- NestedVectors$Checker.depthOfParts
def V_kDepthOfParts_276 (σ : sg_S) (b3 : Int) (b4 : Int) (Q : Int → sg_S → Prop) : Prop := ((b3 ≤ 0 → Q ((-1)) σ) ∧ (0 < b3 → ((¬ b4 = 1 → Q ((-1)) σ) ∧ (b4 = 1 → Q (b3) σ))))
set_option maxHeartbeats 4000000 in
set_option maxRecDepth 8000 in
theorem w_kDepthOfParts_276 (z : Value) (σ : sg_S) (b3 : Int) (b4 : Int) (Q : Int → sg_S → Prop) (rb3 : sg_R b3) (rb4 : sg_R b4) (w : V_kDepthOfParts_276 σ b3 b4 Q) : wx z 0 36 279 [(3, .inl (b3)), (4, .inl (b4))] [] σ (fun v σ' => ∃ q, v = some (.inl q) ∧ sg_R q ∧ σ = σ' ∧ Q q σ') := by
  unfold V_kDepthOfParts_276 at w
  refine wk_b tt_36 1 (pc' := 280) (ls' := [(3, .inl (b3)), (4, .inl (b4))]) (st' := [.inl (b3)]) (σ' := σ) rfl ?_
  refine wk_if tt_36 (tgt := 293) rfl rfl rb3 (fun (h1 : b3 ≤ 0) => ?_) (fun (h1 : 0 < b3) => ?_)
  ·
    have w := w.1 h1
    refine wk_b tt_36 1 (pc' := 294) (ls' := [(3, .inl (b3)), (4, .inl (b4))]) (st' := [.inl ((-1))]) (σ' := σ) rfl ?_
    exact wk_rI tt_36 rfl rfl ⟨_, rfl, (by decide), rfl, w⟩
  ·
    have w := w.2 h1
    refine wk_b tt_36 2 (pc' := 286) (ls' := [(3, .inl (b3)), (4, .inl (b4))]) (st' := [.inl (1), .inl (b4)]) (σ' := σ) rfl ?_
    refine wk_if2 tt_36 (tgt := 293) rfl rfl rb4 (by decide) (fun (h2 : ¬ b4 = 1) => ?_) (fun (h2 : b4 = 1) => ?_)
    ·
      have w := w.1 h2
      refine wk_b tt_36 1 (pc' := 294) (ls' := [(3, .inl (b3)), (4, .inl (b4))]) (st' := [.inl ((-1))]) (σ' := σ) rfl ?_
      exact wk_rI tt_36 rfl rfl ⟨_, rfl, (by decide), rfl, w⟩
    ·
      have w := w.2 h2
      refine wk_b tt_36 2 (pc' := 294) (ls' := [(3, .inl (b3)), (4, .inl (b4))]) (st' := [.inl (b3)]) (σ' := σ) rfl ?_
      exact wk_rI tt_36 rfl rfl ⟨_, rfl, rb3, rfl, w⟩
-- NestedVectors$Checker.depthOfParts
def V_kDepthOfParts_278 (σ : sg_S) (b3 : Int) (b4 : Int) (Q : Int → sg_S → Prop) : Prop := ((b3 ≤ 0 → Q ((-1)) σ) ∧ (0 < b3 → ((¬ b4 = 1 → Q ((-1)) σ) ∧ (b4 = 1 → sg_R (b3 + 1) ∧ Q ((b3 + 1)) σ))))
set_option maxHeartbeats 4000000 in
set_option maxRecDepth 8000 in
theorem w_kDepthOfParts_278 (z : Value) (σ : sg_S) (b3 : Int) (b4 : Int) (Q : Int → sg_S → Prop) (rb3 : sg_R b3) (rb4 : sg_R b4) (w : V_kDepthOfParts_278 σ b3 b4 Q) : wx z 0 36 295 [(3, .inl (b3)), (4, .inl (b4))] [] σ (fun v σ' => ∃ q, v = some (.inl q) ∧ sg_R q ∧ σ = σ' ∧ Q q σ') := by
  unfold V_kDepthOfParts_278 at w
  refine wk_b tt_36 1 (pc' := 296) (ls' := [(3, .inl (b3)), (4, .inl (b4))]) (st' := [.inl (b3)]) (σ' := σ) rfl ?_
  refine wk_if tt_36 (tgt := 311) rfl rfl rb3 (fun (h1 : b3 ≤ 0) => ?_) (fun (h1 : 0 < b3) => ?_)
  ·
    have w := w.1 h1
    refine wk_b tt_36 1 (pc' := 312) (ls' := [(3, .inl (b3)), (4, .inl (b4))]) (st' := [.inl ((-1))]) (σ' := σ) rfl ?_
    exact wk_rI tt_36 rfl rfl ⟨_, rfl, (by decide), rfl, w⟩
  ·
    have w := w.2 h1
    refine wk_b tt_36 2 (pc' := 302) (ls' := [(3, .inl (b3)), (4, .inl (b4))]) (st' := [.inl (1), .inl (b4)]) (σ' := σ) rfl ?_
    refine wk_if2 tt_36 (tgt := 311) rfl rfl rb4 (by decide) (fun (h2 : ¬ b4 = 1) => ?_) (fun (h2 : b4 = 1) => ?_)
    ·
      have w := w.1 h2
      refine wk_b tt_36 1 (pc' := 312) (ls' := [(3, .inl (b3)), (4, .inl (b4))]) (st' := [.inl ((-1))]) (σ' := σ) rfl ?_
      exact wk_rI tt_36 rfl rfl ⟨_, rfl, (by decide), rfl, w⟩
    ·
      have w := w.2 h2
      obtain ⟨c3, w⟩ := w
      refine wk_b tt_36 4 (pc' := 312) (ls' := [(3, .inl (b3)), (4, .inl (b4))]) (st' := [.inl ((b3 + 1))]) (σ' := σ) rfl ?_
      exact wk_rI tt_36 rfl rfl ⟨_, rfl, c3, rfl, w⟩
-- NestedVectors$Checker.depthOfParts
def V_kDepthOfParts_d (σ : sg_S) (b3 : Int) (b4 : Int) (Q : Int → sg_S → Prop) : Prop := ((¬ b3 = 0 → Q ((-1)) σ) ∧ (b3 = 0 → ((¬ b4 = 0 → Q ((-1)) σ) ∧ (b4 = 0 → Q (0) σ))))
set_option maxHeartbeats 4000000 in
set_option maxRecDepth 8000 in
theorem w_kDepthOfParts_d (z : Value) (σ : sg_S) (b3 : Int) (b4 : Int) (Q : Int → sg_S → Prop) (rb3 : sg_R b3) (rb4 : sg_R b4) (w : V_kDepthOfParts_d σ b3 b4 Q) : wx z 0 36 313 [(3, .inl (b3)), (4, .inl (b4))] [] σ (fun v σ' => ∃ q, v = some (.inl q) ∧ sg_R q ∧ σ = σ' ∧ Q q σ') := by
  unfold V_kDepthOfParts_d at w
  refine wk_b tt_36 1 (pc' := 314) (ls' := [(3, .inl (b3)), (4, .inl (b4))]) (st' := [.inl (b3)]) (σ' := σ) rfl ?_
  refine wk_if tt_36 (tgt := 326) rfl rfl rb3 (fun (h1 : ¬ b3 = 0) => ?_) (fun (h1 : b3 = 0) => ?_)
  ·
    have w := w.1 h1
    refine wk_b tt_36 1 (pc' := 327) (ls' := [(3, .inl (b3)), (4, .inl (b4))]) (st' := [.inl ((-1))]) (σ' := σ) rfl ?_
    exact wk_rI tt_36 rfl rfl ⟨_, rfl, (by decide), rfl, w⟩
  ·
    have w := w.2 h1
    refine wk_b tt_36 1 (pc' := 319) (ls' := [(3, .inl (b3)), (4, .inl (b4))]) (st' := [.inl (b4)]) (σ' := σ) rfl ?_
    refine wk_if tt_36 (tgt := 326) rfl rfl rb4 (fun (h2 : ¬ b4 = 0) => ?_) (fun (h2 : b4 = 0) => ?_)
    ·
      have w := w.1 h2
      refine wk_b tt_36 1 (pc' := 327) (ls' := [(3, .inl (b3)), (4, .inl (b4))]) (st' := [.inl ((-1))]) (σ' := σ) rfl ?_
      exact wk_rI tt_36 rfl rfl ⟨_, rfl, (by decide), rfl, w⟩
    ·
      have w := w.2 h2
      refine wk_b tt_36 2 (pc' := 327) (ls' := [(3, .inl (b3)), (4, .inl (b4))]) (st' := [.inl (0)]) (σ' := σ) rfl ?_
      exact wk_rI tt_36 rfl rfl ⟨_, rfl, (by decide), rfl, w⟩
-- NestedVectors$Checker.depthOfParts
def V_kDepthOfParts (σ : sg_S) (a1 : Int) (a2 : Int) (Q : Int → sg_S → Prop) : Prop := ((a2 = 35 → V_kDepthOfParts_35 σ ((sx_at σ 6 200 ((sx_at σ 7 200 (a1))))) Q) ∧ (¬ a2 = 35 → ((a2 = 91 → V_kDepthOfParts_91 σ ((sx_at σ 6 200 ((sx_at σ 7 200 (a1))))) ((sx_at σ 6 200 ((sx_at σ 8 200 (a1))))) Q) ∧ (¬ a2 = 91 → ((a2 = 267 → V_kDepthOfParts_267 σ ((sx_at σ 6 200 ((sx_at σ 7 200 (a1))))) Q) ∧ (¬ a2 = 267 → ((a2 = 268 → V_kDepthOfParts_268 σ ((sx_at σ 6 200 ((sx_at σ 7 200 (a1))))) ((sx_at σ 6 200 ((sx_at σ 8 200 (a1))))) Q) ∧ (¬ a2 = 268 → ((a2 = 269 → V_kDepthOfParts_269 σ ((sx_at σ 6 200 ((sx_at σ 7 200 (a1))))) Q) ∧ (¬ a2 = 269 → ((a2 = 270 → V_kDepthOfParts_269 σ ((sx_at σ 6 200 ((sx_at σ 7 200 (a1))))) Q) ∧ (¬ a2 = 270 → ((a2 = 271 → V_kDepthOfParts_269 σ ((sx_at σ 6 200 ((sx_at σ 7 200 (a1))))) Q) ∧ (¬ a2 = 271 → ((a2 = 272 → V_kDepthOfParts_272 σ ((sx_at σ 6 200 ((sx_at σ 7 200 (a1))))) Q) ∧ (¬ a2 = 272 → ((a2 = 273 → V_kDepthOfParts_273 σ ((sx_at σ 6 200 ((sx_at σ 7 200 (a1))))) Q) ∧ (¬ a2 = 273 → ((a2 = 274 → V_kDepthOfParts_274 σ ((sx_at σ 6 200 ((sx_at σ 7 200 (a1))))) ((sx_at σ 6 200 ((sx_at σ 8 200 (a1))))) Q) ∧ (¬ a2 = 274 → ((a2 = 275 → V_kDepthOfParts_275 σ ((sx_at σ 6 200 ((sx_at σ 7 200 (a1))))) Q) ∧ (¬ a2 = 275 → ((a2 = 276 → V_kDepthOfParts_276 σ ((sx_at σ 6 200 ((sx_at σ 7 200 (a1))))) ((sx_at σ 6 200 ((sx_at σ 8 200 (a1))))) Q) ∧ (¬ a2 = 276 → ((a2 = 277 → V_kDepthOfParts_276 σ ((sx_at σ 6 200 ((sx_at σ 7 200 (a1))))) ((sx_at σ 6 200 ((sx_at σ 8 200 (a1))))) Q) ∧ (¬ a2 = 277 → ((a2 = 278 → V_kDepthOfParts_278 σ ((sx_at σ 6 200 ((sx_at σ 7 200 (a1))))) ((sx_at σ 6 200 ((sx_at σ 8 200 (a1))))) Q) ∧ (¬ a2 = 278 → V_kDepthOfParts_d σ ((sx_at σ 6 200 ((sx_at σ 7 200 (a1))))) ((sx_at σ 6 200 ((sx_at σ 8 200 (a1))))) Q))))))))))))))))))))))))))))
set_option maxHeartbeats 4000000 in
set_option maxRecDepth 8000 in
theorem w_kDepthOfParts (z : Value) (σ : sg_S) (a1 : Int) (a2 : Int) (Q : Int → sg_S → Prop) (ra1 : sg_R a1) (ra2 : sg_R a2) (w : V_kDepthOfParts σ a1 a2 Q) : wx z 1 36 0 [(0, .inr (.inr (.ref 38))), (1, .inl (a1)), (2, .inl (a2))] [] σ (fun v σ' => ∃ q, v = some (.inl q) ∧ sg_R q ∧ σ = σ' ∧ Q q σ') := by
  unfold V_kDepthOfParts at w
  refine wk_b tt_36 7 (pc' := 15) (ls' := [(0, .inr (.inr (.ref 38))), (1, .inl (a1)), (2, .inl (a2))]) (st' := [.inl (a1), .inr (.inr (.ref 7)), .inr (.inr (.ref 6))]) (σ' := σ) rfl ?_
  refine wk_callp tt_36 rfl rfl rfl rfl rfl tt_5 rfl (by decide) (at_i0 z σ 7 200 (a1) rfl (by decide) ra1) ?_
  show wx z 1 36 18 [(0, .inr (.inr (.ref 38))), (1, .inl (a1)), (2, .inl (a2))] [.inl ((sx_at σ 7 200 (a1))), .inr (.inr (.ref 6))] σ (fun v σ' => ∃ q, v = some (.inl q) ∧ sg_R q ∧ σ = σ' ∧ Q q σ')
  refine wk_callp tt_36 rfl rfl rfl rfl rfl tt_5 rfl (by decide) (at_i0 z σ 6 200 ((sx_at σ 7 200 (a1))) rfl (by decide) (sx_R ..)) ?_
  show wx z 1 36 21 [(0, .inr (.inr (.ref 38))), (1, .inl (a1)), (2, .inl (a2))] [.inl ((sx_at σ 6 200 ((sx_at σ 7 200 (a1)))))] σ (fun v σ' => ∃ q, v = some (.inl q) ∧ sg_R q ∧ σ = σ' ∧ Q q σ')
  refine wk_b tt_36 8 (pc' := 37) (ls' := [(3, .inl ((sx_at σ 6 200 ((sx_at σ 7 200 (a1)))))), (0, .inr (.inr (.ref 38))), (1, .inl (a1)), (2, .inl (a2))]) (st' := [.inl (a1), .inr (.inr (.ref 8)), .inr (.inr (.ref 6))]) (σ' := σ) rfl ?_
  refine wk_callp tt_36 rfl rfl rfl rfl rfl tt_5 rfl (by decide) (at_i0 z σ 8 200 (a1) rfl (by decide) ra1) ?_
  show wx z 1 36 40 [(3, .inl ((sx_at σ 6 200 ((sx_at σ 7 200 (a1)))))), (0, .inr (.inr (.ref 38))), (1, .inl (a1)), (2, .inl (a2))] [.inl ((sx_at σ 8 200 (a1))), .inr (.inr (.ref 6))] σ (fun v σ' => ∃ q, v = some (.inl q) ∧ sg_R q ∧ σ = σ' ∧ Q q σ')
  refine wk_callp tt_36 rfl rfl rfl rfl rfl tt_5 rfl (by decide) (at_i0 z σ 6 200 ((sx_at σ 8 200 (a1))) rfl (by decide) (sx_R ..)) ?_
  show wx z 1 36 43 [(3, .inl ((sx_at σ 6 200 ((sx_at σ 7 200 (a1)))))), (0, .inr (.inr (.ref 38))), (1, .inl (a1)), (2, .inl (a2))] [.inl ((sx_at σ 6 200 ((sx_at σ 8 200 (a1)))))] σ (fun v σ' => ∃ q, v = some (.inl q) ∧ sg_R q ∧ σ = σ' ∧ Q q σ')
  refine wk_b tt_36 2 (pc' := 46) (ls' := [(4, .inl ((sx_at σ 6 200 ((sx_at σ 8 200 (a1)))))), (3, .inl ((sx_at σ 6 200 ((sx_at σ 7 200 (a1)))))), (0, .inr (.inr (.ref 38))), (1, .inl (a1)), (2, .inl (a2))]) (st' := [.inl (a2)]) (σ' := σ) rfl ?_
  by_cases e1 : a2 = 35
  · have w := w.1 e1
    refine wk_lw tt_36 (off := 122) (tgt := 168) rfl (by decide) ra2 (by rw [e1]; decide) rfl ?_
    refine wk_ls [(3, .inl ((sx_at σ 6 200 ((sx_at σ 7 200 (a1))))))] rfl ⟨rfl, trivial⟩ ?_
    exact wk_post (wk_d (by decide) (w_kDepthOfParts_35 z σ ((sx_at σ 6 200 ((sx_at σ 7 200 (a1))))) Q (sx_R ..) w)) (fun v σ' ⟨q, e, r, hF, hQ⟩ => ⟨q, e, r, hF, hQ⟩)
  have w := w.2 e1
  by_cases e3 : a2 = 91
  · have w := w.1 e3
    refine wk_lw tt_36 (off := 132) (tgt := 178) rfl (by decide) ra2 (by rw [e3]; decide) rfl ?_
    refine wk_ls [(3, .inl ((sx_at σ 6 200 ((sx_at σ 7 200 (a1)))))), (4, .inl ((sx_at σ 6 200 ((sx_at σ 8 200 (a1))))))] rfl ⟨rfl, rfl, trivial⟩ ?_
    exact wk_post (wk_d (by decide) (w_kDepthOfParts_91 z σ ((sx_at σ 6 200 ((sx_at σ 7 200 (a1))))) ((sx_at σ 6 200 ((sx_at σ 8 200 (a1))))) Q (sx_R ..) (sx_R ..) w)) (fun v σ' ⟨q, e, r, hF, hQ⟩ => ⟨q, e, r, hF, hQ⟩)
  have w := w.2 e3
  by_cases e5 : a2 = 267
  · have w := w.1 e5
    refine wk_lw tt_36 (off := 149) (tgt := 195) rfl (by decide) ra2 (by rw [e5]; decide) rfl ?_
    refine wk_ls [(3, .inl ((sx_at σ 6 200 ((sx_at σ 7 200 (a1))))))] rfl ⟨rfl, trivial⟩ ?_
    exact wk_post (wk_d (by decide) (w_kDepthOfParts_267 z σ ((sx_at σ 6 200 ((sx_at σ 7 200 (a1))))) Q (sx_R ..) w)) (fun v σ' ⟨q, e, r, hF, hQ⟩ => ⟨q, e, r, hF, hQ⟩)
  have w := w.2 e5
  by_cases e7 : a2 = 268
  · have w := w.1 e7
    refine wk_lw tt_36 (off := 159) (tgt := 205) rfl (by decide) ra2 (by rw [e7]; decide) rfl ?_
    refine wk_ls [(3, .inl ((sx_at σ 6 200 ((sx_at σ 7 200 (a1)))))), (4, .inl ((sx_at σ 6 200 ((sx_at σ 8 200 (a1))))))] rfl ⟨rfl, rfl, trivial⟩ ?_
    exact wk_post (wk_d (by decide) (w_kDepthOfParts_268 z σ ((sx_at σ 6 200 ((sx_at σ 7 200 (a1))))) ((sx_at σ 6 200 ((sx_at σ 8 200 (a1))))) Q (sx_R ..) (sx_R ..) w)) (fun v σ' ⟨q, e, r, hF, hQ⟩ => ⟨q, e, r, hF, hQ⟩)
  have w := w.2 e7
  by_cases e9 : a2 = 269
  · have w := w.1 e9
    refine wk_lw tt_36 (off := 172) (tgt := 218) rfl (by decide) ra2 (by rw [e9]; decide) rfl ?_
    refine wk_ls [(3, .inl ((sx_at σ 6 200 ((sx_at σ 7 200 (a1))))))] rfl ⟨rfl, trivial⟩ ?_
    exact wk_post (wk_d (by decide) (w_kDepthOfParts_269 z σ ((sx_at σ 6 200 ((sx_at σ 7 200 (a1))))) Q (sx_R ..) w)) (fun v σ' ⟨q, e, r, hF, hQ⟩ => ⟨q, e, r, hF, hQ⟩)
  have w := w.2 e9
  by_cases e11 : a2 = 270
  · have w := w.1 e11
    refine wk_lw tt_36 (off := 172) (tgt := 218) rfl (by decide) ra2 (by rw [e11]; decide) rfl ?_
    refine wk_ls [(3, .inl ((sx_at σ 6 200 ((sx_at σ 7 200 (a1))))))] rfl ⟨rfl, trivial⟩ ?_
    exact wk_post (wk_d (by decide) (w_kDepthOfParts_269 z σ ((sx_at σ 6 200 ((sx_at σ 7 200 (a1))))) Q (sx_R ..) w)) (fun v σ' ⟨q, e, r, hF, hQ⟩ => ⟨q, e, r, hF, hQ⟩)
  have w := w.2 e11
  by_cases e13 : a2 = 271
  · have w := w.1 e13
    refine wk_lw tt_36 (off := 172) (tgt := 218) rfl (by decide) ra2 (by rw [e13]; decide) rfl ?_
    refine wk_ls [(3, .inl ((sx_at σ 6 200 ((sx_at σ 7 200 (a1))))))] rfl ⟨rfl, trivial⟩ ?_
    exact wk_post (wk_d (by decide) (w_kDepthOfParts_269 z σ ((sx_at σ 6 200 ((sx_at σ 7 200 (a1))))) Q (sx_R ..) w)) (fun v σ' ⟨q, e, r, hF, hQ⟩ => ⟨q, e, r, hF, hQ⟩)
  have w := w.2 e13
  by_cases e15 : a2 = 272
  · have w := w.1 e15
    refine wk_lw tt_36 (off := 183) (tgt := 229) rfl (by decide) ra2 (by rw [e15]; decide) rfl ?_
    refine wk_ls [(3, .inl ((sx_at σ 6 200 ((sx_at σ 7 200 (a1))))))] rfl ⟨rfl, trivial⟩ ?_
    exact wk_post (wk_d (by decide) (w_kDepthOfParts_272 z σ ((sx_at σ 6 200 ((sx_at σ 7 200 (a1))))) Q (sx_R ..) w)) (fun v σ' ⟨q, e, r, hF, hQ⟩ => ⟨q, e, r, hF, hQ⟩)
  have w := w.2 e15
  by_cases e17 : a2 = 273
  · have w := w.1 e17
    refine wk_lw tt_36 (off := 194) (tgt := 240) rfl (by decide) ra2 (by rw [e17]; decide) rfl ?_
    refine wk_ls [(3, .inl ((sx_at σ 6 200 ((sx_at σ 7 200 (a1))))))] rfl ⟨rfl, trivial⟩ ?_
    exact wk_post (wk_d (by decide) (w_kDepthOfParts_273 z σ ((sx_at σ 6 200 ((sx_at σ 7 200 (a1))))) Q (sx_R ..) w)) (fun v σ' ⟨q, e, r, hF, hQ⟩ => ⟨q, e, r, hF, hQ⟩)
  have w := w.2 e17
  by_cases e19 : a2 = 274
  · have w := w.1 e19
    refine wk_lw tt_36 (off := 204) (tgt := 250) rfl (by decide) ra2 (by rw [e19]; decide) rfl ?_
    refine wk_ls [(3, .inl ((sx_at σ 6 200 ((sx_at σ 7 200 (a1)))))), (4, .inl ((sx_at σ 6 200 ((sx_at σ 8 200 (a1))))))] rfl ⟨rfl, rfl, trivial⟩ ?_
    exact wk_post (wk_d (by decide) (w_kDepthOfParts_274 z σ ((sx_at σ 6 200 ((sx_at σ 7 200 (a1))))) ((sx_at σ 6 200 ((sx_at σ 8 200 (a1))))) Q (sx_R ..) (sx_R ..) w)) (fun v σ' ⟨q, e, r, hF, hQ⟩ => ⟨q, e, r, hF, hQ⟩)
  have w := w.2 e19
  by_cases e21 : a2 = 275
  · have w := w.1 e21
    refine wk_lw tt_36 (off := 220) (tgt := 266) rfl (by decide) ra2 (by rw [e21]; decide) rfl ?_
    refine wk_ls [(3, .inl ((sx_at σ 6 200 ((sx_at σ 7 200 (a1))))))] rfl ⟨rfl, trivial⟩ ?_
    exact wk_post (wk_d (by decide) (w_kDepthOfParts_275 z σ ((sx_at σ 6 200 ((sx_at σ 7 200 (a1))))) Q (sx_R ..) w)) (fun v σ' ⟨q, e, r, hF, hQ⟩ => ⟨q, e, r, hF, hQ⟩)
  have w := w.2 e21
  by_cases e23 : a2 = 276
  · have w := w.1 e23
    refine wk_lw tt_36 (off := 233) (tgt := 279) rfl (by decide) ra2 (by rw [e23]; decide) rfl ?_
    refine wk_ls [(3, .inl ((sx_at σ 6 200 ((sx_at σ 7 200 (a1)))))), (4, .inl ((sx_at σ 6 200 ((sx_at σ 8 200 (a1))))))] rfl ⟨rfl, rfl, trivial⟩ ?_
    exact wk_post (wk_d (by decide) (w_kDepthOfParts_276 z σ ((sx_at σ 6 200 ((sx_at σ 7 200 (a1))))) ((sx_at σ 6 200 ((sx_at σ 8 200 (a1))))) Q (sx_R ..) (sx_R ..) w)) (fun v σ' ⟨q, e, r, hF, hQ⟩ => ⟨q, e, r, hF, hQ⟩)
  have w := w.2 e23
  by_cases e25 : a2 = 277
  · have w := w.1 e25
    refine wk_lw tt_36 (off := 233) (tgt := 279) rfl (by decide) ra2 (by rw [e25]; decide) rfl ?_
    refine wk_ls [(3, .inl ((sx_at σ 6 200 ((sx_at σ 7 200 (a1)))))), (4, .inl ((sx_at σ 6 200 ((sx_at σ 8 200 (a1))))))] rfl ⟨rfl, rfl, trivial⟩ ?_
    exact wk_post (wk_d (by decide) (w_kDepthOfParts_276 z σ ((sx_at σ 6 200 ((sx_at σ 7 200 (a1))))) ((sx_at σ 6 200 ((sx_at σ 8 200 (a1))))) Q (sx_R ..) (sx_R ..) w)) (fun v σ' ⟨q, e, r, hF, hQ⟩ => ⟨q, e, r, hF, hQ⟩)
  have w := w.2 e25
  by_cases e27 : a2 = 278
  · have w := w.1 e27
    refine wk_lw tt_36 (off := 249) (tgt := 295) rfl (by decide) ra2 (by rw [e27]; decide) rfl ?_
    refine wk_ls [(3, .inl ((sx_at σ 6 200 ((sx_at σ 7 200 (a1)))))), (4, .inl ((sx_at σ 6 200 ((sx_at σ 8 200 (a1))))))] rfl ⟨rfl, rfl, trivial⟩ ?_
    exact wk_post (wk_d (by decide) (w_kDepthOfParts_278 z σ ((sx_at σ 6 200 ((sx_at σ 7 200 (a1))))) ((sx_at σ 6 200 ((sx_at σ 8 200 (a1))))) Q (sx_R ..) (sx_R ..) w)) (fun v σ' ⟨q, e, r, hF, hQ⟩ => ⟨q, e, r, hF, hQ⟩)
  have w := w.2 e27
  refine wk_lw tt_36 (off := 267) (tgt := 313) rfl (by decide) ra2 (by simp only [Op.lookupswitch.offset]; rw [if_neg (fun h => e1 h.symm), if_neg (fun h => e3 h.symm), if_neg (fun h => e5 h.symm), if_neg (fun h => e7 h.symm), if_neg (fun h => e9 h.symm), if_neg (fun h => e11 h.symm), if_neg (fun h => e13 h.symm), if_neg (fun h => e15 h.symm), if_neg (fun h => e17 h.symm), if_neg (fun h => e19 h.symm), if_neg (fun h => e21 h.symm), if_neg (fun h => e23 h.symm), if_neg (fun h => e25 h.symm), if_neg (fun h => e27 h.symm)]) rfl ?_
  refine wk_ls [(3, .inl ((sx_at σ 6 200 ((sx_at σ 7 200 (a1)))))), (4, .inl ((sx_at σ 6 200 ((sx_at σ 8 200 (a1))))))] rfl ⟨rfl, rfl, trivial⟩ ?_
  exact wk_post (wk_d (by decide) (w_kDepthOfParts_d z σ ((sx_at σ 6 200 ((sx_at σ 7 200 (a1))))) ((sx_at σ 6 200 ((sx_at σ 8 200 (a1))))) Q (sx_R ..) (sx_R ..) w)) (fun v σ' ⟨q, e, r, hF, hQ⟩ => ⟨q, e, r, hF, hQ⟩)
-- NestedVectors$Checker.depthOf
def V_kDepthOf_d (σ : sg_S) (b1 : Int) (b2 : Int) (Q : Int → sg_S → Prop) : Prop := ((¬ (sx_at σ 10 200 (b1)) = (v_kPartsOf (b2)) → Q ((-1)) σ) ∧ ((sx_at σ 10 200 (b1)) = (v_kPartsOf (b2)) → V_kDepthOfParts σ (b1) (b2) (fun q3 _ => sg_R q3 → Q (q3) σ)))
set_option maxHeartbeats 4000000 in
set_option maxRecDepth 8000 in
theorem w_kDepthOf_d (z : Value) (σ : sg_S) (b1 : Int) (b2 : Int) (Q : Int → sg_S → Prop) (rb1 : sg_R b1) (rb2 : sg_R b2) (w : V_kDepthOf_d σ b1 b2 Q) : wx z 2 32 138 [(0, .inr (.inr (.ref 38))), (1, .inl (b1)), (2, .inl (b2))] [] σ (fun v σ' => ∃ q, v = some (.inl q) ∧ sg_R q ∧ σ = σ' ∧ Q q σ') := by
  unfold V_kDepthOf_d at w
  refine wk_b tt_32 4 (pc' := 146) (ls' := [(0, .inr (.inr (.ref 38))), (1, .inl (b1)), (2, .inl (b2))]) (st' := [.inl (b1), .inr (.inr (.ref 10))]) (σ' := σ) rfl ?_
  refine wk_callp tt_32 rfl rfl rfl rfl rfl tt_5 rfl (by decide) (at_i0 z σ 10 200 (b1) rfl (by decide) rb1) ?_
  show wx z 2 32 149 [(0, .inr (.inr (.ref 38))), (1, .inl (b1)), (2, .inl (b2))] [.inl ((sx_at σ 10 200 (b1)))] σ (fun v σ' => ∃ q, v = some (.inl q) ∧ sg_R q ∧ σ = σ' ∧ Q q σ')
  refine wk_b tt_32 1 (pc' := 150) (ls' := [(0, .inr (.inr (.ref 38))), (1, .inl (b1)), (2, .inl (b2))]) (st' := [.inl (b2), .inl ((sx_at σ 10 200 (b1)))]) (σ' := σ) rfl ?_
  refine wk_callp tt_32 rfl rfl rfl rfl rfl tt_42 rfl (by decide) (w_kPartsOf z σ (b2) rb2 ) ?_
  have r1 := vr_kPartsOf  (b2) rb2 
  refine wk_if2 tt_32 (tgt := 165) rfl rfl (sx_R ..) r1 (fun (h2 : ¬ (sx_at σ 10 200 (b1)) = (v_kPartsOf (b2))) => ?_) (fun (h2 : (sx_at σ 10 200 (b1)) = (v_kPartsOf (b2))) => ?_)
  ·
    have w := w.1 h2
    refine wk_b tt_32 1 (pc' := 166) (ls' := [(0, .inr (.inr (.ref 38))), (1, .inl (b1)), (2, .inl (b2))]) (st' := [.inl ((-1))]) (σ' := σ) rfl ?_
    exact wk_rI tt_32 rfl rfl ⟨_, rfl, (by decide), rfl, w⟩
  ·
    have w := w.2 h2
    refine wk_b tt_32 3 (pc' := 159) (ls' := [(0, .inr (.inr (.ref 38))), (1, .inl (b1)), (2, .inl (b2))]) (st' := [.inl (b2), .inl (b1), .inr (.inr (.ref 38))]) (σ' := σ) rfl ?_
    refine wk_call tt_32 rfl rfl rfl rfl rfl tt_36 rfl (by decide) (w_kDepthOfParts z σ (b1) (b2) _ rb1 rb2 w) (fun u8 σ4 hq6 => ?_)
    obtain ⟨q3, rfl, r7, rfl, w⟩ := hq6
    have w := w r7
    refine wk_b tt_32 1 (pc' := 166) (ls' := [(0, .inr (.inr (.ref 38))), (1, .inl (b1)), (2, .inl (b2))]) (st' := [.inl (q3)]) (σ' := σ) rfl ?_
    exact wk_rI tt_32 rfl rfl ⟨_, rfl, r7, rfl, w⟩
-- NestedVectors$Checker.depthOf
def V_kDepthOf (σ : sg_S) (a1 : Int) (a2 : Int) (Q : Int → sg_S → Prop) : Prop := ((a2 = 123 → V_kDepthOf_123 σ (a1) Q) ∧ (¬ a2 = 123 → ((a2 = 257 → V_kDepthOf_257 σ  Q) ∧ (¬ a2 = 257 → ((a2 = 258 → V_kDepthOf_258 σ (a1) Q) ∧ (¬ a2 = 258 → ((a2 = 262 → V_kDepthOf_262 σ (a1) Q) ∧ (¬ a2 = 262 → ((a2 = 264 → V_kDepthOf_264 σ (a1) Q) ∧ (¬ a2 = 264 → ((a2 = 279 → V_kDepthOf_279 σ (a1) Q) ∧ (¬ a2 = 279 → ((a2 = 280 → V_kDepthOf_280 σ (a1) Q) ∧ (¬ a2 = 280 → V_kDepthOf_d σ (a1) (a2) Q))))))))))))))
set_option maxHeartbeats 4000000 in
set_option maxRecDepth 8000 in
theorem w_kDepthOf (z : Value) (σ : sg_S) (a1 : Int) (a2 : Int) (Q : Int → sg_S → Prop) (ra1 : sg_R a1) (ra2 : sg_R a2) (w : V_kDepthOf σ a1 a2 Q) : wx z 2 32 0 [(0, .inr (.inr (.ref 38))), (1, .inl (a1)), (2, .inl (a2))] [] σ (fun v σ' => ∃ q, v = some (.inl q) ∧ sg_R q ∧ σ = σ' ∧ Q q σ') := by
  unfold V_kDepthOf at w
  refine wk_b tt_32 1 (pc' := 1) (ls' := [(0, .inr (.inr (.ref 38))), (1, .inl (a1)), (2, .inl (a2))]) (st' := [.inl (a2)]) (σ' := σ) rfl ?_
  by_cases e1 : a2 = 123
  · have w := w.1 e1
    refine wk_lw tt_32 (off := 125) (tgt := 126) rfl (by decide) ra2 (by rw [e1]; decide) rfl ?_
    refine wk_ls [(0, .inr (.inr (.ref 38))), (1, .inl (a1))] rfl ⟨rfl, rfl, trivial⟩ ?_
    exact wk_post (wk_d (by decide) (w_kDepthOf_123 z σ (a1) Q ra1 w)) (fun v σ' ⟨q, e, r, hF, hQ⟩ => ⟨q, e, r, hF, hQ⟩)
  have w := w.2 e1
  by_cases e3 : a2 = 257
  · have w := w.1 e3
    refine wk_lw tt_32 (off := 67) (tgt := 68) rfl (by decide) ra2 (by rw [e3]; decide) rfl ?_
    refine wk_ls [] rfl trivial ?_
    exact wk_post (wk_d (by decide) (w_kDepthOf_257 z σ  Q  w)) (fun v σ' ⟨q, e, r, hF, hQ⟩ => ⟨q, e, r, hF, hQ⟩)
  have w := w.2 e3
  by_cases e5 : a2 = 258
  · have w := w.1 e5
    refine wk_lw tt_32 (off := 69) (tgt := 70) rfl (by decide) ra2 (by rw [e5]; decide) rfl ?_
    refine wk_ls [(0, .inr (.inr (.ref 38))), (1, .inl (a1))] rfl ⟨rfl, rfl, trivial⟩ ?_
    exact wk_post (wk_d (by decide) (w_kDepthOf_258 z σ (a1) Q ra1 w)) (fun v σ' ⟨q, e, r, hF, hQ⟩ => ⟨q, e, r, hF, hQ⟩)
  have w := w.2 e5
  by_cases e7 : a2 = 262
  · have w := w.1 e7
    refine wk_lw tt_32 (off := 91) (tgt := 92) rfl (by decide) ra2 (by rw [e7]; decide) rfl ?_
    refine wk_ls [(0, .inr (.inr (.ref 38))), (1, .inl (a1))] rfl ⟨rfl, rfl, trivial⟩ ?_
    exact wk_post (wk_d (by decide) (w_kDepthOf_262 z σ (a1) Q ra1 w)) (fun v σ' ⟨q, e, r, hF, hQ⟩ => ⟨q, e, r, hF, hQ⟩)
  have w := w.2 e7
  by_cases e9 : a2 = 264
  · have w := w.1 e9
    refine wk_lw tt_32 (off := 113) (tgt := 114) rfl (by decide) ra2 (by rw [e9]; decide) rfl ?_
    refine wk_ls [(0, .inr (.inr (.ref 38))), (1, .inl (a1))] rfl ⟨rfl, rfl, trivial⟩ ?_
    exact wk_post (wk_d (by decide) (w_kDepthOf_264 z σ (a1) Q ra1 w)) (fun v σ' ⟨q, e, r, hF, hQ⟩ => ⟨q, e, r, hF, hQ⟩)
  have w := w.2 e9
  by_cases e11 : a2 = 279
  · have w := w.1 e11
    refine wk_lw tt_32 (off := 119) (tgt := 120) rfl (by decide) ra2 (by rw [e11]; decide) rfl ?_
    refine wk_ls [(0, .inr (.inr (.ref 38))), (1, .inl (a1))] rfl ⟨rfl, rfl, trivial⟩ ?_
    exact wk_post (wk_d (by decide) (w_kDepthOf_279 z σ (a1) Q ra1 w)) (fun v σ' ⟨q, e, r, hF, hQ⟩ => ⟨q, e, r, hF, hQ⟩)
  have w := w.2 e11
  by_cases e13 : a2 = 280
  · have w := w.1 e13
    refine wk_lw tt_32 (off := 131) (tgt := 132) rfl (by decide) ra2 (by rw [e13]; decide) rfl ?_
    refine wk_ls [(0, .inr (.inr (.ref 38))), (1, .inl (a1))] rfl ⟨rfl, rfl, trivial⟩ ?_
    exact wk_post (wk_d (by decide) (w_kDepthOf_280 z σ (a1) Q ra1 w)) (fun v σ' ⟨q, e, r, hF, hQ⟩ => ⟨q, e, r, hF, hQ⟩)
  have w := w.2 e13
  refine wk_lw tt_32 (off := 137) (tgt := 138) rfl (by decide) ra2 (by simp only [Op.lookupswitch.offset]; rw [if_neg (fun h => e1 h.symm), if_neg (fun h => e3 h.symm), if_neg (fun h => e5 h.symm), if_neg (fun h => e7 h.symm), if_neg (fun h => e9 h.symm), if_neg (fun h => e11 h.symm), if_neg (fun h => e13 h.symm)]) rfl ?_
  refine wk_ls [(0, .inr (.inr (.ref 38))), (1, .inl (a1)), (2, .inl (a2))] rfl ⟨rfl, rfl, rfl, trivial⟩ ?_
  exact wk_post (wk_d (by decide) (w_kDepthOf_d z σ (a1) (a2) Q ra1 ra2 w)) (fun v σ' ⟨q, e, r, hF, hQ⟩ => ⟨q, e, r, hF, hQ⟩)
-- NestedVectors$Checker.conclude
def V_kConclude_123 (σ : sg_S) (b1 : Int) (Q : sg_S → Prop) : Prop := V_kpAdd σ (12) (b1) (fun σ2 => sg_F [29, 30, 32, 33, 7028] σ σ2 → V_kpAdd σ2 (1) (b1) (fun σ8 => sg_F [29, 30, 32, 33, 7028] σ2 σ8 → Q σ8))
set_option maxHeartbeats 4000000 in
set_option maxRecDepth 8000 in
theorem w_kConclude_123 (z : Value) (σ : sg_S) (b1 : Int) (Q : sg_S → Prop) (rb1 : sg_R b1) (w : V_kConclude_123 σ b1 Q) : wx z 2 30 96 [(0, .inr (.inr (.ref 38))), (1, .inl (b1))] [] σ (fun v σ' => v = none ∧ sg_F [29, 30, 32, 33, 7028] σ σ' ∧ Q σ') := by
  unfold V_kConclude_123 at w
  refine wk_b tt_30 4 (pc' := 103) (ls' := [(0, .inr (.inr (.ref 38))), (1, .inl (b1))]) (st' := [.inl (b1), .inl (12), .inr (.inr (.ref 28))]) (σ' := σ) rfl ?_
  refine wk_call tt_30 rfl rfl rfl rfl rfl tt_193 rfl (by decide) (w_kpAdd z σ (12) (b1) _ (by decide) rb1 w) (fun u6 σ2 hq4 => ?_)
  obtain ⟨rfl, hF3, w⟩ := hq4
  have w := w hF3
  refine wk_b tt_30 4 (pc' := 112) (ls' := [(0, .inr (.inr (.ref 38))), (1, .inl (b1))]) (st' := [.inl (b1), .inl (1), .inr (.inr (.ref 28))]) (σ' := σ2) rfl ?_
  refine wk_call tt_30 rfl rfl rfl rfl rfl tt_193 rfl (by decide) (w_kpAdd z σ2 (1) (b1) _ (by decide) rb1 w) (fun u12 σ8 hq10 => ?_)
  obtain ⟨rfl, hF9, w⟩ := hq10
  have w := w hF9
  refine wk_b tt_30 1 (pc' := 151) (ls' := [(0, .inr (.inr (.ref 38))), (1, .inl (b1))]) (st' := []) (σ' := σ8) rfl ?_
  exact wk_rV tt_30 rfl rfl ⟨rfl, (sg_F_t (sg_F_t (sg_F_r [29, 30, 32, 33, 7028] σ) (sg_F_m (L := [29, 30, 32, 33, 7028]) hF3 rfl)) (sg_F_m (L := [29, 30, 32, 33, 7028]) hF9 rfl)), w⟩
-- NestedVectors$Checker.conclude
def V_kConclude_257 (σ : sg_S) (b1 : Int) (Q : sg_S → Prop) : Prop := V_kpAdd σ (1) (b1) (fun σ2 => sg_F [29, 30, 32, 33, 7028] σ σ2 → Q σ2)
set_option maxHeartbeats 4000000 in
set_option maxRecDepth 8000 in
theorem w_kConclude_257 (z : Value) (σ : sg_S) (b1 : Int) (Q : sg_S → Prop) (rb1 : sg_R b1) (w : V_kConclude_257 σ b1 Q) : wx z 2 30 118 [(0, .inr (.inr (.ref 38))), (1, .inl (b1))] [] σ (fun v σ' => v = none ∧ sg_F [29, 30, 32, 33, 7028] σ σ' ∧ Q σ') := by
  unfold V_kConclude_257 at w
  refine wk_b tt_30 4 (pc' := 124) (ls' := [(0, .inr (.inr (.ref 38))), (1, .inl (b1))]) (st' := [.inl (b1), .inl (1), .inr (.inr (.ref 28))]) (σ' := σ) rfl ?_
  refine wk_call tt_30 rfl rfl rfl rfl rfl tt_193 rfl (by decide) (w_kpAdd z σ (1) (b1) _ (by decide) rb1 w) (fun u6 σ2 hq4 => ?_)
  obtain ⟨rfl, hF3, w⟩ := hq4
  have w := w hF3
  refine wk_b tt_30 1 (pc' := 151) (ls' := [(0, .inr (.inr (.ref 38))), (1, .inl (b1))]) (st' := []) (σ' := σ2) rfl ?_
  exact wk_rV tt_30 rfl rfl ⟨rfl, (sg_F_t (sg_F_r [29, 30, 32, 33, 7028] σ) (sg_F_m (L := [29, 30, 32, 33, 7028]) hF3 rfl)), w⟩
-- NestedVectors$Checker.conclude
def V_kConclude_262 (σ : sg_S) (Q : sg_S → Prop) : Prop := Q σ
set_option maxHeartbeats 4000000 in
set_option maxRecDepth 8000 in
theorem w_kConclude_262 (z : Value) (σ : sg_S) (Q : sg_S → Prop)  (w : V_kConclude_262 σ  Q) : wx z 0 30 68 [] [] σ (fun v σ' => v = none ∧ sg_F [] σ σ' ∧ Q σ') := by
  unfold V_kConclude_262 at w
  refine wk_b tt_30 1 (pc' := 151) (ls' := []) (st' := []) (σ' := σ) rfl ?_
  exact wk_rV tt_30 rfl rfl ⟨rfl, (sg_F_r [] σ), w⟩
-- NestedVectors$Checker.conclude
def V_kConclude_264 (σ : sg_S) (b1 : Int) (Q : sg_S → Prop) : Prop := V_kpAdd σ (9) (b1) (fun σ2 => sg_F [29, 30, 32, 33, 7028] σ σ2 → Q σ2)
set_option maxHeartbeats 4000000 in
set_option maxRecDepth 8000 in
theorem w_kConclude_264 (z : Value) (σ : sg_S) (b1 : Int) (Q : sg_S → Prop) (rb1 : sg_R b1) (w : V_kConclude_264 σ b1 Q) : wx z 2 30 71 [(0, .inr (.inr (.ref 38))), (1, .inl (b1))] [] σ (fun v σ' => v = none ∧ sg_F [29, 30, 32, 33, 7028] σ σ' ∧ Q σ') := by
  unfold V_kConclude_264 at w
  refine wk_b tt_30 4 (pc' := 78) (ls' := [(0, .inr (.inr (.ref 38))), (1, .inl (b1))]) (st' := [.inl (b1), .inl (9), .inr (.inr (.ref 28))]) (σ' := σ) rfl ?_
  refine wk_call tt_30 rfl rfl rfl rfl rfl tt_193 rfl (by decide) (w_kpAdd z σ (9) (b1) _ (by decide) rb1 w) (fun u6 σ2 hq4 => ?_)
  obtain ⟨rfl, hF3, w⟩ := hq4
  have w := w hF3
  refine wk_b tt_30 1 (pc' := 151) (ls' := [(0, .inr (.inr (.ref 38))), (1, .inl (b1))]) (st' := []) (σ' := σ2) rfl ?_
  exact wk_rV tt_30 rfl rfl ⟨rfl, (sg_F_t (sg_F_r [29, 30, 32, 33, 7028] σ) (sg_F_m (L := [29, 30, 32, 33, 7028]) hF3 rfl)), w⟩
-- NestedVectors$Checker.conclude
def V_kConclude_280 (σ : sg_S) (b1 : Int) (Q : sg_S → Prop) : Prop := V_kpAdd σ (5) (b1) (fun σ2 => sg_F [29, 30, 32, 33, 7028] σ σ2 → Q σ2)
set_option maxHeartbeats 4000000 in
set_option maxRecDepth 8000 in
theorem w_kConclude_280 (z : Value) (σ : sg_S) (b1 : Int) (Q : sg_S → Prop) (rb1 : sg_R b1) (w : V_kConclude_280 σ b1 Q) : wx z 2 30 84 [(0, .inr (.inr (.ref 38))), (1, .inl (b1))] [] σ (fun v σ' => v = none ∧ sg_F [29, 30, 32, 33, 7028] σ σ' ∧ Q σ') := by
  unfold V_kConclude_280 at w
  refine wk_b tt_30 4 (pc' := 90) (ls' := [(0, .inr (.inr (.ref 38))), (1, .inl (b1))]) (st' := [.inl (b1), .inl (5), .inr (.inr (.ref 28))]) (σ' := σ) rfl ?_
  refine wk_call tt_30 rfl rfl rfl rfl rfl tt_193 rfl (by decide) (w_kpAdd z σ (5) (b1) _ (by decide) rb1 w) (fun u6 σ2 hq4 => ?_)
  obtain ⟨rfl, hF3, w⟩ := hq4
  have w := w hF3
  refine wk_b tt_30 1 (pc' := 151) (ls' := [(0, .inr (.inr (.ref 38))), (1, .inl (b1))]) (st' := []) (σ' := σ2) rfl ?_
  exact wk_rV tt_30 rfl rfl ⟨rfl, (sg_F_t (sg_F_r [29, 30, 32, 33, 7028] σ) (sg_F_m (L := [29, 30, 32, 33, 7028]) hF3 rfl)), w⟩
-- NestedVectors$Checker.conclude
def V_kConclude_d (σ : sg_S) (b1 : Int) (b2 : Int) (Q : sg_S → Prop) : Prop := ∀ v4 : Int, v4 = (if ¬ (v_kPartsOf (b2)) = 1 then (3 : Int) else (2 : Int)) → sg_R v4 → V_kpAdd σ (v4) (b1) (fun σ8 => sg_F [29, 30, 32, 33, 7028] σ σ8 → Q σ8)
set_option maxHeartbeats 4000000 in
set_option maxRecDepth 8000 in
theorem w_kConclude_d (z : Value) (σ : sg_S) (b1 : Int) (b2 : Int) (Q : sg_S → Prop) (rb1 : sg_R b1) (rb2 : sg_R b2) (w : V_kConclude_d σ b1 b2 Q) : wx z 2 30 130 [(0, .inr (.inr (.ref 38))), (1, .inl (b1)), (2, .inl (b2))] [] σ (fun v σ' => v = none ∧ sg_F [29, 30, 32, 33, 7028] σ σ' ∧ Q σ') := by
  unfold V_kConclude_d at w
  refine wk_b tt_30 3 (pc' := 135) (ls' := [(0, .inr (.inr (.ref 38))), (1, .inl (b1)), (2, .inl (b2))]) (st' := [.inl (b2), .inr (.inr (.ref 28))]) (σ' := σ) rfl ?_
  refine wk_callp tt_30 rfl rfl rfl rfl rfl tt_42 rfl (by decide) (w_kPartsOf z σ (b2) rb2 ) ?_
  have r1 := vr_kPartsOf  (b2) rb2 
  refine wk_b tt_30 1 (pc' := 139) (ls' := [(0, .inr (.inr (.ref 38))), (1, .inl (b1)), (2, .inl (b2))]) (st' := [.inl (1), .inl ((v_kPartsOf (b2))), .inr (.inr (.ref 28))]) (σ' := σ) rfl ?_
  have jn3 : ∀ v4 : Int, v4 = (if ¬ (v_kPartsOf (b2)) = 1 then (3 : Int) else (2 : Int)) → sg_R v4 → wx z 2 30 147 [(1, .inl (b1))] [.inl (v4), .inr (.inr (.ref 28))] σ (fun v σ' => v = none ∧ sg_F [29, 30, 32, 33, 7028] σ σ' ∧ Q σ') := by
    intro v4 e6 r5
    have w := w v4 e6 r5
    refine wk_b tt_30 1 (pc' := 148) (ls' := [(1, .inl (b1))]) (st' := [.inl (b1), .inl (v4), .inr (.inr (.ref 28))]) (σ' := σ) rfl ?_
    refine wk_call tt_30 rfl rfl rfl rfl rfl tt_193 rfl (by decide) (w_kpAdd z σ (v4) (b1) _ r5 rb1 w) (fun u12 σ8 hq10 => ?_)
    obtain ⟨rfl, hF9, w⟩ := hq10
    have w := w hF9
    exact wk_rV tt_30 rfl rfl ⟨rfl, (sg_F_t (sg_F_r [29, 30, 32, 33, 7028] σ) (sg_F_m (L := [29, 30, 32, 33, 7028]) hF9 rfl)), w⟩
  refine wk_if2 tt_30 (tgt := 146) rfl rfl r1 (by decide) (fun (h2 : ¬ (v_kPartsOf (b2)) = 1) => ?_) (fun (h2 : (v_kPartsOf (b2)) = 1) => ?_)
  ·
    clear w
    refine wk_b tt_30 1 (pc' := 147) (ls' := [(0, .inr (.inr (.ref 38))), (1, .inl (b1)), (2, .inl (b2))]) (st' := [.inl (3), .inr (.inr (.ref 28))]) (σ' := σ) rfl ?_
    exact wk_ls [(1, .inl (b1))] rfl ⟨rfl, trivial⟩ (jn3 (3) (by simp only [if_pos h2]) (by decide))
  ·
    clear w
    refine wk_b tt_30 2 (pc' := 147) (ls' := [(0, .inr (.inr (.ref 38))), (1, .inl (b1)), (2, .inl (b2))]) (st' := [.inl (2), .inr (.inr (.ref 28))]) (σ' := σ) rfl ?_
    exact wk_ls [(1, .inl (b1))] rfl ⟨rfl, trivial⟩ (jn3 (2) (by simp only [if_neg (show ¬ (¬ (v_kPartsOf (b2)) = 1) by omega)]) (by decide))
-- NestedVectors$Checker.conclude
def V_kConclude (σ : sg_S) (a1 : Int) (a2 : Int) (Q : sg_S → Prop) : Prop := ((a2 = 123 → V_kConclude_123 σ (a1) Q) ∧ (¬ a2 = 123 → ((a2 = 257 → V_kConclude_257 σ (a1) Q) ∧ (¬ a2 = 257 → ((a2 = 258 → V_kConclude_257 σ (a1) Q) ∧ (¬ a2 = 258 → ((a2 = 262 → V_kConclude_262 σ  Q) ∧ (¬ a2 = 262 → ((a2 = 264 → V_kConclude_264 σ (a1) Q) ∧ (¬ a2 = 264 → ((a2 = 279 → V_kConclude_257 σ (a1) Q) ∧ (¬ a2 = 279 → ((a2 = 280 → V_kConclude_280 σ (a1) Q) ∧ (¬ a2 = 280 → V_kConclude_d σ (a1) (a2) Q))))))))))))))
set_option maxHeartbeats 4000000 in
set_option maxRecDepth 8000 in
theorem w_kConclude (z : Value) (σ : sg_S) (a1 : Int) (a2 : Int) (Q : sg_S → Prop) (ra1 : sg_R a1) (ra2 : sg_R a2) (w : V_kConclude σ a1 a2 Q) : wx z 2 30 0 [(0, .inr (.inr (.ref 38))), (1, .inl (a1)), (2, .inl (a2))] [] σ (fun v σ' => v = none ∧ sg_F [29, 30, 32, 33, 7028] σ σ' ∧ Q σ') := by
  unfold V_kConclude at w
  refine wk_b tt_30 1 (pc' := 1) (ls' := [(0, .inr (.inr (.ref 38))), (1, .inl (a1)), (2, .inl (a2))]) (st' := [.inl (a2)]) (σ' := σ) rfl ?_
  by_cases e1 : a2 = 123
  · have w := w.1 e1
    refine wk_lw tt_30 (off := 95) (tgt := 96) rfl (by decide) ra2 (by rw [e1]; decide) rfl ?_
    refine wk_ls [(0, .inr (.inr (.ref 38))), (1, .inl (a1))] rfl ⟨rfl, rfl, trivial⟩ ?_
    exact wk_post (wk_d (by decide) (w_kConclude_123 z σ (a1) Q ra1 w)) (fun v σ' ⟨e, hF, hQ⟩ => ⟨e, sg_F_t (sg_F_r [29, 30, 32, 33, 7028] σ) (sg_F_m hF rfl), hQ⟩)
  have w := w.2 e1
  by_cases e3 : a2 = 257
  · have w := w.1 e3
    refine wk_lw tt_30 (off := 117) (tgt := 118) rfl (by decide) ra2 (by rw [e3]; decide) rfl ?_
    refine wk_ls [(0, .inr (.inr (.ref 38))), (1, .inl (a1))] rfl ⟨rfl, rfl, trivial⟩ ?_
    exact wk_post (wk_d (by decide) (w_kConclude_257 z σ (a1) Q ra1 w)) (fun v σ' ⟨e, hF, hQ⟩ => ⟨e, sg_F_t (sg_F_r [29, 30, 32, 33, 7028] σ) (sg_F_m hF rfl), hQ⟩)
  have w := w.2 e3
  by_cases e5 : a2 = 258
  · have w := w.1 e5
    refine wk_lw tt_30 (off := 117) (tgt := 118) rfl (by decide) ra2 (by rw [e5]; decide) rfl ?_
    refine wk_ls [(0, .inr (.inr (.ref 38))), (1, .inl (a1))] rfl ⟨rfl, rfl, trivial⟩ ?_
    exact wk_post (wk_d (by decide) (w_kConclude_257 z σ (a1) Q ra1 w)) (fun v σ' ⟨e, hF, hQ⟩ => ⟨e, sg_F_t (sg_F_r [29, 30, 32, 33, 7028] σ) (sg_F_m hF rfl), hQ⟩)
  have w := w.2 e5
  by_cases e7 : a2 = 262
  · have w := w.1 e7
    refine wk_lw tt_30 (off := 67) (tgt := 68) rfl (by decide) ra2 (by rw [e7]; decide) rfl ?_
    refine wk_ls [] rfl trivial ?_
    exact wk_post (wk_d (by decide) (w_kConclude_262 z σ  Q  w)) (fun v σ' ⟨e, hF, hQ⟩ => ⟨e, sg_F_t (sg_F_r [29, 30, 32, 33, 7028] σ) (sg_F_m hF rfl), hQ⟩)
  have w := w.2 e7
  by_cases e9 : a2 = 264
  · have w := w.1 e9
    refine wk_lw tt_30 (off := 70) (tgt := 71) rfl (by decide) ra2 (by rw [e9]; decide) rfl ?_
    refine wk_ls [(0, .inr (.inr (.ref 38))), (1, .inl (a1))] rfl ⟨rfl, rfl, trivial⟩ ?_
    exact wk_post (wk_d (by decide) (w_kConclude_264 z σ (a1) Q ra1 w)) (fun v σ' ⟨e, hF, hQ⟩ => ⟨e, sg_F_t (sg_F_r [29, 30, 32, 33, 7028] σ) (sg_F_m hF rfl), hQ⟩)
  have w := w.2 e9
  by_cases e11 : a2 = 279
  · have w := w.1 e11
    refine wk_lw tt_30 (off := 117) (tgt := 118) rfl (by decide) ra2 (by rw [e11]; decide) rfl ?_
    refine wk_ls [(0, .inr (.inr (.ref 38))), (1, .inl (a1))] rfl ⟨rfl, rfl, trivial⟩ ?_
    exact wk_post (wk_d (by decide) (w_kConclude_257 z σ (a1) Q ra1 w)) (fun v σ' ⟨e, hF, hQ⟩ => ⟨e, sg_F_t (sg_F_r [29, 30, 32, 33, 7028] σ) (sg_F_m hF rfl), hQ⟩)
  have w := w.2 e11
  by_cases e13 : a2 = 280
  · have w := w.1 e13
    refine wk_lw tt_30 (off := 83) (tgt := 84) rfl (by decide) ra2 (by rw [e13]; decide) rfl ?_
    refine wk_ls [(0, .inr (.inr (.ref 38))), (1, .inl (a1))] rfl ⟨rfl, rfl, trivial⟩ ?_
    exact wk_post (wk_d (by decide) (w_kConclude_280 z σ (a1) Q ra1 w)) (fun v σ' ⟨e, hF, hQ⟩ => ⟨e, sg_F_t (sg_F_r [29, 30, 32, 33, 7028] σ) (sg_F_m hF rfl), hQ⟩)
  have w := w.2 e13
  refine wk_lw tt_30 (off := 129) (tgt := 130) rfl (by decide) ra2 (by simp only [Op.lookupswitch.offset]; rw [if_neg (fun h => e1 h.symm), if_neg (fun h => e3 h.symm), if_neg (fun h => e5 h.symm), if_neg (fun h => e7 h.symm), if_neg (fun h => e9 h.symm), if_neg (fun h => e11 h.symm), if_neg (fun h => e13 h.symm)]) rfl ?_
  refine wk_ls [(0, .inr (.inr (.ref 38))), (1, .inl (a1)), (2, .inl (a2))] rfl ⟨rfl, rfl, rfl, trivial⟩ ?_
  exact wk_post (wk_d (by decide) (w_kConclude_d z σ (a1) (a2) Q ra1 ra2 w)) (fun v σ' ⟨e, hF, hQ⟩ => ⟨e, sg_F_t (sg_F_r [29, 30, 32, 33, 7028] σ) (sg_F_m hF rfl), hQ⟩)
-- NestedVectors$Checker.leave
def V_kLeave (σ : sg_S) (a1 : Int) (Q : sg_S → Prop) : Prop := ∀ σ1, σ1 = (sg_w σ 38 9 ((sx_at σ 41 200 (a1)))) → (∃ P6 : sg_S → Prop, (((sx_at σ 3 200 (a1)) = 258 → V_kResolve σ1 (a1) ((sx_at σ 3 200 (a1))) (fun σ46 => sg_F [16, 13038, 14038] σ1 σ46 → P6 σ46)) ∧ (¬ (sx_at σ 3 200 (a1)) = 258 → ((¬ (sx_at σ 3 200 (a1)) = 280 → P6 σ1) ∧ ((sx_at σ 3 200 (a1)) = 280 → V_kResolve σ1 (a1) ((sx_at σ 3 200 (a1))) (fun σ53 => sg_F [16, 13038, 14038] σ1 σ53 → P6 σ53))))) ∧ (∀ (σ7 : sg_S), sg_F [16, 13038, 14038] σ1 σ7 → P6 σ7 → (((sg_g σ7 38 13) = 0 → V_kDepthOf σ7 (a1) ((sx_at σ 3 200 (a1))) (fun q11 _ => sg_R q11 → (∃ P19 : sg_S → Prop, ((q11 < 0 → V_kBlame σ7 (3) ((sx_at σ 4 200 (a1))) (fun σ33 => sg_F [13038, 14038] σ7 σ33 → P19 σ33)) ∧ (0 ≤ q11 → ((q11 ≤ 3 → P19 σ7) ∧ (3 < q11 → V_kBlame σ7 (3) ((sx_at σ 4 200 (a1))) (fun σ40 => sg_F [13038, 14038] σ7 σ40 → P19 σ40))))) ∧ (∀ (σ20 : sg_S), sg_F [13038, 14038] σ7 σ20 → P19 σ20 → ∀ σ23, σ23 = (sx_put σ20 6 200 (a1) (q11)) → V_kConclude σ23 (a1) ((sx_at σ 3 200 (a1))) (fun σ27 => sg_F [29, 30, 32, 33, 7028] σ23 σ27 → Q σ27))))) ∧ (¬ (sg_g σ7 38 13) = 0 → Q σ7))))
set_option maxHeartbeats 4000000 in
set_option maxRecDepth 8000 in
theorem w_kLeave (z : Value) (σ : sg_S) (a1 : Int) (Q : sg_S → Prop) (ra1 : sg_R a1) (w : V_kLeave σ a1 Q) : wx z 3 40 0 [(0, .inr (.inr (.ref 38))), (1, .inl (a1))] [] σ (fun v σ' => v = none ∧ sg_F [6, 16, 29, 30, 32, 33, 7028, 10038, 13038, 14038] σ σ' ∧ Q σ') := by
  unfold V_kLeave at w
  refine wk_b tt_40 4 (pc' := 6) (ls' := [(0, .inr (.inr (.ref 38))), (1, .inl (a1))]) (st' := [.inl (a1), .inr (.inr (.ref 41)), .inr (.inr (.ref 38))]) (σ' := σ) rfl ?_
  refine wk_callp tt_40 rfl rfl rfl rfl rfl tt_5 rfl (by decide) (at_i0 z σ 41 200 (a1) rfl (by decide) ra1) ?_
  show wx z 3 40 9 [(0, .inr (.inr (.ref 38))), (1, .inl (a1))] [.inl ((sx_at σ 41 200 (a1))), .inr (.inr (.ref 38))] σ (fun v σ' => v = none ∧ sg_F [6, 16, 29, 30, 32, 33, 7028, 10038, 13038, 14038] σ σ' ∧ Q σ')
  refine wk_b tt_40 1 (pc' := 12) (ls' := [(0, .inr (.inr (.ref 38))), (1, .inl (a1))]) (st' := []) (σ' := (sg_w σ 38 9 ((sx_at σ 41 200 (a1))))) rfl ?_
  generalize hs2 : (sg_w σ 38 9 ((sx_at σ 41 200 (a1)))) = σ1
  have w := w σ1 hs2.symm
  have hF3 : sg_F [10038] σ σ1 := by rw [← hs2]; exact sg_F_w (sg_F_r _ _) rfl _
  refine wk_b tt_40 4 (pc' := 20) (ls' := [(0, .inr (.inr (.ref 38))), (1, .inl (a1))]) (st' := [.inl (a1), .inr (.inr (.ref 3))]) (σ' := σ1) rfl ?_
  refine wk_callp tt_40 rfl rfl rfl rfl rfl tt_5 rfl (by decide) (at_i0 z σ1 3 200 (a1) rfl (by decide) ra1) ?_
  show wx z 3 40 23 [(0, .inr (.inr (.ref 38))), (1, .inl (a1))] [.inl ((sx_at σ1 3 200 (a1)))] σ1 (fun v σ' => v = none ∧ sg_F [6, 16, 29, 30, 32, 33, 7028, 10038, 13038, 14038] σ σ' ∧ Q σ')
  rw [sx_F (a := 3) (n := 200) (i := (a1)) hF3 rfl]
  refine wk_b tt_40 3 (pc' := 28) (ls' := [(2, .inl ((sx_at σ 3 200 (a1)))), (0, .inr (.inr (.ref 38))), (1, .inl (a1))]) (st' := [.inl (258), .inl ((sx_at σ 3 200 (a1)))]) (σ' := σ1) rfl ?_
  obtain ⟨P6, w, w9⟩ := w
  have jn5 : ∀ (σ7 : sg_S), sg_F [16, 13038, 14038] σ1 σ7 → P6 σ7 → wx z 3 40 44 [(0, .inr (.inr (.ref 38))), (1, .inl (a1)), (2, .inl ((sx_at σ 3 200 (a1))))] [] σ7 (fun v σ' => v = none ∧ sg_F [6, 16, 29, 30, 32, 33, 7028, 10038, 13038, 14038] σ σ' ∧ Q σ') := by
    intro σ7 hF8 w
    have w := w9 σ7 hF8 w
    refine wk_b tt_40 2 (pc' := 48) (ls' := [(0, .inr (.inr (.ref 38))), (1, .inl (a1)), (2, .inl ((sx_at σ 3 200 (a1))))]) (st' := [.inl ((sg_g σ7 38 13))]) (σ' := σ7) rfl ?_
    refine wk_if tt_40 (tgt := 52) rfl rfl (sg_Rg _ _ _) (fun (h10 : (sg_g σ7 38 13) = 0) => ?_) (fun (h10 : ¬ (sg_g σ7 38 13) = 0) => ?_)
    ·
      have w := w.1 h10
      refine wk_b tt_40 3 (pc' := 55) (ls' := [(0, .inr (.inr (.ref 38))), (1, .inl (a1)), (2, .inl ((sx_at σ 3 200 (a1))))]) (st' := [.inl ((sx_at σ 3 200 (a1))), .inl (a1), .inr (.inr (.ref 38))]) (σ' := σ7) rfl ?_
      refine wk_call tt_40 rfl rfl rfl rfl rfl tt_32 rfl (by decide) (w_kDepthOf z σ7 (a1) ((sx_at σ 3 200 (a1))) _ ra1 (sx_R ..) w) (fun u16 σ12 hq14 => ?_)
      obtain ⟨q11, rfl, r15, rfl, w⟩ := hq14
      have w := w r15
      refine wk_b tt_40 2 (pc' := 60) (ls' := [(3, .inl (q11)), (0, .inr (.inr (.ref 38))), (1, .inl (a1)), (2, .inl ((sx_at σ 3 200 (a1))))]) (st' := [.inl (q11)]) (σ' := σ7) rfl ?_
      obtain ⟨P19, w, w22⟩ := w
      have jn18 : ∀ (σ20 : sg_S), sg_F [13038, 14038] σ7 σ20 → P19 σ20 → wx z 3 40 84 [(0, .inr (.inr (.ref 38))), (1, .inl (a1)), (2, .inl ((sx_at σ 3 200 (a1)))), (3, .inl (q11))] [] σ20 (fun v σ' => v = none ∧ sg_F [6, 16, 29, 30, 32, 33, 7028, 10038, 13038, 14038] σ σ' ∧ Q σ') := by
        intro σ20 hF21 w
        have w := w22 σ20 hF21 w
        refine wk_b tt_40 5 (pc' := 93) (ls' := [(0, .inr (.inr (.ref 38))), (1, .inl (a1)), (2, .inl ((sx_at σ 3 200 (a1)))), (3, .inl (q11))]) (st' := [.inl (q11), .inl (a1), .inr (.inr (.ref 6))]) (σ' := σ20) rfl ?_
        refine wk_callp tt_40 rfl rfl rfl rfl rfl tt_21 rfl (by decide) (pt_i0 z σ20 6 200 (a1) (q11) rfl (by decide) ra1) ?_
        show wx z 3 40 96 [(0, .inr (.inr (.ref 38))), (1, .inl (a1)), (2, .inl ((sx_at σ 3 200 (a1)))), (3, .inl (q11))] [] (sx_put σ20 6 200 (a1) (q11)) (fun v σ' => v = none ∧ sg_F [6, 16, 29, 30, 32, 33, 7028, 10038, 13038, 14038] σ σ' ∧ Q σ')
        generalize hs24 : (sx_put σ20 6 200 (a1) (q11)) = σ23
        have w := w σ23 hs24.symm
        have hF25 : sg_F [6] σ20 σ23 := by rw [← hs24]; exact sg_F_p (sg_F_r _ _) rfl _ _ _
        refine wk_b tt_40 3 (pc' := 99) (ls' := [(0, .inr (.inr (.ref 38))), (1, .inl (a1)), (2, .inl ((sx_at σ 3 200 (a1)))), (3, .inl (q11))]) (st' := [.inl ((sx_at σ 3 200 (a1))), .inl (a1), .inr (.inr (.ref 38))]) (σ' := σ23) rfl ?_
        refine wk_call tt_40 rfl rfl rfl rfl rfl tt_30 rfl (by decide) (w_kConclude z σ23 (a1) ((sx_at σ 3 200 (a1))) _ ra1 (sx_R ..) w) (fun u31 σ27 hq29 => ?_)
        obtain ⟨rfl, hF28, w⟩ := hq29
        have w := w hF28
        exact wk_rV tt_40 rfl rfl ⟨rfl, (sg_F_t (sg_F_t (sg_F_t (sg_F_t (sg_F_t (sg_F_r [6, 16, 29, 30, 32, 33, 7028, 10038, 13038, 14038] σ) (sg_F_m (L := [6, 16, 29, 30, 32, 33, 7028, 10038, 13038, 14038]) hF3 rfl)) (sg_F_m (L := [6, 16, 29, 30, 32, 33, 7028, 10038, 13038, 14038]) hF8 rfl)) (sg_F_m (L := [6, 16, 29, 30, 32, 33, 7028, 10038, 13038, 14038]) hF21 rfl)) (sg_F_m (L := [6, 16, 29, 30, 32, 33, 7028, 10038, 13038, 14038]) hF25 rfl)) (sg_F_m (L := [6, 16, 29, 30, 32, 33, 7028, 10038, 13038, 14038]) hF28 rfl)), w⟩
      refine wk_if tt_40 (tgt := 68) rfl rfl r15 (fun (h17 : q11 < 0) => ?_) (fun (h17 : 0 ≤ q11) => ?_)
      ·
        have w := w.1 h17
        refine wk_b tt_40 6 (pc' := 78) (ls' := [(3, .inl (q11)), (0, .inr (.inr (.ref 38))), (1, .inl (a1)), (2, .inl ((sx_at σ 3 200 (a1))))]) (st' := [.inl (a1), .inr (.inr (.ref 4)), .inl (3), .inr (.inr (.ref 38))]) (σ' := σ7) rfl ?_
        refine wk_callp tt_40 rfl rfl rfl rfl rfl tt_5 rfl (by decide) (at_i0 z σ7 4 200 (a1) rfl (by decide) ra1) ?_
        show wx z 3 40 81 [(3, .inl (q11)), (0, .inr (.inr (.ref 38))), (1, .inl (a1)), (2, .inl ((sx_at σ 3 200 (a1))))] [.inl ((sx_at σ7 4 200 (a1))), .inl (3), .inr (.inr (.ref 38))] σ7 (fun v σ' => v = none ∧ sg_F [6, 16, 29, 30, 32, 33, 7028, 10038, 13038, 14038] σ σ' ∧ Q σ')
        rw [sx_F (a := 4) (n := 200) (i := (a1)) hF8 rfl, sx_F (a := 4) (n := 200) (i := (a1)) hF3 rfl]
        refine wk_call tt_40 rfl rfl rfl rfl rfl tt_28 rfl (by decide) (w_kBlame z σ7 (3) ((sx_at σ 4 200 (a1))) _ (by decide) (sx_R ..) w) (fun u37 σ33 hq35 => ?_)
        obtain ⟨rfl, hF34, w⟩ := hq35
        have w := w hF34
        exact wk_ls [(0, .inr (.inr (.ref 38))), (1, .inl (a1)), (2, .inl ((sx_at σ 3 200 (a1)))), (3, .inl (q11))] rfl ⟨rfl, rfl, rfl, rfl, trivial⟩ (jn18 σ33 (sg_F_t (sg_F_r [13038, 14038] σ7) (sg_F_m (L := [13038, 14038]) hF34 rfl)) w)
      ·
        have w := w.2 h17
        refine wk_b tt_40 2 (pc' := 65) (ls' := [(3, .inl (q11)), (0, .inr (.inr (.ref 38))), (1, .inl (a1)), (2, .inl ((sx_at σ 3 200 (a1))))]) (st' := [.inl (3), .inl (q11)]) (σ' := σ7) rfl ?_
        refine wk_if2 tt_40 (tgt := 84) rfl rfl r15 (by decide) (fun (h38 : q11 ≤ 3) => ?_) (fun (h38 : 3 < q11) => ?_)
        ·
          have w := w.1 h38
          exact wk_ls [(0, .inr (.inr (.ref 38))), (1, .inl (a1)), (2, .inl ((sx_at σ 3 200 (a1)))), (3, .inl (q11))] rfl ⟨rfl, rfl, rfl, rfl, trivial⟩ (jn18 σ7 (sg_F_r [13038, 14038] σ7) w)
        ·
          have w := w.2 h38
          refine wk_b tt_40 6 (pc' := 78) (ls' := [(3, .inl (q11)), (0, .inr (.inr (.ref 38))), (1, .inl (a1)), (2, .inl ((sx_at σ 3 200 (a1))))]) (st' := [.inl (a1), .inr (.inr (.ref 4)), .inl (3), .inr (.inr (.ref 38))]) (σ' := σ7) rfl ?_
          refine wk_callp tt_40 rfl rfl rfl rfl rfl tt_5 rfl (by decide) (at_i0 z σ7 4 200 (a1) rfl (by decide) ra1) ?_
          show wx z 3 40 81 [(3, .inl (q11)), (0, .inr (.inr (.ref 38))), (1, .inl (a1)), (2, .inl ((sx_at σ 3 200 (a1))))] [.inl ((sx_at σ7 4 200 (a1))), .inl (3), .inr (.inr (.ref 38))] σ7 (fun v σ' => v = none ∧ sg_F [6, 16, 29, 30, 32, 33, 7028, 10038, 13038, 14038] σ σ' ∧ Q σ')
          rw [sx_F (a := 4) (n := 200) (i := (a1)) hF8 rfl, sx_F (a := 4) (n := 200) (i := (a1)) hF3 rfl]
          refine wk_call tt_40 rfl rfl rfl rfl rfl tt_28 rfl (by decide) (w_kBlame z σ7 (3) ((sx_at σ 4 200 (a1))) _ (by decide) (sx_R ..) w) (fun u44 σ40 hq42 => ?_)
          obtain ⟨rfl, hF41, w⟩ := hq42
          have w := w hF41
          exact wk_ls [(0, .inr (.inr (.ref 38))), (1, .inl (a1)), (2, .inl ((sx_at σ 3 200 (a1)))), (3, .inl (q11))] rfl ⟨rfl, rfl, rfl, rfl, trivial⟩ (jn18 σ40 (sg_F_t (sg_F_r [13038, 14038] σ7) (sg_F_m (L := [13038, 14038]) hF41 rfl)) w)
    ·
      have w := w.2 h10
      exact wk_rV tt_40 rfl rfl ⟨rfl, (sg_F_t (sg_F_t (sg_F_r [6, 16, 29, 30, 32, 33, 7028, 10038, 13038, 14038] σ) (sg_F_m (L := [6, 16, 29, 30, 32, 33, 7028, 10038, 13038, 14038]) hF3 rfl)) (sg_F_m (L := [6, 16, 29, 30, 32, 33, 7028, 10038, 13038, 14038]) hF8 rfl)), w⟩
  refine wk_if2 tt_40 (tgt := 38) rfl rfl (sx_R ..) (by decide) (fun (h4 : (sx_at σ 3 200 (a1)) = 258) => ?_) (fun (h4 : ¬ (sx_at σ 3 200 (a1)) = 258) => ?_)
  ·
    have w := w.1 h4
    refine wk_b tt_40 3 (pc' := 41) (ls' := [(2, .inl ((sx_at σ 3 200 (a1)))), (0, .inr (.inr (.ref 38))), (1, .inl (a1))]) (st' := [.inl ((sx_at σ 3 200 (a1))), .inl (a1), .inr (.inr (.ref 38))]) (σ' := σ1) rfl ?_
    refine wk_call tt_40 rfl rfl rfl rfl rfl tt_43 rfl (by decide) (w_kResolve z σ1 (a1) ((sx_at σ 3 200 (a1))) _ ra1 (sx_R ..) w) (fun u50 σ46 hq48 => ?_)
    obtain ⟨rfl, hF47, w⟩ := hq48
    have w := w hF47
    exact wk_ls [(0, .inr (.inr (.ref 38))), (1, .inl (a1)), (2, .inl ((sx_at σ 3 200 (a1))))] rfl ⟨rfl, rfl, rfl, trivial⟩ (jn5 σ46 (sg_F_t (sg_F_r [16, 13038, 14038] σ1) (sg_F_m (L := [16, 13038, 14038]) hF47 rfl)) w)
  ·
    have w := w.2 h4
    refine wk_b tt_40 2 (pc' := 35) (ls' := [(2, .inl ((sx_at σ 3 200 (a1)))), (0, .inr (.inr (.ref 38))), (1, .inl (a1))]) (st' := [.inl (280), .inl ((sx_at σ 3 200 (a1)))]) (σ' := σ1) rfl ?_
    refine wk_if2 tt_40 (tgt := 44) rfl rfl (sx_R ..) (by decide) (fun (h51 : ¬ (sx_at σ 3 200 (a1)) = 280) => ?_) (fun (h51 : (sx_at σ 3 200 (a1)) = 280) => ?_)
    ·
      have w := w.1 h51
      exact wk_ls [(0, .inr (.inr (.ref 38))), (1, .inl (a1)), (2, .inl ((sx_at σ 3 200 (a1))))] rfl ⟨rfl, rfl, rfl, trivial⟩ (jn5 σ1 (sg_F_r [16, 13038, 14038] σ1) w)
    ·
      have w := w.2 h51
      refine wk_b tt_40 3 (pc' := 41) (ls' := [(2, .inl ((sx_at σ 3 200 (a1)))), (0, .inr (.inr (.ref 38))), (1, .inl (a1))]) (st' := [.inl ((sx_at σ 3 200 (a1))), .inl (a1), .inr (.inr (.ref 38))]) (σ' := σ1) rfl ?_
      refine wk_call tt_40 rfl rfl rfl rfl rfl tt_43 rfl (by decide) (w_kResolve z σ1 (a1) ((sx_at σ 3 200 (a1))) _ ra1 (sx_R ..) w) (fun u57 σ53 hq55 => ?_)
      obtain ⟨rfl, hF54, w⟩ := hq55
      have w := w hF54
      exact wk_ls [(0, .inr (.inr (.ref 38))), (1, .inl (a1)), (2, .inl ((sx_at σ 3 200 (a1))))] rfl ⟨rfl, rfl, rfl, trivial⟩ (jn5 σ53 (sg_F_t (sg_F_r [16, 13038, 14038] σ1) (sg_F_m (L := [16, 13038, 14038]) hF54 rfl)) w)
/-! What the methods of Checker ask for (6). -/
-- NestedVectors$Checker.walk
def V_kWalk (σ : sg_S) (a1 : Int) (a2 : Int) (Q : sg_S → Prop) : Prop := ∀ σ1, σ1 = (sx_put σ 31 13 (a1) ((sg_g σ 28 6))) → ∀ σ4, σ4 = (sx_put σ1 42 200 (a2) ((-1))) → V_kEnter σ4 (a2) (fun σ8 => sg_F [16, 29, 30, 32, 33, 41, 43, 44, 7028] σ4 σ8 → (∃ (I17 : Nat → Int → Int → sg_S → Prop) (X19 : sg_S → Prop), (∃ n, I17 n (a2) (0) σ8) ∧ (∀ (n28 : Nat) (v13 : Int) (v14 : Int) (σ15 : sg_S), sg_R v13 → sg_R v14 → sg_F [6, 16, 29, 30, 32, 33, 34, 39, 40, 41, 42, 43, 44, 7028, 10038, 11038, 13038, 14038] σ8 σ15 → I17 n28 v13 v14 σ15 → ((400 < v14 → X19 σ15) ∧ (v14 ≤ 400 → ((v13 < 0 → X19 σ15) ∧ (0 ≤ v13 → ((¬ (sg_g σ15 38 13) = 0 → X19 σ15) ∧ ((sg_g σ15 38 13) = 0 → (∃ P41 : Int → sg_S → Prop, (((sx_at σ15 44 200 (v13)) < (sx_at σ 10 200 (v13)) → V_kAhead σ15 (v13) ((sx_at σ15 44 200 (v13))) (fun σ50 => sg_F [16, 29, 30, 32, 33, 34, 39, 40, 7028, 10038, 11038, 13038, 14038] σ15 σ50 → sg_R ((sx_at σ15 44 200 (v13)) + 1) ∧ ∀ σ56, σ56 = (sx_put σ50 44 200 (v13) (((sx_at σ15 44 200 (v13)) + 1))) → ∀ σ59, σ59 = (sx_put σ56 43 200 (v13) ((sx_at σ 9 200 ((sx_at σ15 43 200 (v13)))))) → ∀ σ62, σ62 = (sx_put σ59 42 200 ((sx_at σ15 43 200 (v13))) (v13)) → V_kEnter σ62 ((sx_at σ15 43 200 (v13))) (fun σ66 => sg_F [16, 29, 30, 32, 33, 41, 43, 44, 7028] σ62 σ66 → P41 ((sx_at σ15 43 200 (v13))) σ66))) ∧ ((sx_at σ 10 200 (v13)) ≤ (sx_at σ15 44 200 (v13)) → V_kLeave σ15 (v13) (fun σ72 => sg_F [6, 16, 29, 30, 32, 33, 7028, 10038, 13038, 14038] σ15 σ72 → P41 ((sx_at σ15 42 200 (v13))) σ72))) ∧ (∀ (v44 : Int) (σ42 : sg_S), sg_R v44 → sg_F [6, 16, 29, 30, 32, 33, 34, 39, 40, 41, 42, 43, 44, 7028, 10038, 11038, 13038, 14038] σ15 σ42 → P41 v44 σ42 → sg_R (v14 + 1) ∧ (∃ m, m < n28 ∧ I17 m (v44) ((v14 + 1)) σ42)))))))))) ∧ (∀ (σ15 : sg_S), sg_F [6, 16, 29, 30, 32, 33, 34, 39, 40, 41, 42, 43, 44, 7028, 10038, 11038, 13038, 14038] σ8 σ15 → X19 σ15 → V_kpAdd σ15 (6) (a1) (fun σ31 => sg_F [29, 30, 32, 33, 7028] σ15 σ31 → Q σ31))))
set_option maxHeartbeats 4000000 in
set_option maxRecDepth 8000 in
theorem w_kWalk (z : Value) (σ : sg_S) (a1 : Int) (a2 : Int) (Q : sg_S → Prop) (ra1 : sg_R a1) (ra2 : sg_R a2) (w : V_kWalk σ a1 a2 Q) : wx z 4 44 0 [(0, .inr (.inr (.ref 38))), (1, .inl (a1)), (2, .inl (a2))] [] σ (fun v σ' => v = none ∧ sg_F [6, 16, 29, 30, 31, 32, 33, 34, 39, 40, 41, 42, 43, 44, 7028, 10038, 11038, 13038, 14038] σ σ' ∧ Q σ') := by
  unfold V_kWalk at w
  refine wk_b tt_44 9 (pc' := 17) (ls' := [(3, .inl (a2)), (0, .inr (.inr (.ref 38))), (1, .inl (a1)), (2, .inl (a2))]) (st' := [.inl ((sg_g σ 28 6)), .inl (a1), .inr (.inr (.ref 31))]) (σ' := σ) rfl ?_
  refine wk_callp tt_44 rfl rfl rfl rfl rfl tt_21 rfl (by decide) (pt_i0 z σ 31 13 (a1) ((sg_g σ 28 6)) rfl (by decide) ra1) ?_
  show wx z 4 44 20 [(3, .inl (a2)), (0, .inr (.inr (.ref 38))), (1, .inl (a1)), (2, .inl (a2))] [] (sx_put σ 31 13 (a1) ((sg_g σ 28 6))) (fun v σ' => v = none ∧ sg_F [6, 16, 29, 30, 31, 32, 33, 34, 39, 40, 41, 42, 43, 44, 7028, 10038, 11038, 13038, 14038] σ σ' ∧ Q σ')
  generalize hs2 : (sx_put σ 31 13 (a1) ((sg_g σ 28 6))) = σ1
  have w := w σ1 hs2.symm
  have hF3 : sg_F [31] σ σ1 := by rw [← hs2]; exact sg_F_p (sg_F_r _ _) rfl _ _ _
  refine wk_b tt_44 4 (pc' := 26) (ls' := [(3, .inl (a2)), (0, .inr (.inr (.ref 38))), (1, .inl (a1)), (2, .inl (a2))]) (st' := [.inl ((-1)), .inl (a2), .inr (.inr (.ref 42))]) (σ' := σ1) rfl ?_
  refine wk_callp tt_44 rfl rfl rfl rfl rfl tt_21 rfl (by decide) (pt_i0 z σ1 42 200 (a2) ((-1)) rfl (by decide) ra2) ?_
  show wx z 4 44 29 [(3, .inl (a2)), (0, .inr (.inr (.ref 38))), (1, .inl (a1)), (2, .inl (a2))] [] (sx_put σ1 42 200 (a2) ((-1))) (fun v σ' => v = none ∧ sg_F [6, 16, 29, 30, 31, 32, 33, 34, 39, 40, 41, 42, 43, 44, 7028, 10038, 11038, 13038, 14038] σ σ' ∧ Q σ')
  generalize hs5 : (sx_put σ1 42 200 (a2) ((-1))) = σ4
  have w := w σ4 hs5.symm
  have hF6 : sg_F [42] σ1 σ4 := by rw [← hs5]; exact sg_F_p (sg_F_r _ _) rfl _ _ _
  refine wk_b tt_44 2 (pc' := 31) (ls' := [(3, .inl (a2)), (0, .inr (.inr (.ref 38))), (1, .inl (a1)), (2, .inl (a2))]) (st' := [.inl (a2), .inr (.inr (.ref 38))]) (σ' := σ4) rfl ?_
  refine wk_call tt_44 rfl rfl rfl rfl rfl tt_38 rfl (by decide) (w_kEnter z σ4 (a2) _ ra2 w) (fun u12 σ8 hq10 => ?_)
  obtain ⟨rfl, hF9, w⟩ := hq10
  have w := w hF9
  refine wk_b tt_44 2 (pc' := 37) (ls' := [(4, .inl (0)), (3, .inl (a2)), (0, .inr (.inr (.ref 38))), (1, .inl (a1)), (2, .inl (a2))]) (st' := []) (σ' := σ8) rfl ?_
  obtain ⟨I17, X19, ⟨μ18, w25⟩, w26, w27⟩ := w
  have ex29 : ∀ (σ15 : sg_S), sg_F [6, 16, 29, 30, 32, 33, 34, 39, 40, 41, 42, 43, 44, 7028, 10038, 11038, 13038, 14038] σ8 σ15 → X19 σ15 → wx z 4 44 181 [(0, .inr (.inr (.ref 38))), (1, .inl (a1))] [] σ15 (fun v σ' => v = none ∧ sg_F [6, 16, 29, 30, 31, 32, 33, 34, 39, 40, 41, 42, 43, 44, 7028, 10038, 11038, 13038, 14038] σ σ' ∧ Q σ') := by
    intro σ15 hF16 w
    have w := w27 σ15 hF16 w
    refine wk_b tt_44 4 (pc' := 188) (ls' := [(0, .inr (.inr (.ref 38))), (1, .inl (a1))]) (st' := [.inl (a1), .inl (6), .inr (.inr (.ref 28))]) (σ' := σ15) rfl ?_
    refine wk_call tt_44 rfl rfl rfl rfl rfl tt_193 rfl (by decide) (w_kpAdd z σ15 (6) (a1) _ (by decide) ra1 w) (fun u35 σ31 hq33 => ?_)
    obtain ⟨rfl, hF32, w⟩ := hq33
    have w := w hF32
    exact wk_rV tt_44 rfl rfl ⟨rfl, (sg_F_t (sg_F_t (sg_F_t (sg_F_t (sg_F_t (sg_F_r [6, 16, 29, 30, 31, 32, 33, 34, 39, 40, 41, 42, 43, 44, 7028, 10038, 11038, 13038, 14038] σ) (sg_F_m (L := [6, 16, 29, 30, 31, 32, 33, 34, 39, 40, 41, 42, 43, 44, 7028, 10038, 11038, 13038, 14038]) hF3 rfl)) (sg_F_m (L := [6, 16, 29, 30, 31, 32, 33, 34, 39, 40, 41, 42, 43, 44, 7028, 10038, 11038, 13038, 14038]) hF6 rfl)) (sg_F_m (L := [6, 16, 29, 30, 31, 32, 33, 34, 39, 40, 41, 42, 43, 44, 7028, 10038, 11038, 13038, 14038]) hF9 rfl)) (sg_F_m (L := [6, 16, 29, 30, 31, 32, 33, 34, 39, 40, 41, 42, 43, 44, 7028, 10038, 11038, 13038, 14038]) hF16 rfl)) (sg_F_m (L := [6, 16, 29, 30, 31, 32, 33, 34, 39, 40, 41, 42, 43, 44, 7028, 10038, 11038, 13038, 14038]) hF32 rfl)), w⟩
  have lp24 : ∀ (n28 : Nat) (v13 : Int) (v14 : Int) (σ15 : sg_S), sg_R v13 → sg_R v14 → sg_F [6, 16, 29, 30, 32, 33, 34, 39, 40, 41, 42, 43, 44, 7028, 10038, 11038, 13038, 14038] σ8 σ15 → I17 n28 v13 v14 σ15 → wx z 4 44 37 [(0, .inr (.inr (.ref 38))), (1, .inl (a1)), (3, .inl (v13)), (4, .inl (v14))] [] σ15 (fun v σ' => v = none ∧ sg_F [6, 16, 29, 30, 31, 32, 33, 34, 39, 40, 41, 42, 43, 44, 7028, 10038, 11038, 13038, 14038] σ σ' ∧ Q σ') := by
    intro n28
    induction n28 using Nat.strongRecOn with
    | _ n28 ih22 =>
      intro v13 v14 σ15 r20 r21 hF16 w
      have w := w26 n28 v13 v14 σ15 r20 r21 hF16 w
      refine wk_b tt_44 2 (pc' := 42) (ls' := [(0, .inr (.inr (.ref 38))), (1, .inl (a1)), (3, .inl (v13)), (4, .inl (v14))]) (st' := [.inl (400), .inl (v14)]) (σ' := σ15) rfl ?_
      refine wk_if2 tt_44 (tgt := 181) rfl rfl r21 (by decide) (fun (h36 : 400 < v14) => ?_) (fun (h36 : v14 ≤ 400) => ?_)
      ·
        have w := w.1 h36
        exact wk_ls [(0, .inr (.inr (.ref 38))), (1, .inl (a1))] rfl ⟨rfl, rfl, trivial⟩ (ex29  σ15  (sg_F_t (sg_F_r [6, 16, 29, 30, 32, 33, 34, 39, 40, 41, 42, 43, 44, 7028, 10038, 11038, 13038, 14038] σ8) (sg_F_m (L := [6, 16, 29, 30, 32, 33, 34, 39, 40, 41, 42, 43, 44, 7028, 10038, 11038, 13038, 14038]) hF16 rfl)) w)
      ·
        have w := w.2 h36
        refine wk_b tt_44 1 (pc' := 46) (ls' := [(0, .inr (.inr (.ref 38))), (1, .inl (a1)), (3, .inl (v13)), (4, .inl (v14))]) (st' := [.inl (v13)]) (σ' := σ15) rfl ?_
        refine wk_if tt_44 (tgt := 181) rfl rfl r20 (fun (h37 : v13 < 0) => ?_) (fun (h37 : 0 ≤ v13) => ?_)
        ·
          have w := w.1 h37
          exact wk_ls [(0, .inr (.inr (.ref 38))), (1, .inl (a1))] rfl ⟨rfl, rfl, trivial⟩ (ex29  σ15  (sg_F_t (sg_F_r [6, 16, 29, 30, 32, 33, 34, 39, 40, 41, 42, 43, 44, 7028, 10038, 11038, 13038, 14038] σ8) (sg_F_m (L := [6, 16, 29, 30, 32, 33, 34, 39, 40, 41, 42, 43, 44, 7028, 10038, 11038, 13038, 14038]) hF16 rfl)) w)
        ·
          have w := w.2 h37
          refine wk_b tt_44 2 (pc' := 53) (ls' := [(0, .inr (.inr (.ref 38))), (1, .inl (a1)), (3, .inl (v13)), (4, .inl (v14))]) (st' := [.inl ((sg_g σ15 38 13))]) (σ' := σ15) rfl ?_
          refine wk_if tt_44 (tgt := 181) rfl rfl (sg_Rg _ _ _) (fun (h38 : ¬ (sg_g σ15 38 13) = 0) => ?_) (fun (h38 : (sg_g σ15 38 13) = 0) => ?_)
          ·
            have w := w.1 h38
            exact wk_ls [(0, .inr (.inr (.ref 38))), (1, .inl (a1))] rfl ⟨rfl, rfl, trivial⟩ (ex29  σ15  (sg_F_t (sg_F_r [6, 16, 29, 30, 32, 33, 34, 39, 40, 41, 42, 43, 44, 7028, 10038, 11038, 13038, 14038] σ8) (sg_F_m (L := [6, 16, 29, 30, 32, 33, 34, 39, 40, 41, 42, 43, 44, 7028, 10038, 11038, 13038, 14038]) hF16 rfl)) w)
          ·
            have w := w.2 h38
            refine wk_b tt_44 3 (pc' := 61) (ls' := [(0, .inr (.inr (.ref 38))), (1, .inl (a1)), (3, .inl (v13)), (4, .inl (v14))]) (st' := [.inl (v13), .inr (.inr (.ref 43))]) (σ' := σ15) rfl ?_
            refine wk_callp tt_44 rfl rfl rfl rfl rfl tt_5 rfl (by decide) (at_i0 z σ15 43 200 (v13) rfl (by decide) r20) ?_
            show wx z 4 44 64 [(0, .inr (.inr (.ref 38))), (1, .inl (a1)), (3, .inl (v13)), (4, .inl (v14))] [.inl ((sx_at σ15 43 200 (v13)))] σ15 (fun v σ' => v = none ∧ sg_F [6, 16, 29, 30, 31, 32, 33, 34, 39, 40, 41, 42, 43, 44, 7028, 10038, 11038, 13038, 14038] σ σ' ∧ Q σ')
            refine wk_b tt_44 4 (pc' := 71) (ls' := [(5, .inl ((sx_at σ15 43 200 (v13)))), (0, .inr (.inr (.ref 38))), (1, .inl (a1)), (3, .inl (v13)), (4, .inl (v14))]) (st' := [.inl (v13), .inr (.inr (.ref 44))]) (σ' := σ15) rfl ?_
            refine wk_callp tt_44 rfl rfl rfl rfl rfl tt_5 rfl (by decide) (at_i0 z σ15 44 200 (v13) rfl (by decide) r20) ?_
            show wx z 4 44 74 [(5, .inl ((sx_at σ15 43 200 (v13)))), (0, .inr (.inr (.ref 38))), (1, .inl (a1)), (3, .inl (v13)), (4, .inl (v14))] [.inl ((sx_at σ15 44 200 (v13)))] σ15 (fun v σ' => v = none ∧ sg_F [6, 16, 29, 30, 31, 32, 33, 34, 39, 40, 41, 42, 43, 44, 7028, 10038, 11038, 13038, 14038] σ σ' ∧ Q σ')
            refine wk_b tt_44 4 (pc' := 82) (ls' := [(5, .inl ((sx_at σ15 43 200 (v13)))), (0, .inr (.inr (.ref 38))), (1, .inl (a1)), (3, .inl (v13)), (4, .inl (v14))]) (st' := [.inl (v13), .inr (.inr (.ref 10)), .inl ((sx_at σ15 44 200 (v13)))]) (σ' := σ15) rfl ?_
            refine wk_callp tt_44 rfl rfl rfl rfl rfl tt_5 rfl (by decide) (at_i0 z σ15 10 200 (v13) rfl (by decide) r20) ?_
            show wx z 4 44 85 [(5, .inl ((sx_at σ15 43 200 (v13)))), (0, .inr (.inr (.ref 38))), (1, .inl (a1)), (3, .inl (v13)), (4, .inl (v14))] [.inl ((sx_at σ15 10 200 (v13))), .inl ((sx_at σ15 44 200 (v13)))] σ15 (fun v σ' => v = none ∧ sg_F [6, 16, 29, 30, 31, 32, 33, 34, 39, 40, 41, 42, 43, 44, 7028, 10038, 11038, 13038, 14038] σ σ' ∧ Q σ')
            rw [sx_F (a := 10) (n := 200) (i := (v13)) hF16 rfl, sx_F (a := 10) (n := 200) (i := (v13)) hF9 rfl, sx_F (a := 10) (n := 200) (i := (v13)) hF6 rfl, sx_F (a := 10) (n := 200) (i := (v13)) hF3 rfl]
            obtain ⟨P41, w, w46⟩ := w
            have jn40 : ∀ (v44 : Int) (σ42 : sg_S), sg_R v44 → sg_F [6, 16, 29, 30, 32, 33, 34, 39, 40, 41, 42, 43, 44, 7028, 10038, 11038, 13038, 14038] σ15 σ42 → P41 v44 σ42 → wx z 4 44 175 [(0, .inr (.inr (.ref 38))), (1, .inl (a1)), (3, .inl (v44)), (4, .inl (v14))] [] σ42 (fun v σ' => v = none ∧ sg_F [6, 16, 29, 30, 31, 32, 33, 34, 39, 40, 41, 42, 43, 44, 7028, 10038, 11038, 13038, 14038] σ σ' ∧ Q σ') := by
              intro v44 σ42 r45 hF43 w
              have w := w46 v44 σ42 r45 hF43 w
              obtain ⟨c47, w⟩ := w
              refine wk_b tt_44 2 (pc' := 37) (ls' := [(4, .inl ((v14 + 1))), (0, .inr (.inr (.ref 38))), (1, .inl (a1)), (3, .inl (v44))]) (st' := []) (σ' := σ42) rfl ?_
              obtain ⟨m48, hm48, w⟩ := w
              exact wk_ls [(0, .inr (.inr (.ref 38))), (1, .inl (a1)), (3, .inl (v44)), (4, .inl ((v14 + 1)))] rfl ⟨rfl, rfl, rfl, rfl, trivial⟩ (ih22 m48 hm48 (v44) ((v14 + 1)) σ42 r45 c47 (sg_F_t (sg_F_t (sg_F_r [6, 16, 29, 30, 32, 33, 34, 39, 40, 41, 42, 43, 44, 7028, 10038, 11038, 13038, 14038] σ8) (sg_F_m (L := [6, 16, 29, 30, 32, 33, 34, 39, 40, 41, 42, 43, 44, 7028, 10038, 11038, 13038, 14038]) hF16 rfl)) (sg_F_m (L := [6, 16, 29, 30, 32, 33, 34, 39, 40, 41, 42, 43, 44, 7028, 10038, 11038, 13038, 14038]) hF43 rfl)) w)
            refine wk_if2 tt_44 (tgt := 105) rfl rfl (sx_R ..) (sx_R ..) (fun (h39 : (sx_at σ15 44 200 (v13)) < (sx_at σ 10 200 (v13))) => ?_) (fun (h39 : (sx_at σ 10 200 (v13)) ≤ (sx_at σ15 44 200 (v13))) => ?_)
            ·
              have w := w.1 h39
              refine wk_b tt_44 5 (pc' := 112) (ls' := [(5, .inl ((sx_at σ15 43 200 (v13)))), (0, .inr (.inr (.ref 38))), (1, .inl (a1)), (3, .inl (v13)), (4, .inl (v14))]) (st' := [.inl (v13), .inr (.inr (.ref 44)), .inl (v13), .inr (.inr (.ref 38))]) (σ' := σ15) rfl ?_
              refine wk_callp tt_44 rfl rfl rfl rfl rfl tt_5 rfl (by decide) (at_i0 z σ15 44 200 (v13) rfl (by decide) r20) ?_
              show wx z 4 44 115 [(5, .inl ((sx_at σ15 43 200 (v13)))), (0, .inr (.inr (.ref 38))), (1, .inl (a1)), (3, .inl (v13)), (4, .inl (v14))] [.inl ((sx_at σ15 44 200 (v13))), .inl (v13), .inr (.inr (.ref 38))] σ15 (fun v σ' => v = none ∧ sg_F [6, 16, 29, 30, 31, 32, 33, 34, 39, 40, 41, 42, 43, 44, 7028, 10038, 11038, 13038, 14038] σ σ' ∧ Q σ')
              refine wk_call tt_44 rfl rfl rfl rfl rfl tt_26 rfl (by decide) (w_kAhead z σ15 (v13) ((sx_at σ15 44 200 (v13))) _ r20 (sx_R ..) w) (fun u54 σ50 hq52 => ?_)
              obtain ⟨rfl, hF51, w⟩ := hq52
              have w := w hF51
              refine wk_b tt_44 6 (pc' := 128) (ls' := [(5, .inl ((sx_at σ15 43 200 (v13)))), (0, .inr (.inr (.ref 38))), (1, .inl (a1)), (3, .inl (v13)), (4, .inl (v14))]) (st' := [.inl (v13), .inr (.inr (.ref 44)), .inl (v13), .inr (.inr (.ref 44))]) (σ' := σ50) rfl ?_
              refine wk_callp tt_44 rfl rfl rfl rfl rfl tt_5 rfl (by decide) (at_i0 z σ50 44 200 (v13) rfl (by decide) r20) ?_
              show wx z 4 44 131 [(5, .inl ((sx_at σ15 43 200 (v13)))), (0, .inr (.inr (.ref 38))), (1, .inl (a1)), (3, .inl (v13)), (4, .inl (v14))] [.inl ((sx_at σ50 44 200 (v13))), .inl (v13), .inr (.inr (.ref 44))] σ50 (fun v σ' => v = none ∧ sg_F [6, 16, 29, 30, 31, 32, 33, 34, 39, 40, 41, 42, 43, 44, 7028, 10038, 11038, 13038, 14038] σ σ' ∧ Q σ')
              rw [sx_F (a := 44) (n := 200) (i := (v13)) hF51 rfl]
              obtain ⟨c55, w⟩ := w
              refine wk_b tt_44 2 (pc' := 133) (ls' := [(5, .inl ((sx_at σ15 43 200 (v13)))), (0, .inr (.inr (.ref 38))), (1, .inl (a1)), (3, .inl (v13)), (4, .inl (v14))]) (st' := [.inl (((sx_at σ15 44 200 (v13)) + 1)), .inl (v13), .inr (.inr (.ref 44))]) (σ' := σ50) rfl ?_
              refine wk_callp tt_44 rfl rfl rfl rfl rfl tt_21 rfl (by decide) (pt_i0 z σ50 44 200 (v13) (((sx_at σ15 44 200 (v13)) + 1)) rfl (by decide) r20) ?_
              show wx z 4 44 136 [(5, .inl ((sx_at σ15 43 200 (v13)))), (0, .inr (.inr (.ref 38))), (1, .inl (a1)), (3, .inl (v13)), (4, .inl (v14))] [] (sx_put σ50 44 200 (v13) (((sx_at σ15 44 200 (v13)) + 1))) (fun v σ' => v = none ∧ sg_F [6, 16, 29, 30, 31, 32, 33, 34, 39, 40, 41, 42, 43, 44, 7028, 10038, 11038, 13038, 14038] σ σ' ∧ Q σ')
              generalize hs57 : (sx_put σ50 44 200 (v13) (((sx_at σ15 44 200 (v13)) + 1))) = σ56
              have w := w σ56 hs57.symm
              have hF58 : sg_F [44] σ50 σ56 := by rw [← hs57]; exact sg_F_p (sg_F_r _ _) rfl _ _ _
              refine wk_b tt_44 7 (pc' := 150) (ls' := [(5, .inl ((sx_at σ15 43 200 (v13)))), (0, .inr (.inr (.ref 38))), (1, .inl (a1)), (3, .inl (v13)), (4, .inl (v14))]) (st' := [.inl ((sx_at σ15 43 200 (v13))), .inr (.inr (.ref 9)), .inl (v13), .inr (.inr (.ref 43))]) (σ' := σ56) rfl ?_
              refine wk_callp tt_44 rfl rfl rfl rfl rfl tt_5 rfl (by decide) (at_i0 z σ56 9 200 ((sx_at σ15 43 200 (v13))) rfl (by decide) (sx_R ..)) ?_
              show wx z 4 44 153 [(5, .inl ((sx_at σ15 43 200 (v13)))), (0, .inr (.inr (.ref 38))), (1, .inl (a1)), (3, .inl (v13)), (4, .inl (v14))] [.inl ((sx_at σ56 9 200 ((sx_at σ15 43 200 (v13))))), .inl (v13), .inr (.inr (.ref 43))] σ56 (fun v σ' => v = none ∧ sg_F [6, 16, 29, 30, 31, 32, 33, 34, 39, 40, 41, 42, 43, 44, 7028, 10038, 11038, 13038, 14038] σ σ' ∧ Q σ')
              rw [sx_F (a := 9) (n := 200) (i := ((sx_at σ15 43 200 (v13)))) hF58 rfl, sx_F (a := 9) (n := 200) (i := ((sx_at σ15 43 200 (v13)))) hF51 rfl, sx_F (a := 9) (n := 200) (i := ((sx_at σ15 43 200 (v13)))) hF16 rfl, sx_F (a := 9) (n := 200) (i := ((sx_at σ15 43 200 (v13)))) hF9 rfl, sx_F (a := 9) (n := 200) (i := ((sx_at σ15 43 200 (v13)))) hF6 rfl, sx_F (a := 9) (n := 200) (i := ((sx_at σ15 43 200 (v13)))) hF3 rfl]
              refine wk_callp tt_44 rfl rfl rfl rfl rfl tt_21 rfl (by decide) (pt_i0 z σ56 43 200 (v13) ((sx_at σ 9 200 ((sx_at σ15 43 200 (v13))))) rfl (by decide) r20) ?_
              show wx z 4 44 156 [(5, .inl ((sx_at σ15 43 200 (v13)))), (0, .inr (.inr (.ref 38))), (1, .inl (a1)), (3, .inl (v13)), (4, .inl (v14))] [] (sx_put σ56 43 200 (v13) ((sx_at σ 9 200 ((sx_at σ15 43 200 (v13)))))) (fun v σ' => v = none ∧ sg_F [6, 16, 29, 30, 31, 32, 33, 34, 39, 40, 41, 42, 43, 44, 7028, 10038, 11038, 13038, 14038] σ σ' ∧ Q σ')
              generalize hs60 : (sx_put σ56 43 200 (v13) ((sx_at σ 9 200 ((sx_at σ15 43 200 (v13)))))) = σ59
              have w := w σ59 hs60.symm
              have hF61 : sg_F [43] σ56 σ59 := by rw [← hs60]; exact sg_F_p (sg_F_r _ _) rfl _ _ _
              refine wk_b tt_44 4 (pc' := 163) (ls' := [(5, .inl ((sx_at σ15 43 200 (v13)))), (0, .inr (.inr (.ref 38))), (1, .inl (a1)), (3, .inl (v13)), (4, .inl (v14))]) (st' := [.inl (v13), .inl ((sx_at σ15 43 200 (v13))), .inr (.inr (.ref 42))]) (σ' := σ59) rfl ?_
              refine wk_callp tt_44 rfl rfl rfl rfl rfl tt_21 rfl (by decide) (pt_i0 z σ59 42 200 ((sx_at σ15 43 200 (v13))) (v13) rfl (by decide) (sx_R ..)) ?_
              show wx z 4 44 166 [(5, .inl ((sx_at σ15 43 200 (v13)))), (0, .inr (.inr (.ref 38))), (1, .inl (a1)), (3, .inl (v13)), (4, .inl (v14))] [] (sx_put σ59 42 200 ((sx_at σ15 43 200 (v13))) (v13)) (fun v σ' => v = none ∧ sg_F [6, 16, 29, 30, 31, 32, 33, 34, 39, 40, 41, 42, 43, 44, 7028, 10038, 11038, 13038, 14038] σ σ' ∧ Q σ')
              generalize hs63 : (sx_put σ59 42 200 ((sx_at σ15 43 200 (v13))) (v13)) = σ62
              have w := w σ62 hs63.symm
              have hF64 : sg_F [42] σ59 σ62 := by rw [← hs63]; exact sg_F_p (sg_F_r _ _) rfl _ _ _
              refine wk_b tt_44 2 (pc' := 169) (ls' := [(5, .inl ((sx_at σ15 43 200 (v13)))), (0, .inr (.inr (.ref 38))), (1, .inl (a1)), (3, .inl (v13)), (4, .inl (v14))]) (st' := [.inl ((sx_at σ15 43 200 (v13))), .inr (.inr (.ref 38))]) (σ' := σ62) rfl ?_
              refine wk_call tt_44 rfl rfl rfl rfl rfl tt_38 rfl (by decide) (w_kEnter z σ62 ((sx_at σ15 43 200 (v13))) _ (sx_R ..) w) (fun u70 σ66 hq68 => ?_)
              obtain ⟨rfl, hF67, w⟩ := hq68
              have w := w hF67
              refine wk_b tt_44 2 (pc' := 175) (ls' := [(3, .inl ((sx_at σ15 43 200 (v13)))), (5, .inl ((sx_at σ15 43 200 (v13)))), (0, .inr (.inr (.ref 38))), (1, .inl (a1)), (4, .inl (v14))]) (st' := []) (σ' := σ66) rfl ?_
              exact wk_ls [(0, .inr (.inr (.ref 38))), (1, .inl (a1)), (3, .inl ((sx_at σ15 43 200 (v13)))), (4, .inl (v14))] rfl ⟨rfl, rfl, rfl, rfl, trivial⟩ (jn40 ((sx_at σ15 43 200 (v13))) σ66 (sx_R ..) (sg_F_t (sg_F_t (sg_F_t (sg_F_t (sg_F_t (sg_F_r [6, 16, 29, 30, 32, 33, 34, 39, 40, 41, 42, 43, 44, 7028, 10038, 11038, 13038, 14038] σ15) (sg_F_m (L := [6, 16, 29, 30, 32, 33, 34, 39, 40, 41, 42, 43, 44, 7028, 10038, 11038, 13038, 14038]) hF51 rfl)) (sg_F_m (L := [6, 16, 29, 30, 32, 33, 34, 39, 40, 41, 42, 43, 44, 7028, 10038, 11038, 13038, 14038]) hF58 rfl)) (sg_F_m (L := [6, 16, 29, 30, 32, 33, 34, 39, 40, 41, 42, 43, 44, 7028, 10038, 11038, 13038, 14038]) hF61 rfl)) (sg_F_m (L := [6, 16, 29, 30, 32, 33, 34, 39, 40, 41, 42, 43, 44, 7028, 10038, 11038, 13038, 14038]) hF64 rfl)) (sg_F_m (L := [6, 16, 29, 30, 32, 33, 34, 39, 40, 41, 42, 43, 44, 7028, 10038, 11038, 13038, 14038]) hF67 rfl)) w)
            ·
              have w := w.2 h39
              refine wk_b tt_44 2 (pc' := 90) (ls' := [(5, .inl ((sx_at σ15 43 200 (v13)))), (0, .inr (.inr (.ref 38))), (1, .inl (a1)), (3, .inl (v13)), (4, .inl (v14))]) (st' := [.inl (v13), .inr (.inr (.ref 38))]) (σ' := σ15) rfl ?_
              refine wk_call tt_44 rfl rfl rfl rfl rfl tt_40 rfl (by decide) (w_kLeave z σ15 (v13) _ r20 w) (fun u76 σ72 hq74 => ?_)
              obtain ⟨rfl, hF73, w⟩ := hq74
              have w := w hF73
              refine wk_b tt_44 3 (pc' := 98) (ls' := [(5, .inl ((sx_at σ15 43 200 (v13)))), (0, .inr (.inr (.ref 38))), (1, .inl (a1)), (3, .inl (v13)), (4, .inl (v14))]) (st' := [.inl (v13), .inr (.inr (.ref 42))]) (σ' := σ72) rfl ?_
              refine wk_callp tt_44 rfl rfl rfl rfl rfl tt_5 rfl (by decide) (at_i0 z σ72 42 200 (v13) rfl (by decide) r20) ?_
              show wx z 4 44 101 [(5, .inl ((sx_at σ15 43 200 (v13)))), (0, .inr (.inr (.ref 38))), (1, .inl (a1)), (3, .inl (v13)), (4, .inl (v14))] [.inl ((sx_at σ72 42 200 (v13)))] σ72 (fun v σ' => v = none ∧ sg_F [6, 16, 29, 30, 31, 32, 33, 34, 39, 40, 41, 42, 43, 44, 7028, 10038, 11038, 13038, 14038] σ σ' ∧ Q σ')
              rw [sx_F (a := 42) (n := 200) (i := (v13)) hF73 rfl]
              refine wk_b tt_44 2 (pc' := 175) (ls' := [(3, .inl ((sx_at σ15 42 200 (v13)))), (5, .inl ((sx_at σ15 43 200 (v13)))), (0, .inr (.inr (.ref 38))), (1, .inl (a1)), (4, .inl (v14))]) (st' := []) (σ' := σ72) rfl ?_
              exact wk_ls [(0, .inr (.inr (.ref 38))), (1, .inl (a1)), (3, .inl ((sx_at σ15 42 200 (v13)))), (4, .inl (v14))] rfl ⟨rfl, rfl, rfl, rfl, trivial⟩ (jn40 ((sx_at σ15 42 200 (v13))) σ72 (sx_R ..) (sg_F_t (sg_F_r [6, 16, 29, 30, 32, 33, 34, 39, 40, 41, 42, 43, 44, 7028, 10038, 11038, 13038, 14038] σ15) (sg_F_m (L := [6, 16, 29, 30, 32, 33, 34, 39, 40, 41, 42, 43, 44, 7028, 10038, 11038, 13038, 14038]) hF73 rfl)) w)
  exact wk_ls [(0, .inr (.inr (.ref 38))), (1, .inl (a1)), (3, .inl (a2)), (4, .inl (0))] rfl ⟨rfl, rfl, rfl, rfl, trivial⟩ (lp24 μ18 (a2) (0) σ8 ra2 (by decide) (sg_F_r _ _) w25)
-- NestedVectors$Checker.definition
def V_kDefinition (σ : sg_S) (a1 : Int) (Q : sg_S → Prop) : Prop := ∀ σ1, σ1 = (sg_w σ 38 9 (0)) → ∀ σ4, σ4 = (sg_w σ1 38 11 (a1)) → V_kdFind σ4 ((sx_atl σ 20 12 (a1))) (a1) (fun q7 _ => sg_R q7 → (∃ P15 : sg_S → Prop, ((q7 < 0 → P15 σ4) ∧ (0 ≤ q7 → V_kBlame σ4 (2) ((sx_at σ 21 12 (a1))) (fun σ87 => sg_F [13038, 14038] σ4 σ87 → P15 σ87))) ∧ (∀ (σ16 : sg_S), sg_F [13038, 14038] σ4 σ16 → P15 σ16 → ∀ σ19, σ19 = (sx_put σ16 24 12 (a1) ((sg_g σ 38 10))) → (∃ (I25 : Nat → Int → sg_S → Prop) (X27 : sg_S → Prop), (∃ n, I25 n (0) σ19) ∧ (∀ (n35 : Nat) (v22 : Int) (σ23 : sg_S), sg_R v22 → sg_F [34, 39, 40, 10038, 11038, 13038, 14038] σ19 σ23 → I25 n35 v22 σ23 → (((sx_at σ 23 12 (a1)) ≤ v22 → X27 σ23) ∧ (v22 < (sx_at σ 23 12 (a1)) → ((6 ≤ v22 → X27 σ23) ∧ (v22 < 6 → sg_R (a1 * 6) ∧ sg_R ((a1 * 6) + v22) ∧ V_kFind σ23 ((sx_atl σ 25 72 (((a1 * 6) + v22)))) (fun q48 _ => sg_R q48 → (∃ P56 : sg_S → Prop, ((q48 < 0 → P56 σ23) ∧ (0 ≤ q48 → V_kBlame σ23 (2) ((sx_at σ 26 72 (((a1 * 6) + v22)))) (fun σ81 => sg_F [13038, 14038] σ23 σ81 → P56 σ81))) ∧ (∀ (σ57 : sg_S), sg_F [13038, 14038] σ23 σ57 → P56 σ57 → (∃ P62 : sg_S → Prop, (((sx_at σ 27 72 (((a1 * 6) + v22))) ≤ 3 → P62 σ57) ∧ (3 < (sx_at σ 27 72 (((a1 * 6) + v22))) → V_kBlame σ57 (3) ((sx_at σ 26 72 (((a1 * 6) + v22)))) (fun σ75 => sg_F [13038, 14038] σ57 σ75 → P62 σ75))) ∧ (∀ (σ63 : sg_S), sg_F [13038, 14038] σ57 σ63 → P62 σ63 → V_kBind σ63 ((sx_atl σ 25 72 (((a1 * 6) + v22)))) ((sx_at σ 27 72 (((a1 * 6) + v22)))) (fun q66 σ67 => sg_R q66 → sg_F [34, 39, 40, 10038, 11038] σ63 σ67 → sg_R (v22 + 1) ∧ (∃ m, m < n35 ∧ I25 m ((v22 + 1)) σ67)))))))))))) ∧ (∀ (σ23 : sg_S), sg_F [34, 39, 40, 10038, 11038, 13038, 14038] σ19 σ23 → X27 σ23 → ((¬ (sg_g σ23 38 13) = 0 → Q σ23) ∧ ((sg_g σ23 38 13) = 0 → V_kWalk σ23 (a1) ((sx_at σ 22 12 (a1))) (fun σ39 => sg_F [6, 16, 29, 30, 31, 32, 33, 34, 39, 40, 41, 42, 43, 44, 7028, 10038, 11038, 13038, 14038] σ23 σ39 → Q σ39))))))))
set_option maxHeartbeats 4000000 in
set_option maxRecDepth 8000 in
theorem w_kDefinition (z : Value) (σ : sg_S) (a1 : Int) (Q : sg_S → Prop) (ra1 : sg_R a1) (w : V_kDefinition σ a1 Q) : wx z 5 31 0 [(0, .inr (.inr (.ref 38))), (1, .inl (a1))] [] σ (fun v σ' => v = none ∧ sg_F [6, 16, 24, 29, 30, 31, 32, 33, 34, 39, 40, 41, 42, 43, 44, 7028, 10038, 11038, 12038, 13038, 14038] σ σ' ∧ Q σ') := by
  unfold V_kDefinition at w
  refine wk_b tt_31 3 (pc' := 5) (ls' := [(0, .inr (.inr (.ref 38))), (1, .inl (a1))]) (st' := []) (σ' := (sg_w σ 38 9 (0))) rfl ?_
  generalize hs2 : (sg_w σ 38 9 (0)) = σ1
  have w := w σ1 hs2.symm
  have hF3 : sg_F [10038] σ σ1 := by rw [← hs2]; exact sg_F_w (sg_F_r _ _) rfl _
  refine wk_b tt_31 3 (pc' := 10) (ls' := [(0, .inr (.inr (.ref 38))), (1, .inl (a1))]) (st' := []) (σ' := (sg_w σ1 38 11 (a1))) rfl ?_
  generalize hs5 : (sg_w σ1 38 11 (a1)) = σ4
  have w := w σ4 hs5.symm
  have hF6 : sg_F [12038] σ1 σ4 := by rw [← hs5]; exact sg_F_w (sg_F_r _ _) rfl _
  refine wk_b tt_31 6 (pc' := 22) (ls' := [(0, .inr (.inr (.ref 38))), (1, .inl (a1))]) (st' := [.inl (a1), .inr (.inr (.ref 20)), .inr (.inr (.ref 19))]) (σ' := σ4) rfl ?_
  refine wk_callp tt_31 rfl rfl rfl rfl rfl tt_6 rfl (by decide) (at_l0 z σ4 20 12 (a1) rfl (by decide) ra1) ?_
  show wx z 5 31 25 [(0, .inr (.inr (.ref 38))), (1, .inl (a1))] [.inr (.inl ((sx_atl σ4 20 12 (a1)))), .inr (.inr (.ref 19))] σ4 (fun v σ' => v = none ∧ sg_F [6, 16, 24, 29, 30, 31, 32, 33, 34, 39, 40, 41, 42, 43, 44, 7028, 10038, 11038, 12038, 13038, 14038] σ σ' ∧ Q σ')
  rw [sx_Fl (a := 20) (n := 12) (i := (a1)) hF6 rfl, sx_Fl (a := 20) (n := 12) (i := (a1)) hF3 rfl]
  refine wk_b tt_31 1 (pc' := 26) (ls' := [(0, .inr (.inr (.ref 38))), (1, .inl (a1))]) (st' := [.inl (a1), .inr (.inl ((sx_atl σ 20 12 (a1)))), .inr (.inr (.ref 19))]) (σ' := σ4) rfl ?_
  refine wk_call tt_31 rfl rfl rfl rfl rfl tt_48 rfl (by decide) (w_kdFind z σ4 ((sx_atl σ 20 12 (a1))) (a1) _ (sx_Rl ..) ra1 w) (fun u12 σ8 hq10 => ?_)
  obtain ⟨q7, rfl, r11, rfl, w⟩ := hq10
  have w := w r11
  obtain ⟨P15, w, w18⟩ := w
  have jn14 : ∀ (σ16 : sg_S), sg_F [13038, 14038] σ4 σ16 → P15 σ16 → wx z 5 31 48 [(0, .inr (.inr (.ref 38))), (1, .inl (a1))] [] σ16 (fun v σ' => v = none ∧ sg_F [6, 16, 24, 29, 30, 31, 32, 33, 34, 39, 40, 41, 42, 43, 44, 7028, 10038, 11038, 12038, 13038, 14038] σ σ' ∧ Q σ') := by
    intro σ16 hF17 w
    have w := w18 σ16 hF17 w
    refine wk_b tt_31 6 (pc' := 60) (ls' := [(0, .inr (.inr (.ref 38))), (1, .inl (a1))]) (st' := [.inl ((sg_g σ16 38 10)), .inl (a1), .inr (.inr (.ref 24))]) (σ' := σ16) rfl ?_
    rw [show (sg_g σ16 38 10) = (sg_g σ 38 10) from by rw [sg_F_g hF17 rfl, sg_F_g hF6 rfl, sg_F_g hF3 rfl]]
    refine wk_callp tt_31 rfl rfl rfl rfl rfl tt_21 rfl (by decide) (pt_i0 z σ16 24 12 (a1) ((sg_g σ 38 10)) rfl (by decide) ra1) ?_
    show wx z 5 31 63 [(0, .inr (.inr (.ref 38))), (1, .inl (a1))] [] (sx_put σ16 24 12 (a1) ((sg_g σ 38 10))) (fun v σ' => v = none ∧ sg_F [6, 16, 24, 29, 30, 31, 32, 33, 34, 39, 40, 41, 42, 43, 44, 7028, 10038, 11038, 12038, 13038, 14038] σ σ' ∧ Q σ')
    generalize hs20 : (sx_put σ16 24 12 (a1) ((sg_g σ 38 10))) = σ19
    have w := w σ19 hs20.symm
    have hF21 : sg_F [24] σ16 σ19 := by rw [← hs20]; exact sg_F_p (sg_F_r _ _) rfl _ _ _
    refine wk_b tt_31 2 (pc' := 65) (ls' := [(2, .inl (0)), (0, .inr (.inr (.ref 38))), (1, .inl (a1))]) (st' := []) (σ' := σ19) rfl ?_
    obtain ⟨I25, X27, ⟨μ26, w32⟩, w33, w34⟩ := w
    have ex36 : ∀ (σ23 : sg_S), sg_F [34, 39, 40, 10038, 11038, 13038, 14038] σ19 σ23 → X27 σ23 → wx z 5 31 191 [(0, .inr (.inr (.ref 38))), (1, .inl (a1))] [] σ23 (fun v σ' => v = none ∧ sg_F [6, 16, 24, 29, 30, 31, 32, 33, 34, 39, 40, 41, 42, 43, 44, 7028, 10038, 11038, 12038, 13038, 14038] σ σ' ∧ Q σ') := by
      intro σ23 hF24 w
      have w := w34 σ23 hF24 w
      refine wk_b tt_31 2 (pc' := 195) (ls' := [(0, .inr (.inr (.ref 38))), (1, .inl (a1))]) (st' := [.inl ((sg_g σ23 38 13))]) (σ' := σ23) rfl ?_
      refine wk_if tt_31 (tgt := 214) rfl rfl (sg_Rg _ _ _) (fun (h37 : ¬ (sg_g σ23 38 13) = 0) => ?_) (fun (h37 : (sg_g σ23 38 13) = 0) => ?_)
      ·
        have w := w.1 h37
        exact wk_rV tt_31 rfl rfl ⟨rfl, (sg_F_t (sg_F_t (sg_F_t (sg_F_t (sg_F_t (sg_F_r [6, 16, 24, 29, 30, 31, 32, 33, 34, 39, 40, 41, 42, 43, 44, 7028, 10038, 11038, 12038, 13038, 14038] σ) (sg_F_m (L := [6, 16, 24, 29, 30, 31, 32, 33, 34, 39, 40, 41, 42, 43, 44, 7028, 10038, 11038, 12038, 13038, 14038]) hF3 rfl)) (sg_F_m (L := [6, 16, 24, 29, 30, 31, 32, 33, 34, 39, 40, 41, 42, 43, 44, 7028, 10038, 11038, 12038, 13038, 14038]) hF6 rfl)) (sg_F_m (L := [6, 16, 24, 29, 30, 31, 32, 33, 34, 39, 40, 41, 42, 43, 44, 7028, 10038, 11038, 12038, 13038, 14038]) hF17 rfl)) (sg_F_m (L := [6, 16, 24, 29, 30, 31, 32, 33, 34, 39, 40, 41, 42, 43, 44, 7028, 10038, 11038, 12038, 13038, 14038]) hF21 rfl)) (sg_F_m (L := [6, 16, 24, 29, 30, 31, 32, 33, 34, 39, 40, 41, 42, 43, 44, 7028, 10038, 11038, 12038, 13038, 14038]) hF24 rfl)), w⟩
      ·
        have w := w.2 h37
        refine wk_b tt_31 6 (pc' := 208) (ls' := [(0, .inr (.inr (.ref 38))), (1, .inl (a1))]) (st' := [.inl (a1), .inr (.inr (.ref 22)), .inl (a1), .inr (.inr (.ref 38))]) (σ' := σ23) rfl ?_
        refine wk_callp tt_31 rfl rfl rfl rfl rfl tt_5 rfl (by decide) (at_i0 z σ23 22 12 (a1) rfl (by decide) ra1) ?_
        show wx z 5 31 211 [(0, .inr (.inr (.ref 38))), (1, .inl (a1))] [.inl ((sx_at σ23 22 12 (a1))), .inl (a1), .inr (.inr (.ref 38))] σ23 (fun v σ' => v = none ∧ sg_F [6, 16, 24, 29, 30, 31, 32, 33, 34, 39, 40, 41, 42, 43, 44, 7028, 10038, 11038, 12038, 13038, 14038] σ σ' ∧ Q σ')
        rw [sx_F (a := 22) (n := 12) (i := (a1)) hF24 rfl, sx_F (a := 22) (n := 12) (i := (a1)) hF21 rfl, sx_F (a := 22) (n := 12) (i := (a1)) hF17 rfl, sx_F (a := 22) (n := 12) (i := (a1)) hF6 rfl, sx_F (a := 22) (n := 12) (i := (a1)) hF3 rfl]
        refine wk_call tt_31 rfl rfl rfl rfl rfl tt_44 rfl (by decide) (w_kWalk z σ23 (a1) ((sx_at σ 22 12 (a1))) _ ra1 (sx_R ..) w) (fun u43 σ39 hq41 => ?_)
        obtain ⟨rfl, hF40, w⟩ := hq41
        have w := w hF40
        exact wk_rV tt_31 rfl rfl ⟨rfl, (sg_F_t (sg_F_t (sg_F_t (sg_F_t (sg_F_t (sg_F_t (sg_F_r [6, 16, 24, 29, 30, 31, 32, 33, 34, 39, 40, 41, 42, 43, 44, 7028, 10038, 11038, 12038, 13038, 14038] σ) (sg_F_m (L := [6, 16, 24, 29, 30, 31, 32, 33, 34, 39, 40, 41, 42, 43, 44, 7028, 10038, 11038, 12038, 13038, 14038]) hF3 rfl)) (sg_F_m (L := [6, 16, 24, 29, 30, 31, 32, 33, 34, 39, 40, 41, 42, 43, 44, 7028, 10038, 11038, 12038, 13038, 14038]) hF6 rfl)) (sg_F_m (L := [6, 16, 24, 29, 30, 31, 32, 33, 34, 39, 40, 41, 42, 43, 44, 7028, 10038, 11038, 12038, 13038, 14038]) hF17 rfl)) (sg_F_m (L := [6, 16, 24, 29, 30, 31, 32, 33, 34, 39, 40, 41, 42, 43, 44, 7028, 10038, 11038, 12038, 13038, 14038]) hF21 rfl)) (sg_F_m (L := [6, 16, 24, 29, 30, 31, 32, 33, 34, 39, 40, 41, 42, 43, 44, 7028, 10038, 11038, 12038, 13038, 14038]) hF24 rfl)) (sg_F_m (L := [6, 16, 24, 29, 30, 31, 32, 33, 34, 39, 40, 41, 42, 43, 44, 7028, 10038, 11038, 12038, 13038, 14038]) hF40 rfl)), w⟩
    have lp31 : ∀ (n35 : Nat) (v22 : Int) (σ23 : sg_S), sg_R v22 → sg_F [34, 39, 40, 10038, 11038, 13038, 14038] σ19 σ23 → I25 n35 v22 σ23 → wx z 5 31 65 [(0, .inr (.inr (.ref 38))), (1, .inl (a1)), (2, .inl (v22))] [] σ23 (fun v σ' => v = none ∧ sg_F [6, 16, 24, 29, 30, 31, 32, 33, 34, 39, 40, 41, 42, 43, 44, 7028, 10038, 11038, 12038, 13038, 14038] σ σ' ∧ Q σ') := by
      intro n35
      induction n35 using Nat.strongRecOn with
      | _ n35 ih29 =>
        intro v22 σ23 r28 hF24 w
        have w := w33 n35 v22 σ23 r28 hF24 w
        refine wk_b tt_31 5 (pc' := 74) (ls' := [(0, .inr (.inr (.ref 38))), (1, .inl (a1)), (2, .inl (v22))]) (st' := [.inl (a1), .inr (.inr (.ref 23)), .inl (v22)]) (σ' := σ23) rfl ?_
        refine wk_callp tt_31 rfl rfl rfl rfl rfl tt_5 rfl (by decide) (at_i0 z σ23 23 12 (a1) rfl (by decide) ra1) ?_
        show wx z 5 31 77 [(0, .inr (.inr (.ref 38))), (1, .inl (a1)), (2, .inl (v22))] [.inl ((sx_at σ23 23 12 (a1))), .inl (v22)] σ23 (fun v σ' => v = none ∧ sg_F [6, 16, 24, 29, 30, 31, 32, 33, 34, 39, 40, 41, 42, 43, 44, 7028, 10038, 11038, 12038, 13038, 14038] σ σ' ∧ Q σ')
        rw [sx_F (a := 23) (n := 12) (i := (a1)) hF24 rfl, sx_F (a := 23) (n := 12) (i := (a1)) hF21 rfl, sx_F (a := 23) (n := 12) (i := (a1)) hF17 rfl, sx_F (a := 23) (n := 12) (i := (a1)) hF6 rfl, sx_F (a := 23) (n := 12) (i := (a1)) hF3 rfl]
        refine wk_if2 tt_31 (tgt := 191) rfl rfl r28 (sx_R ..) (fun (h44 : (sx_at σ 23 12 (a1)) ≤ v22) => ?_) (fun (h44 : v22 < (sx_at σ 23 12 (a1))) => ?_)
        ·
          have w := w.1 h44
          exact wk_ls [(0, .inr (.inr (.ref 38))), (1, .inl (a1))] rfl ⟨rfl, rfl, trivial⟩ (ex36  σ23  (sg_F_t (sg_F_r [34, 39, 40, 10038, 11038, 13038, 14038] σ19) (sg_F_m (L := [34, 39, 40, 10038, 11038, 13038, 14038]) hF24 rfl)) w)
        ·
          have w := w.2 h44
          refine wk_b tt_31 2 (pc' := 83) (ls' := [(0, .inr (.inr (.ref 38))), (1, .inl (a1)), (2, .inl (v22))]) (st' := [.inl (6), .inl (v22)]) (σ' := σ23) rfl ?_
          refine wk_if2 tt_31 (tgt := 191) rfl rfl r28 (by decide) (fun (h45 : 6 ≤ v22) => ?_) (fun (h45 : v22 < 6) => ?_)
          ·
            have w := w.1 h45
            exact wk_ls [(0, .inr (.inr (.ref 38))), (1, .inl (a1))] rfl ⟨rfl, rfl, trivial⟩ (ex36  σ23  (sg_F_t (sg_F_r [34, 39, 40, 10038, 11038, 13038, 14038] σ19) (sg_F_m (L := [34, 39, 40, 10038, 11038, 13038, 14038]) hF24 rfl)) w)
          ·
            have w := w.2 h45
            obtain ⟨c46, w⟩ := w
            obtain ⟨c47, w⟩ := w
            refine wk_b tt_31 11 (pc' := 102) (ls' := [(3, .inl (((a1 * 6) + v22))), (0, .inr (.inr (.ref 38))), (1, .inl (a1)), (2, .inl (v22))]) (st' := [.inl (((a1 * 6) + v22)), .inr (.inr (.ref 25)), .inr (.inr (.ref 38))]) (σ' := σ23) rfl ?_
            refine wk_callp tt_31 rfl rfl rfl rfl rfl tt_6 rfl (by decide) (at_l0 z σ23 25 72 (((a1 * 6) + v22)) rfl (by decide) c47) ?_
            show wx z 5 31 105 [(3, .inl (((a1 * 6) + v22))), (0, .inr (.inr (.ref 38))), (1, .inl (a1)), (2, .inl (v22))] [.inr (.inl ((sx_atl σ23 25 72 (((a1 * 6) + v22))))), .inr (.inr (.ref 38))] σ23 (fun v σ' => v = none ∧ sg_F [6, 16, 24, 29, 30, 31, 32, 33, 34, 39, 40, 41, 42, 43, 44, 7028, 10038, 11038, 12038, 13038, 14038] σ σ' ∧ Q σ')
            rw [sx_Fl (a := 25) (n := 72) (i := (((a1 * 6) + v22))) hF24 rfl, sx_Fl (a := 25) (n := 72) (i := (((a1 * 6) + v22))) hF21 rfl, sx_Fl (a := 25) (n := 72) (i := (((a1 * 6) + v22))) hF17 rfl, sx_Fl (a := 25) (n := 72) (i := (((a1 * 6) + v22))) hF6 rfl, sx_Fl (a := 25) (n := 72) (i := (((a1 * 6) + v22))) hF3 rfl]
            refine wk_call tt_31 rfl rfl rfl rfl rfl tt_39 rfl (by decide) (w_kFind z σ23 ((sx_atl σ 25 72 (((a1 * 6) + v22)))) _ (sx_Rl ..) w) (fun u53 σ49 hq51 => ?_)
            obtain ⟨q48, rfl, r52, rfl, w⟩ := hq51
            have w := w r52
            obtain ⟨P56, w, w59⟩ := w
            have jn55 : ∀ (σ57 : sg_S), sg_F [13038, 14038] σ23 σ57 → P56 σ57 → wx z 5 31 127 [(0, .inr (.inr (.ref 38))), (1, .inl (a1)), (2, .inl (v22)), (3, .inl (((a1 * 6) + v22)))] [] σ57 (fun v σ' => v = none ∧ sg_F [6, 16, 24, 29, 30, 31, 32, 33, 34, 39, 40, 41, 42, 43, 44, 7028, 10038, 11038, 12038, 13038, 14038] σ σ' ∧ Q σ') := by
              intro σ57 hF58 w
              have w := w59 σ57 hF58 w
              refine wk_b tt_31 4 (pc' := 135) (ls' := [(0, .inr (.inr (.ref 38))), (1, .inl (a1)), (2, .inl (v22)), (3, .inl (((a1 * 6) + v22)))]) (st' := [.inl (((a1 * 6) + v22)), .inr (.inr (.ref 27))]) (σ' := σ57) rfl ?_
              refine wk_callp tt_31 rfl rfl rfl rfl rfl tt_5 rfl (by decide) (at_i0 z σ57 27 72 (((a1 * 6) + v22)) rfl (by decide) c47) ?_
              show wx z 5 31 138 [(0, .inr (.inr (.ref 38))), (1, .inl (a1)), (2, .inl (v22)), (3, .inl (((a1 * 6) + v22)))] [.inl ((sx_at σ57 27 72 (((a1 * 6) + v22))))] σ57 (fun v σ' => v = none ∧ sg_F [6, 16, 24, 29, 30, 31, 32, 33, 34, 39, 40, 41, 42, 43, 44, 7028, 10038, 11038, 12038, 13038, 14038] σ σ' ∧ Q σ')
              rw [sx_F (a := 27) (n := 72) (i := (((a1 * 6) + v22))) hF58 rfl, sx_F (a := 27) (n := 72) (i := (((a1 * 6) + v22))) hF24 rfl, sx_F (a := 27) (n := 72) (i := (((a1 * 6) + v22))) hF21 rfl, sx_F (a := 27) (n := 72) (i := (((a1 * 6) + v22))) hF17 rfl, sx_F (a := 27) (n := 72) (i := (((a1 * 6) + v22))) hF6 rfl, sx_F (a := 27) (n := 72) (i := (((a1 * 6) + v22))) hF3 rfl]
              refine wk_b tt_31 1 (pc' := 139) (ls' := [(0, .inr (.inr (.ref 38))), (1, .inl (a1)), (2, .inl (v22)), (3, .inl (((a1 * 6) + v22)))]) (st' := [.inl (3), .inl ((sx_at σ 27 72 (((a1 * 6) + v22))))]) (σ' := σ57) rfl ?_
              obtain ⟨P62, w, w65⟩ := w
              have jn61 : ∀ (σ63 : sg_S), sg_F [13038, 14038] σ57 σ63 → P62 σ63 → wx z 5 31 158 [(0, .inr (.inr (.ref 38))), (1, .inl (a1)), (2, .inl (v22)), (3, .inl (((a1 * 6) + v22)))] [] σ63 (fun v σ' => v = none ∧ sg_F [6, 16, 24, 29, 30, 31, 32, 33, 34, 39, 40, 41, 42, 43, 44, 7028, 10038, 11038, 12038, 13038, 14038] σ σ' ∧ Q σ') := by
                intro σ63 hF64 w
                have w := w65 σ63 hF64 w
                refine wk_b tt_31 5 (pc' := 167) (ls' := [(0, .inr (.inr (.ref 38))), (1, .inl (a1)), (2, .inl (v22)), (3, .inl (((a1 * 6) + v22)))]) (st' := [.inl (((a1 * 6) + v22)), .inr (.inr (.ref 25)), .inr (.inr (.ref 38))]) (σ' := σ63) rfl ?_
                refine wk_callp tt_31 rfl rfl rfl rfl rfl tt_6 rfl (by decide) (at_l0 z σ63 25 72 (((a1 * 6) + v22)) rfl (by decide) c47) ?_
                show wx z 5 31 170 [(0, .inr (.inr (.ref 38))), (1, .inl (a1)), (2, .inl (v22)), (3, .inl (((a1 * 6) + v22)))] [.inr (.inl ((sx_atl σ63 25 72 (((a1 * 6) + v22))))), .inr (.inr (.ref 38))] σ63 (fun v σ' => v = none ∧ sg_F [6, 16, 24, 29, 30, 31, 32, 33, 34, 39, 40, 41, 42, 43, 44, 7028, 10038, 11038, 12038, 13038, 14038] σ σ' ∧ Q σ')
                rw [sx_Fl (a := 25) (n := 72) (i := (((a1 * 6) + v22))) hF64 rfl, sx_Fl (a := 25) (n := 72) (i := (((a1 * 6) + v22))) hF58 rfl, sx_Fl (a := 25) (n := 72) (i := (((a1 * 6) + v22))) hF24 rfl, sx_Fl (a := 25) (n := 72) (i := (((a1 * 6) + v22))) hF21 rfl, sx_Fl (a := 25) (n := 72) (i := (((a1 * 6) + v22))) hF17 rfl, sx_Fl (a := 25) (n := 72) (i := (((a1 * 6) + v22))) hF6 rfl, sx_Fl (a := 25) (n := 72) (i := (((a1 * 6) + v22))) hF3 rfl]
                refine wk_b tt_31 4 (pc' := 178) (ls' := [(0, .inr (.inr (.ref 38))), (1, .inl (a1)), (2, .inl (v22)), (3, .inl (((a1 * 6) + v22)))]) (st' := [.inl (((a1 * 6) + v22)), .inr (.inr (.ref 27)), .inr (.inl ((sx_atl σ 25 72 (((a1 * 6) + v22))))), .inr (.inr (.ref 38))]) (σ' := σ63) rfl ?_
                refine wk_callp tt_31 rfl rfl rfl rfl rfl tt_5 rfl (by decide) (at_i0 z σ63 27 72 (((a1 * 6) + v22)) rfl (by decide) c47) ?_
                show wx z 5 31 181 [(0, .inr (.inr (.ref 38))), (1, .inl (a1)), (2, .inl (v22)), (3, .inl (((a1 * 6) + v22)))] [.inl ((sx_at σ63 27 72 (((a1 * 6) + v22)))), .inr (.inl ((sx_atl σ 25 72 (((a1 * 6) + v22))))), .inr (.inr (.ref 38))] σ63 (fun v σ' => v = none ∧ sg_F [6, 16, 24, 29, 30, 31, 32, 33, 34, 39, 40, 41, 42, 43, 44, 7028, 10038, 11038, 12038, 13038, 14038] σ σ' ∧ Q σ')
                rw [sx_F (a := 27) (n := 72) (i := (((a1 * 6) + v22))) hF64 rfl, sx_F (a := 27) (n := 72) (i := (((a1 * 6) + v22))) hF58 rfl, sx_F (a := 27) (n := 72) (i := (((a1 * 6) + v22))) hF24 rfl, sx_F (a := 27) (n := 72) (i := (((a1 * 6) + v22))) hF21 rfl, sx_F (a := 27) (n := 72) (i := (((a1 * 6) + v22))) hF17 rfl, sx_F (a := 27) (n := 72) (i := (((a1 * 6) + v22))) hF6 rfl, sx_F (a := 27) (n := 72) (i := (((a1 * 6) + v22))) hF3 rfl]
                refine wk_call tt_31 rfl rfl rfl rfl rfl tt_27 rfl (by decide) (w_kBind z σ63 ((sx_atl σ 25 72 (((a1 * 6) + v22)))) ((sx_at σ 27 72 (((a1 * 6) + v22)))) _ (sx_Rl ..) (sx_R ..) w) (fun u71 σ67 hq69 => ?_)
                obtain ⟨q66, rfl, r70, hF68, w⟩ := hq69
                have w := w r70 hF68
                obtain ⟨c72, w⟩ := w
                refine wk_b tt_31 3 (pc' := 65) (ls' := [(2, .inl ((v22 + 1))), (0, .inr (.inr (.ref 38))), (1, .inl (a1)), (3, .inl (((a1 * 6) + v22)))]) (st' := []) (σ' := σ67) rfl ?_
                obtain ⟨m73, hm73, w⟩ := w
                exact wk_ls [(0, .inr (.inr (.ref 38))), (1, .inl (a1)), (2, .inl ((v22 + 1)))] rfl ⟨rfl, rfl, rfl, trivial⟩ (ih29 m73 hm73 ((v22 + 1)) σ67 c72 (sg_F_t (sg_F_t (sg_F_t (sg_F_t (sg_F_r [34, 39, 40, 10038, 11038, 13038, 14038] σ19) (sg_F_m (L := [34, 39, 40, 10038, 11038, 13038, 14038]) hF24 rfl)) (sg_F_m (L := [34, 39, 40, 10038, 11038, 13038, 14038]) hF58 rfl)) (sg_F_m (L := [34, 39, 40, 10038, 11038, 13038, 14038]) hF64 rfl)) (sg_F_m (L := [34, 39, 40, 10038, 11038, 13038, 14038]) hF68 rfl)) w)
              refine wk_if2 tt_31 (tgt := 158) rfl rfl (sx_R ..) (by decide) (fun (h60 : (sx_at σ 27 72 (((a1 * 6) + v22))) ≤ 3) => ?_) (fun (h60 : 3 < (sx_at σ 27 72 (((a1 * 6) + v22)))) => ?_)
              ·
                have w := w.1 h60
                exact wk_ls [(0, .inr (.inr (.ref 38))), (1, .inl (a1)), (2, .inl (v22)), (3, .inl (((a1 * 6) + v22)))] rfl ⟨rfl, rfl, rfl, rfl, trivial⟩ (jn61 σ57 (sg_F_r [13038, 14038] σ57) w)
              ·
                have w := w.2 h60
                refine wk_b tt_31 6 (pc' := 152) (ls' := [(0, .inr (.inr (.ref 38))), (1, .inl (a1)), (2, .inl (v22)), (3, .inl (((a1 * 6) + v22)))]) (st' := [.inl (((a1 * 6) + v22)), .inr (.inr (.ref 26)), .inl (3), .inr (.inr (.ref 38))]) (σ' := σ57) rfl ?_
                refine wk_callp tt_31 rfl rfl rfl rfl rfl tt_5 rfl (by decide) (at_i0 z σ57 26 72 (((a1 * 6) + v22)) rfl (by decide) c47) ?_
                show wx z 5 31 155 [(0, .inr (.inr (.ref 38))), (1, .inl (a1)), (2, .inl (v22)), (3, .inl (((a1 * 6) + v22)))] [.inl ((sx_at σ57 26 72 (((a1 * 6) + v22)))), .inl (3), .inr (.inr (.ref 38))] σ57 (fun v σ' => v = none ∧ sg_F [6, 16, 24, 29, 30, 31, 32, 33, 34, 39, 40, 41, 42, 43, 44, 7028, 10038, 11038, 12038, 13038, 14038] σ σ' ∧ Q σ')
                rw [sx_F (a := 26) (n := 72) (i := (((a1 * 6) + v22))) hF58 rfl, sx_F (a := 26) (n := 72) (i := (((a1 * 6) + v22))) hF24 rfl, sx_F (a := 26) (n := 72) (i := (((a1 * 6) + v22))) hF21 rfl, sx_F (a := 26) (n := 72) (i := (((a1 * 6) + v22))) hF17 rfl, sx_F (a := 26) (n := 72) (i := (((a1 * 6) + v22))) hF6 rfl, sx_F (a := 26) (n := 72) (i := (((a1 * 6) + v22))) hF3 rfl]
                refine wk_call tt_31 rfl rfl rfl rfl rfl tt_28 rfl (by decide) (w_kBlame z σ57 (3) ((sx_at σ 26 72 (((a1 * 6) + v22)))) _ (by decide) (sx_R ..) w) (fun u79 σ75 hq77 => ?_)
                obtain ⟨rfl, hF76, w⟩ := hq77
                have w := w hF76
                exact wk_ls [(0, .inr (.inr (.ref 38))), (1, .inl (a1)), (2, .inl (v22)), (3, .inl (((a1 * 6) + v22)))] rfl ⟨rfl, rfl, rfl, rfl, trivial⟩ (jn61 σ75 (sg_F_t (sg_F_r [13038, 14038] σ57) (sg_F_m (L := [13038, 14038]) hF76 rfl)) w)
            refine wk_if tt_31 (tgt := 127) rfl rfl r52 (fun (h54 : q48 < 0) => ?_) (fun (h54 : 0 ≤ q48) => ?_)
            ·
              have w := w.1 h54
              exact wk_ls [(0, .inr (.inr (.ref 38))), (1, .inl (a1)), (2, .inl (v22)), (3, .inl (((a1 * 6) + v22)))] rfl ⟨rfl, rfl, rfl, rfl, trivial⟩ (jn55 σ23 (sg_F_r [13038, 14038] σ23) w)
            ·
              have w := w.2 h54
              refine wk_b tt_31 6 (pc' := 121) (ls' := [(3, .inl (((a1 * 6) + v22))), (0, .inr (.inr (.ref 38))), (1, .inl (a1)), (2, .inl (v22))]) (st' := [.inl (((a1 * 6) + v22)), .inr (.inr (.ref 26)), .inl (2), .inr (.inr (.ref 38))]) (σ' := σ23) rfl ?_
              refine wk_callp tt_31 rfl rfl rfl rfl rfl tt_5 rfl (by decide) (at_i0 z σ23 26 72 (((a1 * 6) + v22)) rfl (by decide) c47) ?_
              show wx z 5 31 124 [(3, .inl (((a1 * 6) + v22))), (0, .inr (.inr (.ref 38))), (1, .inl (a1)), (2, .inl (v22))] [.inl ((sx_at σ23 26 72 (((a1 * 6) + v22)))), .inl (2), .inr (.inr (.ref 38))] σ23 (fun v σ' => v = none ∧ sg_F [6, 16, 24, 29, 30, 31, 32, 33, 34, 39, 40, 41, 42, 43, 44, 7028, 10038, 11038, 12038, 13038, 14038] σ σ' ∧ Q σ')
              rw [sx_F (a := 26) (n := 72) (i := (((a1 * 6) + v22))) hF24 rfl, sx_F (a := 26) (n := 72) (i := (((a1 * 6) + v22))) hF21 rfl, sx_F (a := 26) (n := 72) (i := (((a1 * 6) + v22))) hF17 rfl, sx_F (a := 26) (n := 72) (i := (((a1 * 6) + v22))) hF6 rfl, sx_F (a := 26) (n := 72) (i := (((a1 * 6) + v22))) hF3 rfl]
              refine wk_call tt_31 rfl rfl rfl rfl rfl tt_28 rfl (by decide) (w_kBlame z σ23 (2) ((sx_at σ 26 72 (((a1 * 6) + v22)))) _ (by decide) (sx_R ..) w) (fun u85 σ81 hq83 => ?_)
              obtain ⟨rfl, hF82, w⟩ := hq83
              have w := w hF82
              exact wk_ls [(0, .inr (.inr (.ref 38))), (1, .inl (a1)), (2, .inl (v22)), (3, .inl (((a1 * 6) + v22)))] rfl ⟨rfl, rfl, rfl, rfl, trivial⟩ (jn55 σ81 (sg_F_t (sg_F_r [13038, 14038] σ23) (sg_F_m (L := [13038, 14038]) hF82 rfl)) w)
    exact wk_ls [(0, .inr (.inr (.ref 38))), (1, .inl (a1)), (2, .inl (0))] rfl ⟨rfl, rfl, rfl, trivial⟩ (lp31 μ26 (0) σ19 (by decide) (sg_F_r _ _) w32)
  refine wk_if tt_31 (tgt := 48) rfl rfl r11 (fun (h13 : q7 < 0) => ?_) (fun (h13 : 0 ≤ q7) => ?_)
  ·
    have w := w.1 h13
    exact wk_ls [(0, .inr (.inr (.ref 38))), (1, .inl (a1))] rfl ⟨rfl, rfl, trivial⟩ (jn14 σ4 (sg_F_r [13038, 14038] σ4) w)
  ·
    have w := w.2 h13
    refine wk_b tt_31 6 (pc' := 42) (ls' := [(0, .inr (.inr (.ref 38))), (1, .inl (a1))]) (st' := [.inl (a1), .inr (.inr (.ref 21)), .inl (2), .inr (.inr (.ref 38))]) (σ' := σ4) rfl ?_
    refine wk_callp tt_31 rfl rfl rfl rfl rfl tt_5 rfl (by decide) (at_i0 z σ4 21 12 (a1) rfl (by decide) ra1) ?_
    show wx z 5 31 45 [(0, .inr (.inr (.ref 38))), (1, .inl (a1))] [.inl ((sx_at σ4 21 12 (a1))), .inl (2), .inr (.inr (.ref 38))] σ4 (fun v σ' => v = none ∧ sg_F [6, 16, 24, 29, 30, 31, 32, 33, 34, 39, 40, 41, 42, 43, 44, 7028, 10038, 11038, 12038, 13038, 14038] σ σ' ∧ Q σ')
    rw [sx_F (a := 21) (n := 12) (i := (a1)) hF6 rfl, sx_F (a := 21) (n := 12) (i := (a1)) hF3 rfl]
    refine wk_call tt_31 rfl rfl rfl rfl rfl tt_28 rfl (by decide) (w_kBlame z σ4 (2) ((sx_at σ 21 12 (a1))) _ (by decide) (sx_R ..) w) (fun u91 σ87 hq89 => ?_)
    obtain ⟨rfl, hF88, w⟩ := hq89
    have w := w hF88
    exact wk_ls [(0, .inr (.inr (.ref 38))), (1, .inl (a1))] rfl ⟨rfl, rfl, trivial⟩ (jn14 σ87 (sg_F_t (sg_F_r [13038, 14038] σ4) (sg_F_m (L := [13038, 14038]) hF88 rfl)) w)
/-! What the methods of Checker ask for (7). -/
-- NestedVectors$Checker.check
def V_kCheck (σ : sg_S) (a1 : Int) (Q : Int → sg_S → Prop) : Prop := ∀ σ1, σ1 = (sg_w σ 28 6 (0)) → ∀ σ4, σ4 = (sg_w σ1 38 10 (0)) → ∀ σ7, σ7 = (sg_w σ4 38 13 (0)) → ∀ σ10, σ10 = (sg_w σ7 38 12 ((-1))) → (∃ (I16 : Nat → Int → sg_S → Prop) (X18 : sg_S → Prop), (∃ n, I16 n (0) σ10) ∧ (∀ (n26 : Nat) (v13 : Int) (σ14 : sg_S), sg_R v13 → sg_F [6, 16, 24, 29, 30, 31, 32, 33, 34, 39, 40, 41, 42, 43, 44, 7028, 10038, 11038, 12038, 13038, 14038] σ10 σ14 → I16 n26 v13 σ14 → (((sg_g σ 19 8) ≤ v13 → X18 σ14) ∧ (v13 < (sg_g σ 19 8) → ((12 ≤ v13 → X18 σ14) ∧ (v13 < 12 → ((¬ (sg_g σ14 38 13) = 0 → X18 σ14) ∧ ((sg_g σ14 38 13) = 0 → V_kDefinition σ14 (v13) (fun σ45 => sg_F [6, 16, 24, 29, 30, 31, 32, 33, 34, 39, 40, 41, 42, 43, 44, 7028, 10038, 11038, 12038, 13038, 14038] σ14 σ45 → sg_R (v13 + 1) ∧ (∃ m, m < n26 ∧ I16 m ((v13 + 1)) σ45))))))))) ∧ (∀ (σ14 : sg_S), sg_F [6, 16, 24, 29, 30, 31, 32, 33, 34, 39, 40, 41, 42, 43, 44, 7028, 10038, 11038, 12038, 13038, 14038] σ10 σ14 → X18 σ14 → ((¬ (sg_g σ14 38 13) = 0 → Q ((sg_g σ14 38 12)) σ14) ∧ ((sg_g σ14 38 13) = 0 → ∀ σ29, σ29 = (sg_w σ14 38 9 (0)) → ∀ σ32, σ32 = (sg_w σ29 38 11 ((sg_g σ 19 8))) → V_kWalk σ32 (12) (a1) (fun σ36 => sg_F [6, 16, 29, 30, 31, 32, 33, 34, 39, 40, 41, 42, 43, 44, 7028, 10038, 11038, 13038, 14038] σ32 σ36 → Q ((sg_g σ36 38 12)) σ36)))))
set_option maxHeartbeats 4000000 in
set_option maxRecDepth 8000 in
theorem w_kCheck (z : Value) (σ : sg_S) (a1 : Int) (Q : Int → sg_S → Prop) (ra1 : sg_R a1) (w : V_kCheck σ a1 Q) : wx z 6 29 0 [(0, .inr (.inr (.ref 38))), (1, .inl (a1))] [] σ (fun v σ' => ∃ q, v = some (.inl q) ∧ sg_R q ∧ sg_F [6, 16, 24, 29, 30, 31, 32, 33, 34, 39, 40, 41, 42, 43, 44, 7028, 10038, 11038, 12038, 13038, 14038] σ σ' ∧ Q q σ') := by
  unfold V_kCheck at w
  refine wk_b tt_29 4 (pc' := 8) (ls' := [(0, .inr (.inr (.ref 38))), (1, .inl (a1))]) (st' := []) (σ' := (sg_w σ 28 6 (0))) rfl ?_
  generalize hs2 : (sg_w σ 28 6 (0)) = σ1
  have w := w σ1 hs2.symm
  have hF3 : sg_F [7028] σ σ1 := by rw [← hs2]; exact sg_F_w (sg_F_r _ _) rfl _
  refine wk_b tt_29 3 (pc' := 13) (ls' := [(0, .inr (.inr (.ref 38))), (1, .inl (a1))]) (st' := []) (σ' := (sg_w σ1 38 10 (0))) rfl ?_
  generalize hs5 : (sg_w σ1 38 10 (0)) = σ4
  have w := w σ4 hs5.symm
  have hF6 : sg_F [11038] σ1 σ4 := by rw [← hs5]; exact sg_F_w (sg_F_r _ _) rfl _
  refine wk_b tt_29 3 (pc' := 18) (ls' := [(0, .inr (.inr (.ref 38))), (1, .inl (a1))]) (st' := []) (σ' := (sg_w σ4 38 13 (0))) rfl ?_
  generalize hs8 : (sg_w σ4 38 13 (0)) = σ7
  have w := w σ7 hs8.symm
  have hF9 : sg_F [14038] σ4 σ7 := by rw [← hs8]; exact sg_F_w (sg_F_r _ _) rfl _
  refine wk_b tt_29 3 (pc' := 23) (ls' := [(0, .inr (.inr (.ref 38))), (1, .inl (a1))]) (st' := []) (σ' := (sg_w σ7 38 12 ((-1)))) rfl ?_
  generalize hs11 : (sg_w σ7 38 12 ((-1))) = σ10
  have w := w σ10 hs11.symm
  have hF12 : sg_F [13038] σ7 σ10 := by rw [← hs11]; exact sg_F_w (sg_F_r _ _) rfl _
  refine wk_b tt_29 2 (pc' := 25) (ls' := [(2, .inl (0)), (0, .inr (.inr (.ref 38))), (1, .inl (a1))]) (st' := []) (σ' := σ10) rfl ?_
  obtain ⟨I16, X18, ⟨μ17, w23⟩, w24, w25⟩ := w
  have ex27 : ∀ (σ14 : sg_S), sg_F [6, 16, 24, 29, 30, 31, 32, 33, 34, 39, 40, 41, 42, 43, 44, 7028, 10038, 11038, 12038, 13038, 14038] σ10 σ14 → X18 σ14 → wx z 6 29 60 [(0, .inr (.inr (.ref 38))), (1, .inl (a1))] [] σ14 (fun v σ' => ∃ q, v = some (.inl q) ∧ sg_R q ∧ sg_F [6, 16, 24, 29, 30, 31, 32, 33, 34, 39, 40, 41, 42, 43, 44, 7028, 10038, 11038, 12038, 13038, 14038] σ σ' ∧ Q q σ') := by
    intro σ14 hF15 w
    have w := w25 σ14 hF15 w
    refine wk_b tt_29 2 (pc' := 64) (ls' := [(0, .inr (.inr (.ref 38))), (1, .inl (a1))]) (st' := [.inl ((sg_g σ14 38 13))]) (σ' := σ14) rfl ?_
    refine wk_if tt_29 (tgt := 90) rfl rfl (sg_Rg _ _ _) (fun (h28 : ¬ (sg_g σ14 38 13) = 0) => ?_) (fun (h28 : (sg_g σ14 38 13) = 0) => ?_)
    ·
      have w := w.1 h28
      refine wk_b tt_29 2 (pc' := 94) (ls' := [(0, .inr (.inr (.ref 38))), (1, .inl (a1))]) (st' := [.inl ((sg_g σ14 38 12))]) (σ' := σ14) rfl ?_
      exact wk_rI tt_29 rfl rfl ⟨_, rfl, (sg_Rg _ _ _), (sg_F_t (sg_F_t (sg_F_t (sg_F_t (sg_F_t (sg_F_r [6, 16, 24, 29, 30, 31, 32, 33, 34, 39, 40, 41, 42, 43, 44, 7028, 10038, 11038, 12038, 13038, 14038] σ) (sg_F_m (L := [6, 16, 24, 29, 30, 31, 32, 33, 34, 39, 40, 41, 42, 43, 44, 7028, 10038, 11038, 12038, 13038, 14038]) hF3 rfl)) (sg_F_m (L := [6, 16, 24, 29, 30, 31, 32, 33, 34, 39, 40, 41, 42, 43, 44, 7028, 10038, 11038, 12038, 13038, 14038]) hF6 rfl)) (sg_F_m (L := [6, 16, 24, 29, 30, 31, 32, 33, 34, 39, 40, 41, 42, 43, 44, 7028, 10038, 11038, 12038, 13038, 14038]) hF9 rfl)) (sg_F_m (L := [6, 16, 24, 29, 30, 31, 32, 33, 34, 39, 40, 41, 42, 43, 44, 7028, 10038, 11038, 12038, 13038, 14038]) hF12 rfl)) (sg_F_m (L := [6, 16, 24, 29, 30, 31, 32, 33, 34, 39, 40, 41, 42, 43, 44, 7028, 10038, 11038, 12038, 13038, 14038]) hF15 rfl)), w⟩
    ·
      have w := w.2 h28
      refine wk_b tt_29 3 (pc' := 72) (ls' := [(0, .inr (.inr (.ref 38))), (1, .inl (a1))]) (st' := []) (σ' := (sg_w σ14 38 9 (0))) rfl ?_
      generalize hs30 : (sg_w σ14 38 9 (0)) = σ29
      have w := w σ29 hs30.symm
      have hF31 : sg_F [10038] σ14 σ29 := by rw [← hs30]; exact sg_F_w (sg_F_r _ _) rfl _
      refine wk_b tt_29 5 (pc' := 83) (ls' := [(0, .inr (.inr (.ref 38))), (1, .inl (a1))]) (st' := []) (σ' := (sg_w σ29 38 11 ((sg_g σ29 19 8)))) rfl ?_
      rw [show (sg_g σ29 19 8) = (sg_g σ 19 8) from by rw [sg_F_ga hF31 rfl, sg_F_ga hF15 rfl, sg_F_ga hF12 rfl, sg_F_ga hF9 rfl, sg_F_ga hF6 rfl, sg_F_ga hF3 rfl]]
      generalize hs33 : (sg_w σ29 38 11 ((sg_g σ 19 8))) = σ32
      have w := w σ32 hs33.symm
      have hF34 : sg_F [12038] σ29 σ32 := by rw [← hs33]; exact sg_F_w (sg_F_r _ _) rfl _
      refine wk_b tt_29 3 (pc' := 87) (ls' := [(0, .inr (.inr (.ref 38))), (1, .inl (a1))]) (st' := [.inl (a1), .inl (12), .inr (.inr (.ref 38))]) (σ' := σ32) rfl ?_
      refine wk_call tt_29 rfl rfl rfl rfl rfl tt_44 rfl (by decide) (w_kWalk z σ32 (12) (a1) _ (by decide) ra1 w) (fun u40 σ36 hq38 => ?_)
      obtain ⟨rfl, hF37, w⟩ := hq38
      have w := w hF37
      refine wk_b tt_29 2 (pc' := 94) (ls' := [(0, .inr (.inr (.ref 38))), (1, .inl (a1))]) (st' := [.inl ((sg_g σ36 38 12))]) (σ' := σ36) rfl ?_
      exact wk_rI tt_29 rfl rfl ⟨_, rfl, (sg_Rg _ _ _), (sg_F_t (sg_F_t (sg_F_t (sg_F_t (sg_F_t (sg_F_t (sg_F_t (sg_F_t (sg_F_r [6, 16, 24, 29, 30, 31, 32, 33, 34, 39, 40, 41, 42, 43, 44, 7028, 10038, 11038, 12038, 13038, 14038] σ) (sg_F_m (L := [6, 16, 24, 29, 30, 31, 32, 33, 34, 39, 40, 41, 42, 43, 44, 7028, 10038, 11038, 12038, 13038, 14038]) hF3 rfl)) (sg_F_m (L := [6, 16, 24, 29, 30, 31, 32, 33, 34, 39, 40, 41, 42, 43, 44, 7028, 10038, 11038, 12038, 13038, 14038]) hF6 rfl)) (sg_F_m (L := [6, 16, 24, 29, 30, 31, 32, 33, 34, 39, 40, 41, 42, 43, 44, 7028, 10038, 11038, 12038, 13038, 14038]) hF9 rfl)) (sg_F_m (L := [6, 16, 24, 29, 30, 31, 32, 33, 34, 39, 40, 41, 42, 43, 44, 7028, 10038, 11038, 12038, 13038, 14038]) hF12 rfl)) (sg_F_m (L := [6, 16, 24, 29, 30, 31, 32, 33, 34, 39, 40, 41, 42, 43, 44, 7028, 10038, 11038, 12038, 13038, 14038]) hF15 rfl)) (sg_F_m (L := [6, 16, 24, 29, 30, 31, 32, 33, 34, 39, 40, 41, 42, 43, 44, 7028, 10038, 11038, 12038, 13038, 14038]) hF31 rfl)) (sg_F_m (L := [6, 16, 24, 29, 30, 31, 32, 33, 34, 39, 40, 41, 42, 43, 44, 7028, 10038, 11038, 12038, 13038, 14038]) hF34 rfl)) (sg_F_m (L := [6, 16, 24, 29, 30, 31, 32, 33, 34, 39, 40, 41, 42, 43, 44, 7028, 10038, 11038, 12038, 13038, 14038]) hF37 rfl)), w⟩
  have lp22 : ∀ (n26 : Nat) (v13 : Int) (σ14 : sg_S), sg_R v13 → sg_F [6, 16, 24, 29, 30, 31, 32, 33, 34, 39, 40, 41, 42, 43, 44, 7028, 10038, 11038, 12038, 13038, 14038] σ10 σ14 → I16 n26 v13 σ14 → wx z 6 29 25 [(0, .inr (.inr (.ref 38))), (1, .inl (a1)), (2, .inl (v13))] [] σ14 (fun v σ' => ∃ q, v = some (.inl q) ∧ sg_R q ∧ sg_F [6, 16, 24, 29, 30, 31, 32, 33, 34, 39, 40, 41, 42, 43, 44, 7028, 10038, 11038, 12038, 13038, 14038] σ σ' ∧ Q q σ') := by
    intro n26
    induction n26 using Nat.strongRecOn with
    | _ n26 ih20 =>
      intro v13 σ14 r19 hF15 w
      have w := w24 n26 v13 σ14 r19 hF15 w
      refine wk_b tt_29 4 (pc' := 33) (ls' := [(0, .inr (.inr (.ref 38))), (1, .inl (a1)), (2, .inl (v13))]) (st' := [.inl ((sg_g σ14 19 8)), .inl (v13)]) (σ' := σ14) rfl ?_
      rw [show (sg_g σ14 19 8) = (sg_g σ 19 8) from by rw [sg_F_ga hF15 rfl, sg_F_ga hF12 rfl, sg_F_ga hF9 rfl, sg_F_ga hF6 rfl, sg_F_ga hF3 rfl]]
      refine wk_if2 tt_29 (tgt := 60) rfl rfl r19 (sg_Rg _ _ _) (fun (h41 : (sg_g σ 19 8) ≤ v13) => ?_) (fun (h41 : v13 < (sg_g σ 19 8)) => ?_)
      ·
        have w := w.1 h41
        exact wk_ls [(0, .inr (.inr (.ref 38))), (1, .inl (a1))] rfl ⟨rfl, rfl, trivial⟩ (ex27  σ14  (sg_F_t (sg_F_r [6, 16, 24, 29, 30, 31, 32, 33, 34, 39, 40, 41, 42, 43, 44, 7028, 10038, 11038, 12038, 13038, 14038] σ10) (sg_F_m (L := [6, 16, 24, 29, 30, 31, 32, 33, 34, 39, 40, 41, 42, 43, 44, 7028, 10038, 11038, 12038, 13038, 14038]) hF15 rfl)) w)
      ·
        have w := w.2 h41
        refine wk_b tt_29 2 (pc' := 39) (ls' := [(0, .inr (.inr (.ref 38))), (1, .inl (a1)), (2, .inl (v13))]) (st' := [.inl (12), .inl (v13)]) (σ' := σ14) rfl ?_
        refine wk_if2 tt_29 (tgt := 60) rfl rfl r19 (by decide) (fun (h42 : 12 ≤ v13) => ?_) (fun (h42 : v13 < 12) => ?_)
        ·
          have w := w.1 h42
          exact wk_ls [(0, .inr (.inr (.ref 38))), (1, .inl (a1))] rfl ⟨rfl, rfl, trivial⟩ (ex27  σ14  (sg_F_t (sg_F_r [6, 16, 24, 29, 30, 31, 32, 33, 34, 39, 40, 41, 42, 43, 44, 7028, 10038, 11038, 12038, 13038, 14038] σ10) (sg_F_m (L := [6, 16, 24, 29, 30, 31, 32, 33, 34, 39, 40, 41, 42, 43, 44, 7028, 10038, 11038, 12038, 13038, 14038]) hF15 rfl)) w)
        ·
          have w := w.2 h42
          refine wk_b tt_29 2 (pc' := 46) (ls' := [(0, .inr (.inr (.ref 38))), (1, .inl (a1)), (2, .inl (v13))]) (st' := [.inl ((sg_g σ14 38 13))]) (σ' := σ14) rfl ?_
          refine wk_if tt_29 (tgt := 60) rfl rfl (sg_Rg _ _ _) (fun (h43 : ¬ (sg_g σ14 38 13) = 0) => ?_) (fun (h43 : (sg_g σ14 38 13) = 0) => ?_)
          ·
            have w := w.1 h43
            exact wk_ls [(0, .inr (.inr (.ref 38))), (1, .inl (a1))] rfl ⟨rfl, rfl, trivial⟩ (ex27  σ14  (sg_F_t (sg_F_r [6, 16, 24, 29, 30, 31, 32, 33, 34, 39, 40, 41, 42, 43, 44, 7028, 10038, 11038, 12038, 13038, 14038] σ10) (sg_F_m (L := [6, 16, 24, 29, 30, 31, 32, 33, 34, 39, 40, 41, 42, 43, 44, 7028, 10038, 11038, 12038, 13038, 14038]) hF15 rfl)) w)
          ·
            have w := w.2 h43
            refine wk_b tt_29 2 (pc' := 51) (ls' := [(0, .inr (.inr (.ref 38))), (1, .inl (a1)), (2, .inl (v13))]) (st' := [.inl (v13), .inr (.inr (.ref 38))]) (σ' := σ14) rfl ?_
            refine wk_call tt_29 rfl rfl rfl rfl rfl tt_31 rfl (by decide) (w_kDefinition z σ14 (v13) _ r19 w) (fun u49 σ45 hq47 => ?_)
            obtain ⟨rfl, hF46, w⟩ := hq47
            have w := w hF46
            obtain ⟨c50, w⟩ := w
            refine wk_b tt_29 2 (pc' := 25) (ls' := [(2, .inl ((v13 + 1))), (0, .inr (.inr (.ref 38))), (1, .inl (a1))]) (st' := []) (σ' := σ45) rfl ?_
            obtain ⟨m51, hm51, w⟩ := w
            exact wk_ls [(0, .inr (.inr (.ref 38))), (1, .inl (a1)), (2, .inl ((v13 + 1)))] rfl ⟨rfl, rfl, rfl, trivial⟩ (ih20 m51 hm51 ((v13 + 1)) σ45 c50 (sg_F_t (sg_F_t (sg_F_r [6, 16, 24, 29, 30, 31, 32, 33, 34, 39, 40, 41, 42, 43, 44, 7028, 10038, 11038, 12038, 13038, 14038] σ10) (sg_F_m (L := [6, 16, 24, 29, 30, 31, 32, 33, 34, 39, 40, 41, 42, 43, 44, 7028, 10038, 11038, 12038, 13038, 14038]) hF15 rfl)) (sg_F_m (L := [6, 16, 24, 29, 30, 31, 32, 33, 34, 39, 40, 41, 42, 43, 44, 7028, 10038, 11038, 12038, 13038, 14038]) hF46 rfl)) w)
  exact wk_ls [(0, .inr (.inr (.ref 38))), (1, .inl (a1)), (2, .inl (0))] rfl ⟨rfl, rfl, rfl, trivial⟩ (lp22 μ17 (0) σ10 (by decide) (sg_F_r _ _) w23)
