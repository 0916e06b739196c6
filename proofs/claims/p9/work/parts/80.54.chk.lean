/-! What the methods of Checker ask for (5). -/
-- NestedVectors$Checker.depthOfParts
def V_kDepthOfParts_275 (σ : sg_S) (b3 : Int) (Q : Int → sg_S → Prop) : Prop := ((b3 ≤ 1 → Q ((-1)) σ) ∧ (1 < b3 → sg_R (b3 - 1) ∧ Q ((b3 - 1)) σ))
set_option maxHeartbeats 4000000 in
set_option maxRecDepth 8000 in
theorem w_kDepthOfParts_275 (z : Value) (σ : sg_S) (b3 : Int) (Q : Int → sg_S → Prop) (rb3 : sg_R b3) (w : V_kDepthOfParts_275 σ b3 Q) : wx z 0 36 266 [(3, .inl (b3))] [] σ (fun v σ' => ∃ q, v = some (.inl q) ∧ sg_R q ∧ σ = σ' ∧ Q q σ') := by
  unfold V_kDepthOfParts_275 at w
  refine wk_b tt_36 2 (pc' := 268) (ls' := [(3, .inl (b3))]) (st' := [.inl (1), .inl (b3)]) (σ' := σ) rfl ?_
  refine wk_if2 tt_36 (tgt := 277) rfl rfl rb3 (by decide) (fun (h1 : b3 ≤ 1) => ?_) (fun (h1 : 1 < b3) => ?_)
  ·
    have w := w.1 h1
    refine wk_b tt_36 1 (pc' := 278) (ls' := [(3, .inl (b3))]) (st' := [.inl ((-1))]) (σ' := σ) rfl ?_
    exact wk_rI tt_36 rfl rfl ⟨_, rfl, (by decide), rfl, w⟩
  ·
    have w := w.2 h1
    obtain ⟨c2, w⟩ := w
    refine wk_b tt_36 4 (pc' := 278) (ls' := [(3, .inl (b3))]) (st' := [.inl ((b3 - 1))]) (σ' := σ) rfl ?_
    exact wk_rI tt_36 rfl rfl ⟨_, rfl, c2, rfl, w⟩
-- NestedVectors$Checker.depthOfParts
def V_kDepthOfParts_276 (σ : sg_S) (b3 : Int) (b4 : Int) (Q : Int → sg_S → Prop) : Prop := ((b3 ≤ 0 → Q ((-1)) σ) ∧ (0 < b3 → ((¬ b4 = 1 → Q ((-1)) σ) ∧ (b4 = 1 → Q (b3) σ))))
set_option maxHeartbeats 4000000 in
set_option maxRecDepth 8000 in
theorem w_kDepthOfParts_276 (z : Value) (σ : sg_S) (b3 : Int) (b4 : Int) (Q : Int → sg_S → Prop) (rb3 : sg_R b3) (rb4 : sg_R b4) (w : V_kDepthOfParts_276 σ b3 b4 Q) : wx z 0 36 279 [(3, .inl (b3)), (4, .inl (b4))] [] σ (fun v σ' => ∃ q, v = some (.inl q) ∧ sg_R q ∧ σ = σ' ∧ Q q σ') := by
  unfold V_kDepthOfParts_276 at w
  refine wk_b tt_36 1 (pc' := 280) (ls' := [(3, .inl (b3)), (4, .inl (b4))]) (st' := [.inl (b3)]) (σ' := σ) rfl ?_
  refine wk_if tt_36 (tgt := 293) rfl rfl rb3 (fun (h1 : b3 ≤ 0) => ?_) (fun (h1 : 0 < b3) => ?_)
  ·
    have w := w.1 h1
    refine wk_b tt_36 1 (pc' := 294) (ls' := [(3, .inl (b3)), (4, .inl (b4))]) (st' := [.inl ((-1))]) (σ' := σ) rfl ?_
    exact wk_rI tt_36 rfl rfl ⟨_, rfl, (by decide), rfl, w⟩
  ·
    have w := w.2 h1
    refine wk_b tt_36 2 (pc' := 286) (ls' := [(3, .inl (b3)), (4, .inl (b4))]) (st' := [.inl (1), .inl (b4)]) (σ' := σ) rfl ?_
    refine wk_if2 tt_36 (tgt := 293) rfl rfl rb4 (by decide) (fun (h2 : ¬ b4 = 1) => ?_) (fun (h2 : b4 = 1) => ?_)
    ·
      have w := w.1 h2
      refine wk_b tt_36 1 (pc' := 294) (ls' := [(3, .inl (b3)), (4, .inl (b4))]) (st' := [.inl ((-1))]) (σ' := σ) rfl ?_
      exact wk_rI tt_36 rfl rfl ⟨_, rfl, (by decide), rfl, w⟩
    ·
      have w := w.2 h2
      refine wk_b tt_36 2 (pc' := 294) (ls' := [(3, .inl (b3)), (4, .inl (b4))]) (st' := [.inl (b3)]) (σ' := σ) rfl ?_
      exact wk_rI tt_36 rfl rfl ⟨_, rfl, rb3, rfl, w⟩
-- NestedVectors$Checker.depthOfParts
def V_kDepthOfParts_278 (σ : sg_S) (b3 : Int) (b4 : Int) (Q : Int → sg_S → Prop) : Prop := ((b3 ≤ 0 → Q ((-1)) σ) ∧ (0 < b3 → ((¬ b4 = 1 → Q ((-1)) σ) ∧ (b4 = 1 → sg_R (b3 + 1) ∧ Q ((b3 + 1)) σ))))
set_option maxHeartbeats 4000000 in
set_option maxRecDepth 8000 in
theorem w_kDepthOfParts_278 (z : Value) (σ : sg_S) (b3 : Int) (b4 : Int) (Q : Int → sg_S → Prop) (rb3 : sg_R b3) (rb4 : sg_R b4) (w : V_kDepthOfParts_278 σ b3 b4 Q) : wx z 0 36 295 [(3, .inl (b3)), (4, .inl (b4))] [] σ (fun v σ' => ∃ q, v = some (.inl q) ∧ sg_R q ∧ σ = σ' ∧ Q q σ') := by
  unfold V_kDepthOfParts_278 at w
  refine wk_b tt_36 1 (pc' := 296) (ls' := [(3, .inl (b3)), (4, .inl (b4))]) (st' := [.inl (b3)]) (σ' := σ) rfl ?_
  refine wk_if tt_36 (tgt := 311) rfl rfl rb3 (fun (h1 : b3 ≤ 0) => ?_) (fun (h1 : 0 < b3) => ?_)
  ·
    have w := w.1 h1
    refine wk_b tt_36 1 (pc' := 312) (ls' := [(3, .inl (b3)), (4, .inl (b4))]) (st' := [.inl ((-1))]) (σ' := σ) rfl ?_
    exact wk_rI tt_36 rfl rfl ⟨_, rfl, (by decide), rfl, w⟩
  ·
    have w := w.2 h1
    refine wk_b tt_36 2 (pc' := 302) (ls' := [(3, .inl (b3)), (4, .inl (b4))]) (st' := [.inl (1), .inl (b4)]) (σ' := σ) rfl ?_
    refine wk_if2 tt_36 (tgt := 311) rfl rfl rb4 (by decide) (fun (h2 : ¬ b4 = 1) => ?_) (fun (h2 : b4 = 1) => ?_)
    ·
      have w := w.1 h2
      refine wk_b tt_36 1 (pc' := 312) (ls' := [(3, .inl (b3)), (4, .inl (b4))]) (st' := [.inl ((-1))]) (σ' := σ) rfl ?_
      exact wk_rI tt_36 rfl rfl ⟨_, rfl, (by decide), rfl, w⟩
    ·
      have w := w.2 h2
      obtain ⟨c3, w⟩ := w
      refine wk_b tt_36 4 (pc' := 312) (ls' := [(3, .inl (b3)), (4, .inl (b4))]) (st' := [.inl ((b3 + 1))]) (σ' := σ) rfl ?_
      exact wk_rI tt_36 rfl rfl ⟨_, rfl, c3, rfl, w⟩
-- NestedVectors$Checker.depthOfParts
def V_kDepthOfParts_d (σ : sg_S) (b3 : Int) (b4 : Int) (Q : Int → sg_S → Prop) : Prop := ((¬ b3 = 0 → Q ((-1)) σ) ∧ (b3 = 0 → ((¬ b4 = 0 → Q ((-1)) σ) ∧ (b4 = 0 → Q (0) σ))))
set_option maxHeartbeats 4000000 in
set_option maxRecDepth 8000 in
theorem w_kDepthOfParts_d (z : Value) (σ : sg_S) (b3 : Int) (b4 : Int) (Q : Int → sg_S → Prop) (rb3 : sg_R b3) (rb4 : sg_R b4) (w : V_kDepthOfParts_d σ b3 b4 Q) : wx z 0 36 313 [(3, .inl (b3)), (4, .inl (b4))] [] σ (fun v σ' => ∃ q, v = some (.inl q) ∧ sg_R q ∧ σ = σ' ∧ Q q σ') := by
  unfold V_kDepthOfParts_d at w
  refine wk_b tt_36 1 (pc' := 314) (ls' := [(3, .inl (b3)), (4, .inl (b4))]) (st' := [.inl (b3)]) (σ' := σ) rfl ?_
  refine wk_if tt_36 (tgt := 326) rfl rfl rb3 (fun (h1 : ¬ b3 = 0) => ?_) (fun (h1 : b3 = 0) => ?_)
  ·
    have w := w.1 h1
    refine wk_b tt_36 1 (pc' := 327) (ls' := [(3, .inl (b3)), (4, .inl (b4))]) (st' := [.inl ((-1))]) (σ' := σ) rfl ?_
    exact wk_rI tt_36 rfl rfl ⟨_, rfl, (by decide), rfl, w⟩
  ·
    have w := w.2 h1
    refine wk_b tt_36 1 (pc' := 319) (ls' := [(3, .inl (b3)), (4, .inl (b4))]) (st' := [.inl (b4)]) (σ' := σ) rfl ?_
    refine wk_if tt_36 (tgt := 326) rfl rfl rb4 (fun (h2 : ¬ b4 = 0) => ?_) (fun (h2 : b4 = 0) => ?_)
    ·
      have w := w.1 h2
      refine wk_b tt_36 1 (pc' := 327) (ls' := [(3, .inl (b3)), (4, .inl (b4))]) (st' := [.inl ((-1))]) (σ' := σ) rfl ?_
      exact wk_rI tt_36 rfl rfl ⟨_, rfl, (by decide), rfl, w⟩
    ·
      have w := w.2 h2
      refine wk_b tt_36 2 (pc' := 327) (ls' := [(3, .inl (b3)), (4, .inl (b4))]) (st' := [.inl (0)]) (σ' := σ) rfl ?_
      exact wk_rI tt_36 rfl rfl ⟨_, rfl, (by decide), rfl, w⟩
-- NestedVectors$Checker.depthOfParts
def V_kDepthOfParts (σ : sg_S) (a1 : Int) (a2 : Int) (Q : Int → sg_S → Prop) : Prop := ((a2 = 35 → V_kDepthOfParts_35 σ ((sx_at σ 6 200 ((sx_at σ 7 200 (a1))))) Q) ∧ (¬ a2 = 35 → ((a2 = 91 → V_kDepthOfParts_91 σ ((sx_at σ 6 200 ((sx_at σ 7 200 (a1))))) ((sx_at σ 6 200 ((sx_at σ 8 200 (a1))))) Q) ∧ (¬ a2 = 91 → ((a2 = 267 → V_kDepthOfParts_267 σ ((sx_at σ 6 200 ((sx_at σ 7 200 (a1))))) Q) ∧ (¬ a2 = 267 → ((a2 = 268 → V_kDepthOfParts_268 σ ((sx_at σ 6 200 ((sx_at σ 7 200 (a1))))) ((sx_at σ 6 200 ((sx_at σ 8 200 (a1))))) Q) ∧ (¬ a2 = 268 → ((a2 = 269 → V_kDepthOfParts_269 σ ((sx_at σ 6 200 ((sx_at σ 7 200 (a1))))) Q) ∧ (¬ a2 = 269 → ((a2 = 270 → V_kDepthOfParts_269 σ ((sx_at σ 6 200 ((sx_at σ 7 200 (a1))))) Q) ∧ (¬ a2 = 270 → ((a2 = 271 → V_kDepthOfParts_269 σ ((sx_at σ 6 200 ((sx_at σ 7 200 (a1))))) Q) ∧ (¬ a2 = 271 → ((a2 = 272 → V_kDepthOfParts_272 σ ((sx_at σ 6 200 ((sx_at σ 7 200 (a1))))) Q) ∧ (¬ a2 = 272 → ((a2 = 273 → V_kDepthOfParts_273 σ ((sx_at σ 6 200 ((sx_at σ 7 200 (a1))))) Q) ∧ (¬ a2 = 273 → ((a2 = 274 → V_kDepthOfParts_274 σ ((sx_at σ 6 200 ((sx_at σ 7 200 (a1))))) ((sx_at σ 6 200 ((sx_at σ 8 200 (a1))))) Q) ∧ (¬ a2 = 274 → ((a2 = 275 → V_kDepthOfParts_275 σ ((sx_at σ 6 200 ((sx_at σ 7 200 (a1))))) Q) ∧ (¬ a2 = 275 → ((a2 = 276 → V_kDepthOfParts_276 σ ((sx_at σ 6 200 ((sx_at σ 7 200 (a1))))) ((sx_at σ 6 200 ((sx_at σ 8 200 (a1))))) Q) ∧ (¬ a2 = 276 → ((a2 = 277 → V_kDepthOfParts_276 σ ((sx_at σ 6 200 ((sx_at σ 7 200 (a1))))) ((sx_at σ 6 200 ((sx_at σ 8 200 (a1))))) Q) ∧ (¬ a2 = 277 → ((a2 = 278 → V_kDepthOfParts_278 σ ((sx_at σ 6 200 ((sx_at σ 7 200 (a1))))) ((sx_at σ 6 200 ((sx_at σ 8 200 (a1))))) Q) ∧ (¬ a2 = 278 → V_kDepthOfParts_d σ ((sx_at σ 6 200 ((sx_at σ 7 200 (a1))))) ((sx_at σ 6 200 ((sx_at σ 8 200 (a1))))) Q))))))))))))))))))))))))))))
set_option maxHeartbeats 4000000 in
set_option maxRecDepth 8000 in
theorem w_kDepthOfParts (z : Value) (σ : sg_S) (a1 : Int) (a2 : Int) (Q : Int → sg_S → Prop) (ra1 : sg_R a1) (ra2 : sg_R a2) (w : V_kDepthOfParts σ a1 a2 Q) : wx z 1 36 0 [(0, .inr (.inr (.ref 38))), (1, .inl (a1)), (2, .inl (a2))] [] σ (fun v σ' => ∃ q, v = some (.inl q) ∧ sg_R q ∧ σ = σ' ∧ Q q σ') := by
  unfold V_kDepthOfParts at w
  refine wk_b tt_36 7 (pc' := 15) (ls' := [(0, .inr (.inr (.ref 38))), (1, .inl (a1)), (2, .inl (a2))]) (st' := [.inl (a1), .inr (.inr (.ref 7)), .inr (.inr (.ref 6))]) (σ' := σ) rfl ?_
  refine wk_callp tt_36 rfl rfl rfl rfl rfl tt_5 rfl (by decide) (at_i0 z σ 7 200 (a1) rfl (by decide) ra1) ?_
  show wx z 1 36 18 [(0, .inr (.inr (.ref 38))), (1, .inl (a1)), (2, .inl (a2))] [.inl ((sx_at σ 7 200 (a1))), .inr (.inr (.ref 6))] σ (fun v σ' => ∃ q, v = some (.inl q) ∧ sg_R q ∧ σ = σ' ∧ Q q σ')
  refine wk_callp tt_36 rfl rfl rfl rfl rfl tt_5 rfl (by decide) (at_i0 z σ 6 200 ((sx_at σ 7 200 (a1))) rfl (by decide) (sx_R ..)) ?_
  show wx z 1 36 21 [(0, .inr (.inr (.ref 38))), (1, .inl (a1)), (2, .inl (a2))] [.inl ((sx_at σ 6 200 ((sx_at σ 7 200 (a1)))))] σ (fun v σ' => ∃ q, v = some (.inl q) ∧ sg_R q ∧ σ = σ' ∧ Q q σ')
  refine wk_b tt_36 8 (pc' := 37) (ls' := [(3, .inl ((sx_at σ 6 200 ((sx_at σ 7 200 (a1)))))), (0, .inr (.inr (.ref 38))), (1, .inl (a1)), (2, .inl (a2))]) (st' := [.inl (a1), .inr (.inr (.ref 8)), .inr (.inr (.ref 6))]) (σ' := σ) rfl ?_
  refine wk_callp tt_36 rfl rfl rfl rfl rfl tt_5 rfl (by decide) (at_i0 z σ 8 200 (a1) rfl (by decide) ra1) ?_
  show wx z 1 36 40 [(3, .inl ((sx_at σ 6 200 ((sx_at σ 7 200 (a1)))))), (0, .inr (.inr (.ref 38))), (1, .inl (a1)), (2, .inl (a2))] [.inl ((sx_at σ 8 200 (a1))), .inr (.inr (.ref 6))] σ (fun v σ' => ∃ q, v = some (.inl q) ∧ sg_R q ∧ σ = σ' ∧ Q q σ')
  refine wk_callp tt_36 rfl rfl rfl rfl rfl tt_5 rfl (by decide) (at_i0 z σ 6 200 ((sx_at σ 8 200 (a1))) rfl (by decide) (sx_R ..)) ?_
  show wx z 1 36 43 [(3, .inl ((sx_at σ 6 200 ((sx_at σ 7 200 (a1)))))), (0, .inr (.inr (.ref 38))), (1, .inl (a1)), (2, .inl (a2))] [.inl ((sx_at σ 6 200 ((sx_at σ 8 200 (a1)))))] σ (fun v σ' => ∃ q, v = some (.inl q) ∧ sg_R q ∧ σ = σ' ∧ Q q σ')
  refine wk_b tt_36 2 (pc' := 46) (ls' := [(4, .inl ((sx_at σ 6 200 ((sx_at σ 8 200 (a1)))))), (3, .inl ((sx_at σ 6 200 ((sx_at σ 7 200 (a1)))))), (0, .inr (.inr (.ref 38))), (1, .inl (a1)), (2, .inl (a2))]) (st' := [.inl (a2)]) (σ' := σ) rfl ?_
  by_cases e1 : a2 = 35
  · have w := w.1 e1
    refine wk_lw tt_36 (off := 122) (tgt := 168) rfl (by decide) ra2 (by rw [e1]; decide) rfl ?_
    refine wk_ls [(3, .inl ((sx_at σ 6 200 ((sx_at σ 7 200 (a1))))))] rfl ⟨rfl, trivial⟩ ?_
    exact wk_post (wk_d (by decide) (w_kDepthOfParts_35 z σ ((sx_at σ 6 200 ((sx_at σ 7 200 (a1))))) Q (sx_R ..) w)) (fun v σ' ⟨q, e, r, hF, hQ⟩ => ⟨q, e, r, hF, hQ⟩)
  have w := w.2 e1
  by_cases e3 : a2 = 91
  · have w := w.1 e3
    refine wk_lw tt_36 (off := 132) (tgt := 178) rfl (by decide) ra2 (by rw [e3]; decide) rfl ?_
    refine wk_ls [(3, .inl ((sx_at σ 6 200 ((sx_at σ 7 200 (a1)))))), (4, .inl ((sx_at σ 6 200 ((sx_at σ 8 200 (a1))))))] rfl ⟨rfl, rfl, trivial⟩ ?_
    exact wk_post (wk_d (by decide) (w_kDepthOfParts_91 z σ ((sx_at σ 6 200 ((sx_at σ 7 200 (a1))))) ((sx_at σ 6 200 ((sx_at σ 8 200 (a1))))) Q (sx_R ..) (sx_R ..) w)) (fun v σ' ⟨q, e, r, hF, hQ⟩ => ⟨q, e, r, hF, hQ⟩)
  have w := w.2 e3
  by_cases e5 : a2 = 267
  · have w := w.1 e5
    refine wk_lw tt_36 (off := 149) (tgt := 195) rfl (by decide) ra2 (by rw [e5]; decide) rfl ?_
    refine wk_ls [(3, .inl ((sx_at σ 6 200 ((sx_at σ 7 200 (a1))))))] rfl ⟨rfl, trivial⟩ ?_
    exact wk_post (wk_d (by decide) (w_kDepthOfParts_267 z σ ((sx_at σ 6 200 ((sx_at σ 7 200 (a1))))) Q (sx_R ..) w)) (fun v σ' ⟨q, e, r, hF, hQ⟩ => ⟨q, e, r, hF, hQ⟩)
  have w := w.2 e5
  by_cases e7 : a2 = 268
  · have w := w.1 e7
    refine wk_lw tt_36 (off := 159) (tgt := 205) rfl (by decide) ra2 (by rw [e7]; decide) rfl ?_
    refine wk_ls [(3, .inl ((sx_at σ 6 200 ((sx_at σ 7 200 (a1)))))), (4, .inl ((sx_at σ 6 200 ((sx_at σ 8 200 (a1))))))] rfl ⟨rfl, rfl, trivial⟩ ?_
    exact wk_post (wk_d (by decide) (w_kDepthOfParts_268 z σ ((sx_at σ 6 200 ((sx_at σ 7 200 (a1))))) ((sx_at σ 6 200 ((sx_at σ 8 200 (a1))))) Q (sx_R ..) (sx_R ..) w)) (fun v σ' ⟨q, e, r, hF, hQ⟩ => ⟨q, e, r, hF, hQ⟩)
  have w := w.2 e7
  by_cases e9 : a2 = 269
  · have w := w.1 e9
    refine wk_lw tt_36 (off := 172) (tgt := 218) rfl (by decide) ra2 (by rw [e9]; decide) rfl ?_
    refine wk_ls [(3, .inl ((sx_at σ 6 200 ((sx_at σ 7 200 (a1))))))] rfl ⟨rfl, trivial⟩ ?_
    exact wk_post (wk_d (by decide) (w_kDepthOfParts_269 z σ ((sx_at σ 6 200 ((sx_at σ 7 200 (a1))))) Q (sx_R ..) w)) (fun v σ' ⟨q, e, r, hF, hQ⟩ => ⟨q, e, r, hF, hQ⟩)
  have w := w.2 e9
  by_cases e11 : a2 = 270
  · have w := w.1 e11
    refine wk_lw tt_36 (off := 172) (tgt := 218) rfl (by decide) ra2 (by rw [e11]; decide) rfl ?_
    refine wk_ls [(3, .inl ((sx_at σ 6 200 ((sx_at σ 7 200 (a1))))))] rfl ⟨rfl, trivial⟩ ?_
    exact wk_post (wk_d (by decide) (w_kDepthOfParts_269 z σ ((sx_at σ 6 200 ((sx_at σ 7 200 (a1))))) Q (sx_R ..) w)) (fun v σ' ⟨q, e, r, hF, hQ⟩ => ⟨q, e, r, hF, hQ⟩)
  have w := w.2 e11
  by_cases e13 : a2 = 271
  · have w := w.1 e13
    refine wk_lw tt_36 (off := 172) (tgt := 218) rfl (by decide) ra2 (by rw [e13]; decide) rfl ?_
    refine wk_ls [(3, .inl ((sx_at σ 6 200 ((sx_at σ 7 200 (a1))))))] rfl ⟨rfl, trivial⟩ ?_
    exact wk_post (wk_d (by decide) (w_kDepthOfParts_269 z σ ((sx_at σ 6 200 ((sx_at σ 7 200 (a1))))) Q (sx_R ..) w)) (fun v σ' ⟨q, e, r, hF, hQ⟩ => ⟨q, e, r, hF, hQ⟩)
  have w := w.2 e13
  by_cases e15 : a2 = 272
  · have w := w.1 e15
    refine wk_lw tt_36 (off := 183) (tgt := 229) rfl (by decide) ra2 (by rw [e15]; decide) rfl ?_
    refine wk_ls [(3, .inl ((sx_at σ 6 200 ((sx_at σ 7 200 (a1))))))] rfl ⟨rfl, trivial⟩ ?_
    exact wk_post (wk_d (by decide) (w_kDepthOfParts_272 z σ ((sx_at σ 6 200 ((sx_at σ 7 200 (a1))))) Q (sx_R ..) w)) (fun v σ' ⟨q, e, r, hF, hQ⟩ => ⟨q, e, r, hF, hQ⟩)
  have w := w.2 e15
  by_cases e17 : a2 = 273
  · have w := w.1 e17
    refine wk_lw tt_36 (off := 194) (tgt := 240) rfl (by decide) ra2 (by rw [e17]; decide) rfl ?_
    refine wk_ls [(3, .inl ((sx_at σ 6 200 ((sx_at σ 7 200 (a1))))))] rfl ⟨rfl, trivial⟩ ?_
    exact wk_post (wk_d (by decide) (w_kDepthOfParts_273 z σ ((sx_at σ 6 200 ((sx_at σ 7 200 (a1))))) Q (sx_R ..) w)) (fun v σ' ⟨q, e, r, hF, hQ⟩ => ⟨q, e, r, hF, hQ⟩)
  have w := w.2 e17
  by_cases e19 : a2 = 274
  · have w := w.1 e19
    refine wk_lw tt_36 (off := 204) (tgt := 250) rfl (by decide) ra2 (by rw [e19]; decide) rfl ?_
    refine wk_ls [(3, .inl ((sx_at σ 6 200 ((sx_at σ 7 200 (a1)))))), (4, .inl ((sx_at σ 6 200 ((sx_at σ 8 200 (a1))))))] rfl ⟨rfl, rfl, trivial⟩ ?_
    exact wk_post (wk_d (by decide) (w_kDepthOfParts_274 z σ ((sx_at σ 6 200 ((sx_at σ 7 200 (a1))))) ((sx_at σ 6 200 ((sx_at σ 8 200 (a1))))) Q (sx_R ..) (sx_R ..) w)) (fun v σ' ⟨q, e, r, hF, hQ⟩ => ⟨q, e, r, hF, hQ⟩)
  have w := w.2 e19
  by_cases e21 : a2 = 275
  · have w := w.1 e21
    refine wk_lw tt_36 (off := 220) (tgt := 266) rfl (by decide) ra2 (by rw [e21]; decide) rfl ?_
    refine wk_ls [(3, .inl ((sx_at σ 6 200 ((sx_at σ 7 200 (a1))))))] rfl ⟨rfl, trivial⟩ ?_
    exact wk_post (wk_d (by decide) (w_kDepthOfParts_275 z σ ((sx_at σ 6 200 ((sx_at σ 7 200 (a1))))) Q (sx_R ..) w)) (fun v σ' ⟨q, e, r, hF, hQ⟩ => ⟨q, e, r, hF, hQ⟩)
  have w := w.2 e21
  by_cases e23 : a2 = 276
  · have w := w.1 e23
    refine wk_lw tt_36 (off := 233) (tgt := 279) rfl (by decide) ra2 (by rw [e23]; decide) rfl ?_
    refine wk_ls [(3, .inl ((sx_at σ 6 200 ((sx_at σ 7 200 (a1)))))), (4, .inl ((sx_at σ 6 200 ((sx_at σ 8 200 (a1))))))] rfl ⟨rfl, rfl, trivial⟩ ?_
    exact wk_post (wk_d (by decide) (w_kDepthOfParts_276 z σ ((sx_at σ 6 200 ((sx_at σ 7 200 (a1))))) ((sx_at σ 6 200 ((sx_at σ 8 200 (a1))))) Q (sx_R ..) (sx_R ..) w)) (fun v σ' ⟨q, e, r, hF, hQ⟩ => ⟨q, e, r, hF, hQ⟩)
  have w := w.2 e23
  by_cases e25 : a2 = 277
  · have w := w.1 e25
    refine wk_lw tt_36 (off := 233) (tgt := 279) rfl (by decide) ra2 (by rw [e25]; decide) rfl ?_
    refine wk_ls [(3, .inl ((sx_at σ 6 200 ((sx_at σ 7 200 (a1)))))), (4, .inl ((sx_at σ 6 200 ((sx_at σ 8 200 (a1))))))] rfl ⟨rfl, rfl, trivial⟩ ?_
    exact wk_post (wk_d (by decide) (w_kDepthOfParts_276 z σ ((sx_at σ 6 200 ((sx_at σ 7 200 (a1))))) ((sx_at σ 6 200 ((sx_at σ 8 200 (a1))))) Q (sx_R ..) (sx_R ..) w)) (fun v σ' ⟨q, e, r, hF, hQ⟩ => ⟨q, e, r, hF, hQ⟩)
  have w := w.2 e25
  by_cases e27 : a2 = 278
  · have w := w.1 e27
    refine wk_lw tt_36 (off := 249) (tgt := 295) rfl (by decide) ra2 (by rw [e27]; decide) rfl ?_
    refine wk_ls [(3, .inl ((sx_at σ 6 200 ((sx_at σ 7 200 (a1)))))), (4, .inl ((sx_at σ 6 200 ((sx_at σ 8 200 (a1))))))] rfl ⟨rfl, rfl, trivial⟩ ?_
    exact wk_post (wk_d (by decide) (w_kDepthOfParts_278 z σ ((sx_at σ 6 200 ((sx_at σ 7 200 (a1))))) ((sx_at σ 6 200 ((sx_at σ 8 200 (a1))))) Q (sx_R ..) (sx_R ..) w)) (fun v σ' ⟨q, e, r, hF, hQ⟩ => ⟨q, e, r, hF, hQ⟩)
  have w := w.2 e27
  refine wk_lw tt_36 (off := 267) (tgt := 313) rfl (by decide) ra2 (by simp only [Op.lookupswitch.offset]; rw [if_neg (fun h => e1 h.symm), if_neg (fun h => e3 h.symm), if_neg (fun h => e5 h.symm), if_neg (fun h => e7 h.symm), if_neg (fun h => e9 h.symm), if_neg (fun h => e11 h.symm), if_neg (fun h => e13 h.symm), if_neg (fun h => e15 h.symm), if_neg (fun h => e17 h.symm), if_neg (fun h => e19 h.symm), if_neg (fun h => e21 h.symm), if_neg (fun h => e23 h.symm), if_neg (fun h => e25 h.symm), if_neg (fun h => e27 h.symm)]) rfl ?_
  refine wk_ls [(3, .inl ((sx_at σ 6 200 ((sx_at σ 7 200 (a1)))))), (4, .inl ((sx_at σ 6 200 ((sx_at σ 8 200 (a1))))))] rfl ⟨rfl, rfl, trivial⟩ ?_
  exact wk_post (wk_d (by decide) (w_kDepthOfParts_d z σ ((sx_at σ 6 200 ((sx_at σ 7 200 (a1))))) ((sx_at σ 6 200 ((sx_at σ 8 200 (a1))))) Q (sx_R ..) (sx_R ..) w)) (fun v σ' ⟨q, e, r, hF, hQ⟩ => ⟨q, e, r, hF, hQ⟩)
-- NestedVectors$Checker.depthOf
def V_kDepthOf_d (σ : sg_S) (b1 : Int) (b2 : Int) (Q : Int → sg_S → Prop) : Prop := ((¬ (sx_at σ 10 200 (b1)) = (v_kPartsOf (b2)) → Q ((-1)) σ) ∧ ((sx_at σ 10 200 (b1)) = (v_kPartsOf (b2)) → V_kDepthOfParts σ (b1) (b2) (fun q3 _ => sg_R q3 → Q (q3) σ)))
set_option maxHeartbeats 4000000 in
set_option maxRecDepth 8000 in
theorem w_kDepthOf_d (z : Value) (σ : sg_S) (b1 : Int) (b2 : Int) (Q : Int → sg_S → Prop) (rb1 : sg_R b1) (rb2 : sg_R b2) (w : V_kDepthOf_d σ b1 b2 Q) : wx z 2 32 138 [(0, .inr (.inr (.ref 38))), (1, .inl (b1)), (2, .inl (b2))] [] σ (fun v σ' => ∃ q, v = some (.inl q) ∧ sg_R q ∧ σ = σ' ∧ Q q σ') := by
  unfold V_kDepthOf_d at w
  refine wk_b tt_32 4 (pc' := 146) (ls' := [(0, .inr (.inr (.ref 38))), (1, .inl (b1)), (2, .inl (b2))]) (st' := [.inl (b1), .inr (.inr (.ref 10))]) (σ' := σ) rfl ?_
  refine wk_callp tt_32 rfl rfl rfl rfl rfl tt_5 rfl (by decide) (at_i0 z σ 10 200 (b1) rfl (by decide) rb1) ?_
  show wx z 2 32 149 [(0, .inr (.inr (.ref 38))), (1, .inl (b1)), (2, .inl (b2))] [.inl ((sx_at σ 10 200 (b1)))] σ (fun v σ' => ∃ q, v = some (.inl q) ∧ sg_R q ∧ σ = σ' ∧ Q q σ')
  refine wk_b tt_32 1 (pc' := 150) (ls' := [(0, .inr (.inr (.ref 38))), (1, .inl (b1)), (2, .inl (b2))]) (st' := [.inl (b2), .inl ((sx_at σ 10 200 (b1)))]) (σ' := σ) rfl ?_
  refine wk_callp tt_32 rfl rfl rfl rfl rfl tt_42 rfl (by decide) (w_kPartsOf z σ (b2) rb2 ) ?_
  have r1 := vr_kPartsOf  (b2) rb2 
  refine wk_if2 tt_32 (tgt := 165) rfl rfl (sx_R ..) r1 (fun (h2 : ¬ (sx_at σ 10 200 (b1)) = (v_kPartsOf (b2))) => ?_) (fun (h2 : (sx_at σ 10 200 (b1)) = (v_kPartsOf (b2))) => ?_)
  ·
    have w := w.1 h2
    refine wk_b tt_32 1 (pc' := 166) (ls' := [(0, .inr (.inr (.ref 38))), (1, .inl (b1)), (2, .inl (b2))]) (st' := [.inl ((-1))]) (σ' := σ) rfl ?_
    exact wk_rI tt_32 rfl rfl ⟨_, rfl, (by decide), rfl, w⟩
  ·
    have w := w.2 h2
    refine wk_b tt_32 3 (pc' := 159) (ls' := [(0, .inr (.inr (.ref 38))), (1, .inl (b1)), (2, .inl (b2))]) (st' := [.inl (b2), .inl (b1), .inr (.inr (.ref 38))]) (σ' := σ) rfl ?_
    refine wk_call tt_32 rfl rfl rfl rfl rfl tt_36 rfl (by decide) (w_kDepthOfParts z σ (b1) (b2) _ rb1 rb2 w) (fun u8 σ4 hq6 => ?_)
    obtain ⟨q3, rfl, r7, rfl, w⟩ := hq6
    have w := w r7
    refine wk_b tt_32 1 (pc' := 166) (ls' := [(0, .inr (.inr (.ref 38))), (1, .inl (b1)), (2, .inl (b2))]) (st' := [.inl (q3)]) (σ' := σ) rfl ?_
    exact wk_rI tt_32 rfl rfl ⟨_, rfl, r7, rfl, w⟩
-- NestedVectors$Checker.depthOf
def V_kDepthOf (σ : sg_S) (a1 : Int) (a2 : Int) (Q : Int → sg_S → Prop) : Prop := ((a2 = 123 → V_kDepthOf_123 σ (a1) Q) ∧ (¬ a2 = 123 → ((a2 = 257 → V_kDepthOf_257 σ  Q) ∧ (¬ a2 = 257 → ((a2 = 258 → V_kDepthOf_258 σ (a1) Q) ∧ (¬ a2 = 258 → ((a2 = 262 → V_kDepthOf_262 σ (a1) Q) ∧ (¬ a2 = 262 → ((a2 = 264 → V_kDepthOf_264 σ (a1) Q) ∧ (¬ a2 = 264 → ((a2 = 279 → V_kDepthOf_279 σ (a1) Q) ∧ (¬ a2 = 279 → ((a2 = 280 → V_kDepthOf_280 σ (a1) Q) ∧ (¬ a2 = 280 → V_kDepthOf_d σ (a1) (a2) Q))))))))))))))
set_option maxHeartbeats 4000000 in
set_option maxRecDepth 8000 in
theorem w_kDepthOf (z : Value) (σ : sg_S) (a1 : Int) (a2 : Int) (Q : Int → sg_S → Prop) (ra1 : sg_R a1) (ra2 : sg_R a2) (w : V_kDepthOf σ a1 a2 Q) : wx z 2 32 0 [(0, .inr (.inr (.ref 38))), (1, .inl (a1)), (2, .inl (a2))] [] σ (fun v σ' => ∃ q, v = some (.inl q) ∧ sg_R q ∧ σ = σ' ∧ Q q σ') := by
  unfold V_kDepthOf at w
  refine wk_b tt_32 1 (pc' := 1) (ls' := [(0, .inr (.inr (.ref 38))), (1, .inl (a1)), (2, .inl (a2))]) (st' := [.inl (a2)]) (σ' := σ) rfl ?_
  by_cases e1 : a2 = 123
  · have w := w.1 e1
    refine wk_lw tt_32 (off := 125) (tgt := 126) rfl (by decide) ra2 (by rw [e1]; decide) rfl ?_
    refine wk_ls [(0, .inr (.inr (.ref 38))), (1, .inl (a1))] rfl ⟨rfl, rfl, trivial⟩ ?_
    exact wk_post (wk_d (by decide) (w_kDepthOf_123 z σ (a1) Q ra1 w)) (fun v σ' ⟨q, e, r, hF, hQ⟩ => ⟨q, e, r, hF, hQ⟩)
  have w := w.2 e1
  by_cases e3 : a2 = 257
  · have w := w.1 e3
    refine wk_lw tt_32 (off := 67) (tgt := 68) rfl (by decide) ra2 (by rw [e3]; decide) rfl ?_
    refine wk_ls [] rfl trivial ?_
    exact wk_post (wk_d (by decide) (w_kDepthOf_257 z σ  Q  w)) (fun v σ' ⟨q, e, r, hF, hQ⟩ => ⟨q, e, r, hF, hQ⟩)
  have w := w.2 e3
  by_cases e5 : a2 = 258
  · have w := w.1 e5
    refine wk_lw tt_32 (off := 69) (tgt := 70) rfl (by decide) ra2 (by rw [e5]; decide) rfl ?_
    refine wk_ls [(0, .inr (.inr (.ref 38))), (1, .inl (a1))] rfl ⟨rfl, rfl, trivial⟩ ?_
    exact wk_post (wk_d (by decide) (w_kDepthOf_258 z σ (a1) Q ra1 w)) (fun v σ' ⟨q, e, r, hF, hQ⟩ => ⟨q, e, r, hF, hQ⟩)
  have w := w.2 e5
  by_cases e7 : a2 = 262
  · have w := w.1 e7
    refine wk_lw tt_32 (off := 91) (tgt := 92) rfl (by decide) ra2 (by rw [e7]; decide) rfl ?_
    refine wk_ls [(0, .inr (.inr (.ref 38))), (1, .inl (a1))] rfl ⟨rfl, rfl, trivial⟩ ?_
    exact wk_post (wk_d (by decide) (w_kDepthOf_262 z σ (a1) Q ra1 w)) (fun v σ' ⟨q, e, r, hF, hQ⟩ => ⟨q, e, r, hF, hQ⟩)
  have w := w.2 e7
  by_cases e9 : a2 = 264
  · have w := w.1 e9
    refine wk_lw tt_32 (off := 113) (tgt := 114) rfl (by decide) ra2 (by rw [e9]; decide) rfl ?_
    refine wk_ls [(0, .inr (.inr (.ref 38))), (1, .inl (a1))] rfl ⟨rfl, rfl, trivial⟩ ?_
    exact wk_post (wk_d (by decide) (w_kDepthOf_264 z σ (a1) Q ra1 w)) (fun v σ' ⟨q, e, r, hF, hQ⟩ => ⟨q, e, r, hF, hQ⟩)
  have w := w.2 e9
  by_cases e11 : a2 = 279
  · have w := w.1 e11
    refine wk_lw tt_32 (off := 119) (tgt := 120) rfl (by decide) ra2 (by rw [e11]; decide) rfl ?_
    refine wk_ls [(0, .inr (.inr (.ref 38))), (1, .inl (a1))] rfl ⟨rfl, rfl, trivial⟩ ?_
    exact wk_post (wk_d (by decide) (w_kDepthOf_279 z σ (a1) Q ra1 w)) (fun v σ' ⟨q, e, r, hF, hQ⟩ => ⟨q, e, r, hF, hQ⟩)
  have w := w.2 e11
  by_cases e13 : a2 = 280
  · have w := w.1 e13
    refine wk_lw tt_32 (off := 131) (tgt := 132) rfl (by decide) ra2 (by rw [e13]; decide) rfl ?_
    refine wk_ls [(0, .inr (.inr (.ref 38))), (1, .inl (a1))] rfl ⟨rfl, rfl, trivial⟩ ?_
    exact wk_post (wk_d (by decide) (w_kDepthOf_280 z σ (a1) Q ra1 w)) (fun v σ' ⟨q, e, r, hF, hQ⟩ => ⟨q, e, r, hF, hQ⟩)
  have w := w.2 e13
  refine wk_lw tt_32 (off := 137) (tgt := 138) rfl (by decide) ra2 (by simp only [Op.lookupswitch.offset]; rw [if_neg (fun h => e1 h.symm), if_neg (fun h => e3 h.symm), if_neg (fun h => e5 h.symm), if_neg (fun h => e7 h.symm), if_neg (fun h => e9 h.symm), if_neg (fun h => e11 h.symm), if_neg (fun h => e13 h.symm)]) rfl ?_
  refine wk_ls [(0, .inr (.inr (.ref 38))), (1, .inl (a1)), (2, .inl (a2))] rfl ⟨rfl, rfl, rfl, trivial⟩ ?_
  exact wk_post (wk_d (by decide) (w_kDepthOf_d z σ (a1) (a2) Q ra1 ra2 w)) (fun v σ' ⟨q, e, r, hF, hQ⟩ => ⟨q, e, r, hF, hQ⟩)
-- NestedVectors$Checker.conclude
def V_kConclude_123 (σ : sg_S) (b1 : Int) (Q : sg_S → Prop) : Prop := V_kpAdd σ (12) (b1) (fun σ2 => sg_F [29, 30, 32, 33, 7028] σ σ2 → V_kpAdd σ2 (1) (b1) (fun σ8 => sg_F [29, 30, 32, 33, 7028] σ2 σ8 → Q σ8))
set_option maxHeartbeats 4000000 in
set_option maxRecDepth 8000 in
theorem w_kConclude_123 (z : Value) (σ : sg_S) (b1 : Int) (Q : sg_S → Prop) (rb1 : sg_R b1) (w : V_kConclude_123 σ b1 Q) : wx z 2 30 96 [(0, .inr (.inr (.ref 38))), (1, .inl (b1))] [] σ (fun v σ' => v = none ∧ sg_F [29, 30, 32, 33, 7028] σ σ' ∧ Q σ') := by
  unfold V_kConclude_123 at w
  refine wk_b tt_30 4 (pc' := 103) (ls' := [(0, .inr (.inr (.ref 38))), (1, .inl (b1))]) (st' := [.inl (b1), .inl (12), .inr (.inr (.ref 28))]) (σ' := σ) rfl ?_
  refine wk_call tt_30 rfl rfl rfl rfl rfl tt_193 rfl (by decide) (w_kpAdd z σ (12) (b1) _ (by decide) rb1 w) (fun u6 σ2 hq4 => ?_)
  obtain ⟨rfl, hF3, w⟩ := hq4
  have w := w hF3
  refine wk_b tt_30 4 (pc' := 112) (ls' := [(0, .inr (.inr (.ref 38))), (1, .inl (b1))]) (st' := [.inl (b1), .inl (1), .inr (.inr (.ref 28))]) (σ' := σ2) rfl ?_
  refine wk_call tt_30 rfl rfl rfl rfl rfl tt_193 rfl (by decide) (w_kpAdd z σ2 (1) (b1) _ (by decide) rb1 w) (fun u12 σ8 hq10 => ?_)
  obtain ⟨rfl, hF9, w⟩ := hq10
  have w := w hF9
  refine wk_b tt_30 1 (pc' := 151) (ls' := [(0, .inr (.inr (.ref 38))), (1, .inl (b1))]) (st' := []) (σ' := σ8) rfl ?_
  exact wk_rV tt_30 rfl rfl ⟨rfl, (sg_F_t (sg_F_t (sg_F_r [29, 30, 32, 33, 7028] σ) (sg_F_m (L := [29, 30, 32, 33, 7028]) hF3 rfl)) (sg_F_m (L := [29, 30, 32, 33, 7028]) hF9 rfl)), w⟩
-- NestedVectors$Checker.conclude
def V_kConclude_257 (σ : sg_S) (b1 : Int) (Q : sg_S → Prop) : Prop := V_kpAdd σ (1) (b1) (fun σ2 => sg_F [29, 30, 32, 33, 7028] σ σ2 → Q σ2)
set_option maxHeartbeats 4000000 in
set_option maxRecDepth 8000 in
theorem w_kConclude_257 (z : Value) (σ : sg_S) (b1 : Int) (Q : sg_S → Prop) (rb1 : sg_R b1) (w : V_kConclude_257 σ b1 Q) : wx z 2 30 118 [(0, .inr (.inr (.ref 38))), (1, .inl (b1))] [] σ (fun v σ' => v = none ∧ sg_F [29, 30, 32, 33, 7028] σ σ' ∧ Q σ') := by
  unfold V_kConclude_257 at w
  refine wk_b tt_30 4 (pc' := 124) (ls' := [(0, .inr (.inr (.ref 38))), (1, .inl (b1))]) (st' := [.inl (b1), .inl (1), .inr (.inr (.ref 28))]) (σ' := σ) rfl ?_
  refine wk_call tt_30 rfl rfl rfl rfl rfl tt_193 rfl (by decide) (w_kpAdd z σ (1) (b1) _ (by decide) rb1 w) (fun u6 σ2 hq4 => ?_)
  obtain ⟨rfl, hF3, w⟩ := hq4
  have w := w hF3
  refine wk_b tt_30 1 (pc' := 151) (ls' := [(0, .inr (.inr (.ref 38))), (1, .inl (b1))]) (st' := []) (σ' := σ2) rfl ?_
  exact wk_rV tt_30 rfl rfl ⟨rfl, (sg_F_t (sg_F_r [29, 30, 32, 33, 7028] σ) (sg_F_m (L := [29, 30, 32, 33, 7028]) hF3 rfl)), w⟩
-- NestedVectors$Checker.conclude
def V_kConclude_262 (σ : sg_S) (Q : sg_S → Prop) : Prop := Q σ
set_option maxHeartbeats 4000000 in
set_option maxRecDepth 8000 in
theorem w_kConclude_262 (z : Value) (σ : sg_S) (Q : sg_S → Prop)  (w : V_kConclude_262 σ  Q) : wx z 0 30 68 [] [] σ (fun v σ' => v = none ∧ sg_F [] σ σ' ∧ Q σ') := by
  unfold V_kConclude_262 at w
  refine wk_b tt_30 1 (pc' := 151) (ls' := []) (st' := []) (σ' := σ) rfl ?_
  exact wk_rV tt_30 rfl rfl ⟨rfl, (sg_F_r [] σ), w⟩
-- NestedVectors$Checker.conclude
def V_kConclude_264 (σ : sg_S) (b1 : Int) (Q : sg_S → Prop) : Prop := V_kpAdd σ (9) (b1) (fun σ2 => sg_F [29, 30, 32, 33, 7028] σ σ2 → Q σ2)
set_option maxHeartbeats 4000000 in
set_option maxRecDepth 8000 in
theorem w_kConclude_264 (z : Value) (σ : sg_S) (b1 : Int) (Q : sg_S → Prop) (rb1 : sg_R b1) (w : V_kConclude_264 σ b1 Q) : wx z 2 30 71 [(0, .inr (.inr (.ref 38))), (1, .inl (b1))] [] σ (fun v σ' => v = none ∧ sg_F [29, 30, 32, 33, 7028] σ σ' ∧ Q σ') := by
  unfold V_kConclude_264 at w
  refine wk_b tt_30 4 (pc' := 78) (ls' := [(0, .inr (.inr (.ref 38))), (1, .inl (b1))]) (st' := [.inl (b1), .inl (9), .inr (.inr (.ref 28))]) (σ' := σ) rfl ?_
  refine wk_call tt_30 rfl rfl rfl rfl rfl tt_193 rfl (by decide) (w_kpAdd z σ (9) (b1) _ (by decide) rb1 w) (fun u6 σ2 hq4 => ?_)
  obtain ⟨rfl, hF3, w⟩ := hq4
  have w := w hF3
  refine wk_b tt_30 1 (pc' := 151) (ls' := [(0, .inr (.inr (.ref 38))), (1, .inl (b1))]) (st' := []) (σ' := σ2) rfl ?_
  exact wk_rV tt_30 rfl rfl ⟨rfl, (sg_F_t (sg_F_r [29, 30, 32, 33, 7028] σ) (sg_F_m (L := [29, 30, 32, 33, 7028]) hF3 rfl)), w⟩
-- NestedVectors$Checker.conclude
def V_kConclude_280 (σ : sg_S) (b1 : Int) (Q : sg_S → Prop) : Prop := V_kpAdd σ (5) (b1) (fun σ2 => sg_F [29, 30, 32, 33, 7028] σ σ2 → Q σ2)
set_option maxHeartbeats 4000000 in
set_option maxRecDepth 8000 in
theorem w_kConclude_280 (z : Value) (σ : sg_S) (b1 : Int) (Q : sg_S → Prop) (rb1 : sg_R b1) (w : V_kConclude_280 σ b1 Q) : wx z 2 30 84 [(0, .inr (.inr (.ref 38))), (1, .inl (b1))] [] σ (fun v σ' => v = none ∧ sg_F [29, 30, 32, 33, 7028] σ σ' ∧ Q σ') := by
  unfold V_kConclude_280 at w
  refine wk_b tt_30 4 (pc' := 90) (ls' := [(0, .inr (.inr (.ref 38))), (1, .inl (b1))]) (st' := [.inl (b1), .inl (5), .inr (.inr (.ref 28))]) (σ' := σ) rfl ?_
  refine wk_call tt_30 rfl rfl rfl rfl rfl tt_193 rfl (by decide) (w_kpAdd z σ (5) (b1) _ (by decide) rb1 w) (fun u6 σ2 hq4 => ?_)
  obtain ⟨rfl, hF3, w⟩ := hq4
  have w := w hF3
  refine wk_b tt_30 1 (pc' := 151) (ls' := [(0, .inr (.inr (.ref 38))), (1, .inl (b1))]) (st' := []) (σ' := σ2) rfl ?_
  exact wk_rV tt_30 rfl rfl ⟨rfl, (sg_F_t (sg_F_r [29, 30, 32, 33, 7028] σ) (sg_F_m (L := [29, 30, 32, 33, 7028]) hF3 rfl)), w⟩
-- NestedVectors$Checker.conclude
def V_kConclude_d (σ : sg_S) (b1 : Int) (b2 : Int) (Q : sg_S → Prop) : Prop := ∀ v4 : Int, v4 = (if ¬ (v_kPartsOf (b2)) = 1 then (3 : Int) else (2 : Int)) → sg_R v4 → V_kpAdd σ (v4) (b1) (fun σ8 => sg_F [29, 30, 32, 33, 7028] σ σ8 → Q σ8)
set_option maxHeartbeats 4000000 in
set_option maxRecDepth 8000 in
theorem w_kConclude_d (z : Value) (σ : sg_S) (b1 : Int) (b2 : Int) (Q : sg_S → Prop) (rb1 : sg_R b1) (rb2 : sg_R b2) (w : V_kConclude_d σ b1 b2 Q) : wx z 2 30 130 [(0, .inr (.inr (.ref 38))), (1, .inl (b1)), (2, .inl (b2))] [] σ (fun v σ' => v = none ∧ sg_F [29, 30, 32, 33, 7028] σ σ' ∧ Q σ') := by
  unfold V_kConclude_d at w
  refine wk_b tt_30 3 (pc' := 135) (ls' := [(0, .inr (.inr (.ref 38))), (1, .inl (b1)), (2, .inl (b2))]) (st' := [.inl (b2), .inr (.inr (.ref 28))]) (σ' := σ) rfl ?_
  refine wk_callp tt_30 rfl rfl rfl rfl rfl tt_42 rfl (by decide) (w_kPartsOf z σ (b2) rb2 ) ?_
  have r1 := vr_kPartsOf  (b2) rb2 
  refine wk_b tt_30 1 (pc' := 139) (ls' := [(0, .inr (.inr (.ref 38))), (1, .inl (b1)), (2, .inl (b2))]) (st' := [.inl (1), .inl ((v_kPartsOf (b2))), .inr (.inr (.ref 28))]) (σ' := σ) rfl ?_
  have jn3 : ∀ v4 : Int, v4 = (if ¬ (v_kPartsOf (b2)) = 1 then (3 : Int) else (2 : Int)) → sg_R v4 → wx z 2 30 147 [(1, .inl (b1))] [.inl (v4), .inr (.inr (.ref 28))] σ (fun v σ' => v = none ∧ sg_F [29, 30, 32, 33, 7028] σ σ' ∧ Q σ') := by
    intro v4 e6 r5
    have w := w v4 e6 r5
    refine wk_b tt_30 1 (pc' := 148) (ls' := [(1, .inl (b1))]) (st' := [.inl (b1), .inl (v4), .inr (.inr (.ref 28))]) (σ' := σ) rfl ?_
    refine wk_call tt_30 rfl rfl rfl rfl rfl tt_193 rfl (by decide) (w_kpAdd z σ (v4) (b1) _ r5 rb1 w) (fun u12 σ8 hq10 => ?_)
    obtain ⟨rfl, hF9, w⟩ := hq10
    have w := w hF9
    exact wk_rV tt_30 rfl rfl ⟨rfl, (sg_F_t (sg_F_r [29, 30, 32, 33, 7028] σ) (sg_F_m (L := [29, 30, 32, 33, 7028]) hF9 rfl)), w⟩
  refine wk_if2 tt_30 (tgt := 146) rfl rfl r1 (by decide) (fun (h2 : ¬ (v_kPartsOf (b2)) = 1) => ?_) (fun (h2 : (v_kPartsOf (b2)) = 1) => ?_)
  ·
    clear w
    refine wk_b tt_30 1 (pc' := 147) (ls' := [(0, .inr (.inr (.ref 38))), (1, .inl (b1)), (2, .inl (b2))]) (st' := [.inl (3), .inr (.inr (.ref 28))]) (σ' := σ) rfl ?_
    exact wk_ls [(1, .inl (b1))] rfl ⟨rfl, trivial⟩ (jn3 (3) (by simp only [if_pos h2]) (by decide))
  ·
    clear w
    refine wk_b tt_30 2 (pc' := 147) (ls' := [(0, .inr (.inr (.ref 38))), (1, .inl (b1)), (2, .inl (b2))]) (st' := [.inl (2), .inr (.inr (.ref 28))]) (σ' := σ) rfl ?_
    exact wk_ls [(1, .inl (b1))] rfl ⟨rfl, trivial⟩ (jn3 (2) (by simp only [if_neg (show ¬ (¬ (v_kPartsOf (b2)) = 1) by omega)]) (by decide))
-- NestedVectors$Checker.conclude
def V_kConclude (σ : sg_S) (a1 : Int) (a2 : Int) (Q : sg_S → Prop) : Prop := ((a2 = 123 → V_kConclude_123 σ (a1) Q) ∧ (¬ a2 = 123 → ((a2 = 257 → V_kConclude_257 σ (a1) Q) ∧ (¬ a2 = 257 → ((a2 = 258 → V_kConclude_257 σ (a1) Q) ∧ (¬ a2 = 258 → ((a2 = 262 → V_kConclude_262 σ  Q) ∧ (¬ a2 = 262 → ((a2 = 264 → V_kConclude_264 σ (a1) Q) ∧ (¬ a2 = 264 → ((a2 = 279 → V_kConclude_257 σ (a1) Q) ∧ (¬ a2 = 279 → ((a2 = 280 → V_kConclude_280 σ (a1) Q) ∧ (¬ a2 = 280 → V_kConclude_d σ (a1) (a2) Q))))))))))))))
set_option maxHeartbeats 4000000 in
set_option maxRecDepth 8000 in
theorem w_kConclude (z : Value) (σ : sg_S) (a1 : Int) (a2 : Int) (Q : sg_S → Prop) (ra1 : sg_R a1) (ra2 : sg_R a2) (w : V_kConclude σ a1 a2 Q) : wx z 2 30 0 [(0, .inr (.inr (.ref 38))), (1, .inl (a1)), (2, .inl (a2))] [] σ (fun v σ' => v = none ∧ sg_F [29, 30, 32, 33, 7028] σ σ' ∧ Q σ') := by
  unfold V_kConclude at w
  refine wk_b tt_30 1 (pc' := 1) (ls' := [(0, .inr (.inr (.ref 38))), (1, .inl (a1)), (2, .inl (a2))]) (st' := [.inl (a2)]) (σ' := σ) rfl ?_
  by_cases e1 : a2 = 123
  · have w := w.1 e1
    refine wk_lw tt_30 (off := 95) (tgt := 96) rfl (by decide) ra2 (by rw [e1]; decide) rfl ?_
    refine wk_ls [(0, .inr (.inr (.ref 38))), (1, .inl (a1))] rfl ⟨rfl, rfl, trivial⟩ ?_
    exact wk_post (wk_d (by decide) (w_kConclude_123 z σ (a1) Q ra1 w)) (fun v σ' ⟨e, hF, hQ⟩ => ⟨e, sg_F_t (sg_F_r [29, 30, 32, 33, 7028] σ) (sg_F_m hF rfl), hQ⟩)
  have w := w.2 e1
  by_cases e3 : a2 = 257
  · have w := w.1 e3
    refine wk_lw tt_30 (off := 117) (tgt := 118) rfl (by decide) ra2 (by rw [e3]; decide) rfl ?_
    refine wk_ls [(0, .inr (.inr (.ref 38))), (1, .inl (a1))] rfl ⟨rfl, rfl, trivial⟩ ?_
    exact wk_post (wk_d (by decide) (w_kConclude_257 z σ (a1) Q ra1 w)) (fun v σ' ⟨e, hF, hQ⟩ => ⟨e, sg_F_t (sg_F_r [29, 30, 32, 33, 7028] σ) (sg_F_m hF rfl), hQ⟩)
  have w := w.2 e3
  by_cases e5 : a2 = 258
  · have w := w.1 e5
    refine wk_lw tt_30 (off := 117) (tgt := 118) rfl (by decide) ra2 (by rw [e5]; decide) rfl ?_
    refine wk_ls [(0, .inr (.inr (.ref 38))), (1, .inl (a1))] rfl ⟨rfl, rfl, trivial⟩ ?_
    exact wk_post (wk_d (by decide) (w_kConclude_257 z σ (a1) Q ra1 w)) (fun v σ' ⟨e, hF, hQ⟩ => ⟨e, sg_F_t (sg_F_r [29, 30, 32, 33, 7028] σ) (sg_F_m hF rfl), hQ⟩)
  have w := w.2 e5
  by_cases e7 : a2 = 262
  · have w := w.1 e7
    refine wk_lw tt_30 (off := 67) (tgt := 68) rfl (by decide) ra2 (by rw [e7]; decide) rfl ?_
    refine wk_ls [] rfl trivial ?_
    exact wk_post (wk_d (by decide) (w_kConclude_262 z σ  Q  w)) (fun v σ' ⟨e, hF, hQ⟩ => ⟨e, sg_F_t (sg_F_r [29, 30, 32, 33, 7028] σ) (sg_F_m hF rfl), hQ⟩)
  have w := w.2 e7
  by_cases e9 : a2 = 264
  · have w := w.1 e9
    refine wk_lw tt_30 (off := 70) (tgt := 71) rfl (by decide) ra2 (by rw [e9]; decide) rfl ?_
    refine wk_ls [(0, .inr (.inr (.ref 38))), (1, .inl (a1))] rfl ⟨rfl, rfl, trivial⟩ ?_
    exact wk_post (wk_d (by decide) (w_kConclude_264 z σ (a1) Q ra1 w)) (fun v σ' ⟨e, hF, hQ⟩ => ⟨e, sg_F_t (sg_F_r [29, 30, 32, 33, 7028] σ) (sg_F_m hF rfl), hQ⟩)
  have w := w.2 e9
  by_cases e11 : a2 = 279
  · have w := w.1 e11
    refine wk_lw tt_30 (off := 117) (tgt := 118) rfl (by decide) ra2 (by rw [e11]; decide) rfl ?_
    refine wk_ls [(0, .inr (.inr (.ref 38))), (1, .inl (a1))] rfl ⟨rfl, rfl, trivial⟩ ?_
    exact wk_post (wk_d (by decide) (w_kConclude_257 z σ (a1) Q ra1 w)) (fun v σ' ⟨e, hF, hQ⟩ => ⟨e, sg_F_t (sg_F_r [29, 30, 32, 33, 7028] σ) (sg_F_m hF rfl), hQ⟩)
  have w := w.2 e11
  by_cases e13 : a2 = 280
  · have w := w.1 e13
    refine wk_lw tt_30 (off := 83) (tgt := 84) rfl (by decide) ra2 (by rw [e13]; decide) rfl ?_
    refine wk_ls [(0, .inr (.inr (.ref 38))), (1, .inl (a1))] rfl ⟨rfl, rfl, trivial⟩ ?_
    exact wk_post (wk_d (by decide) (w_kConclude_280 z σ (a1) Q ra1 w)) (fun v σ' ⟨e, hF, hQ⟩ => ⟨e, sg_F_t (sg_F_r [29, 30, 32, 33, 7028] σ) (sg_F_m hF rfl), hQ⟩)
  have w := w.2 e13
  refine wk_lw tt_30 (off := 129) (tgt := 130) rfl (by decide) ra2 (by simp only [Op.lookupswitch.offset]; rw [if_neg (fun h => e1 h.symm), if_neg (fun h => e3 h.symm), if_neg (fun h => e5 h.symm), if_neg (fun h => e7 h.symm), if_neg (fun h => e9 h.symm), if_neg (fun h => e11 h.symm), if_neg (fun h => e13 h.symm)]) rfl ?_
  refine wk_ls [(0, .inr (.inr (.ref 38))), (1, .inl (a1)), (2, .inl (a2))] rfl ⟨rfl, rfl, rfl, trivial⟩ ?_
  exact wk_post (wk_d (by decide) (w_kConclude_d z σ (a1) (a2) Q ra1 ra2 w)) (fun v σ' ⟨e, hF, hQ⟩ => ⟨e, sg_F_t (sg_F_r [29, 30, 32, 33, 7028] σ) (sg_F_m hF rfl), hQ⟩)
-- NestedVectors$Checker.leave
def V_kLeave (σ : sg_S) (a1 : Int) (Q : sg_S → Prop) : Prop := ∀ σ1, σ1 = (sg_w σ 38 9 ((sx_at σ 41 200 (a1)))) → (∃ P6 : sg_S → Prop, (((sx_at σ 3 200 (a1)) = 258 → V_kResolve σ1 (a1) ((sx_at σ 3 200 (a1))) (fun σ46 => sg_F [16, 13038, 14038] σ1 σ46 → P6 σ46)) ∧ (¬ (sx_at σ 3 200 (a1)) = 258 → ((¬ (sx_at σ 3 200 (a1)) = 280 → P6 σ1) ∧ ((sx_at σ 3 200 (a1)) = 280 → V_kResolve σ1 (a1) ((sx_at σ 3 200 (a1))) (fun σ53 => sg_F [16, 13038, 14038] σ1 σ53 → P6 σ53))))) ∧ (∀ (σ7 : sg_S), sg_F [16, 13038, 14038] σ1 σ7 → P6 σ7 → (((sg_g σ7 38 13) = 0 → V_kDepthOf σ7 (a1) ((sx_at σ 3 200 (a1))) (fun q11 _ => sg_R q11 → (∃ P19 : sg_S → Prop, ((q11 < 0 → V_kBlame σ7 (3) ((sx_at σ 4 200 (a1))) (fun σ33 => sg_F [13038, 14038] σ7 σ33 → P19 σ33)) ∧ (0 ≤ q11 → ((q11 ≤ 3 → P19 σ7) ∧ (3 < q11 → V_kBlame σ7 (3) ((sx_at σ 4 200 (a1))) (fun σ40 => sg_F [13038, 14038] σ7 σ40 → P19 σ40))))) ∧ (∀ (σ20 : sg_S), sg_F [13038, 14038] σ7 σ20 → P19 σ20 → ∀ σ23, σ23 = (sx_put σ20 6 200 (a1) (q11)) → V_kConclude σ23 (a1) ((sx_at σ 3 200 (a1))) (fun σ27 => sg_F [29, 30, 32, 33, 7028] σ23 σ27 → Q σ27))))) ∧ (¬ (sg_g σ7 38 13) = 0 → Q σ7))))
set_option maxHeartbeats 4000000 in
set_option maxRecDepth 8000 in
theorem w_kLeave (z : Value) (σ : sg_S) (a1 : Int) (Q : sg_S → Prop) (ra1 : sg_R a1) (w : V_kLeave σ a1 Q) : wx z 3 40 0 [(0, .inr (.inr (.ref 38))), (1, .inl (a1))] [] σ (fun v σ' => v = none ∧ sg_F [6, 16, 29, 30, 32, 33, 7028, 10038, 13038, 14038] σ σ' ∧ Q σ') := by
  unfold V_kLeave at w
  refine wk_b tt_40 4 (pc' := 6) (ls' := [(0, .inr (.inr (.ref 38))), (1, .inl (a1))]) (st' := [.inl (a1), .inr (.inr (.ref 41)), .inr (.inr (.ref 38))]) (σ' := σ) rfl ?_
  refine wk_callp tt_40 rfl rfl rfl rfl rfl tt_5 rfl (by decide) (at_i0 z σ 41 200 (a1) rfl (by decide) ra1) ?_
  show wx z 3 40 9 [(0, .inr (.inr (.ref 38))), (1, .inl (a1))] [.inl ((sx_at σ 41 200 (a1))), .inr (.inr (.ref 38))] σ (fun v σ' => v = none ∧ sg_F [6, 16, 29, 30, 32, 33, 7028, 10038, 13038, 14038] σ σ' ∧ Q σ')
  refine wk_b tt_40 1 (pc' := 12) (ls' := [(0, .inr (.inr (.ref 38))), (1, .inl (a1))]) (st' := []) (σ' := (sg_w σ 38 9 ((sx_at σ 41 200 (a1))))) rfl ?_
  generalize hs2 : (sg_w σ 38 9 ((sx_at σ 41 200 (a1)))) = σ1
  have w := w σ1 hs2.symm
  have hF3 : sg_F [10038] σ σ1 := by rw [← hs2]; exact sg_F_w (sg_F_r _ _) rfl _
  refine wk_b tt_40 4 (pc' := 20) (ls' := [(0, .inr (.inr (.ref 38))), (1, .inl (a1))]) (st' := [.inl (a1), .inr (.inr (.ref 3))]) (σ' := σ1) rfl ?_
  refine wk_callp tt_40 rfl rfl rfl rfl rfl tt_5 rfl (by decide) (at_i0 z σ1 3 200 (a1) rfl (by decide) ra1) ?_
  show wx z 3 40 23 [(0, .inr (.inr (.ref 38))), (1, .inl (a1))] [.inl ((sx_at σ1 3 200 (a1)))] σ1 (fun v σ' => v = none ∧ sg_F [6, 16, 29, 30, 32, 33, 7028, 10038, 13038, 14038] σ σ' ∧ Q σ')
  rw [sx_F (a := 3) (n := 200) (i := (a1)) hF3 rfl]
  refine wk_b tt_40 3 (pc' := 28) (ls' := [(2, .inl ((sx_at σ 3 200 (a1)))), (0, .inr (.inr (.ref 38))), (1, .inl (a1))]) (st' := [.inl (258), .inl ((sx_at σ 3 200 (a1)))]) (σ' := σ1) rfl ?_
  obtain ⟨P6, w, w9⟩ := w
  have jn5 : ∀ (σ7 : sg_S), sg_F [16, 13038, 14038] σ1 σ7 → P6 σ7 → wx z 3 40 44 [(0, .inr (.inr (.ref 38))), (1, .inl (a1)), (2, .inl ((sx_at σ 3 200 (a1))))] [] σ7 (fun v σ' => v = none ∧ sg_F [6, 16, 29, 30, 32, 33, 7028, 10038, 13038, 14038] σ σ' ∧ Q σ') := by
    intro σ7 hF8 w
    have w := w9 σ7 hF8 w
    refine wk_b tt_40 2 (pc' := 48) (ls' := [(0, .inr (.inr (.ref 38))), (1, .inl (a1)), (2, .inl ((sx_at σ 3 200 (a1))))]) (st' := [.inl ((sg_g σ7 38 13))]) (σ' := σ7) rfl ?_
    refine wk_if tt_40 (tgt := 52) rfl rfl (sg_Rg _ _ _) (fun (h10 : (sg_g σ7 38 13) = 0) => ?_) (fun (h10 : ¬ (sg_g σ7 38 13) = 0) => ?_)
    ·
      have w := w.1 h10
      refine wk_b tt_40 3 (pc' := 55) (ls' := [(0, .inr (.inr (.ref 38))), (1, .inl (a1)), (2, .inl ((sx_at σ 3 200 (a1))))]) (st' := [.inl ((sx_at σ 3 200 (a1))), .inl (a1), .inr (.inr (.ref 38))]) (σ' := σ7) rfl ?_
      refine wk_call tt_40 rfl rfl rfl rfl rfl tt_32 rfl (by decide) (w_kDepthOf z σ7 (a1) ((sx_at σ 3 200 (a1))) _ ra1 (sx_R ..) w) (fun u16 σ12 hq14 => ?_)
      obtain ⟨q11, rfl, r15, rfl, w⟩ := hq14
      have w := w r15
      refine wk_b tt_40 2 (pc' := 60) (ls' := [(3, .inl (q11)), (0, .inr (.inr (.ref 38))), (1, .inl (a1)), (2, .inl ((sx_at σ 3 200 (a1))))]) (st' := [.inl (q11)]) (σ' := σ7) rfl ?_
      obtain ⟨P19, w, w22⟩ := w
      have jn18 : ∀ (σ20 : sg_S), sg_F [13038, 14038] σ7 σ20 → P19 σ20 → wx z 3 40 84 [(0, .inr (.inr (.ref 38))), (1, .inl (a1)), (2, .inl ((sx_at σ 3 200 (a1)))), (3, .inl (q11))] [] σ20 (fun v σ' => v = none ∧ sg_F [6, 16, 29, 30, 32, 33, 7028, 10038, 13038, 14038] σ σ' ∧ Q σ') := by
        intro σ20 hF21 w
        have w := w22 σ20 hF21 w
        refine wk_b tt_40 5 (pc' := 93) (ls' := [(0, .inr (.inr (.ref 38))), (1, .inl (a1)), (2, .inl ((sx_at σ 3 200 (a1)))), (3, .inl (q11))]) (st' := [.inl (q11), .inl (a1), .inr (.inr (.ref 6))]) (σ' := σ20) rfl ?_
        refine wk_callp tt_40 rfl rfl rfl rfl rfl tt_21 rfl (by decide) (pt_i0 z σ20 6 200 (a1) (q11) rfl (by decide) ra1) ?_
        show wx z 3 40 96 [(0, .inr (.inr (.ref 38))), (1, .inl (a1)), (2, .inl ((sx_at σ 3 200 (a1)))), (3, .inl (q11))] [] (sx_put σ20 6 200 (a1) (q11)) (fun v σ' => v = none ∧ sg_F [6, 16, 29, 30, 32, 33, 7028, 10038, 13038, 14038] σ σ' ∧ Q σ')
        generalize hs24 : (sx_put σ20 6 200 (a1) (q11)) = σ23
        have w := w σ23 hs24.symm
        have hF25 : sg_F [6] σ20 σ23 := by rw [← hs24]; exact sg_F_p (sg_F_r _ _) rfl _ _ _
        refine wk_b tt_40 3 (pc' := 99) (ls' := [(0, .inr (.inr (.ref 38))), (1, .inl (a1)), (2, .inl ((sx_at σ 3 200 (a1)))), (3, .inl (q11))]) (st' := [.inl ((sx_at σ 3 200 (a1))), .inl (a1), .inr (.inr (.ref 38))]) (σ' := σ23) rfl ?_
        refine wk_call tt_40 rfl rfl rfl rfl rfl tt_30 rfl (by decide) (w_kConclude z σ23 (a1) ((sx_at σ 3 200 (a1))) _ ra1 (sx_R ..) w) (fun u31 σ27 hq29 => ?_)
        obtain ⟨rfl, hF28, w⟩ := hq29
        have w := w hF28
        exact wk_rV tt_40 rfl rfl ⟨rfl, (sg_F_t (sg_F_t (sg_F_t (sg_F_t (sg_F_t (sg_F_r [6, 16, 29, 30, 32, 33, 7028, 10038, 13038, 14038] σ) (sg_F_m (L := [6, 16, 29, 30, 32, 33, 7028, 10038, 13038, 14038]) hF3 rfl)) (sg_F_m (L := [6, 16, 29, 30, 32, 33, 7028, 10038, 13038, 14038]) hF8 rfl)) (sg_F_m (L := [6, 16, 29, 30, 32, 33, 7028, 10038, 13038, 14038]) hF21 rfl)) (sg_F_m (L := [6, 16, 29, 30, 32, 33, 7028, 10038, 13038, 14038]) hF25 rfl)) (sg_F_m (L := [6, 16, 29, 30, 32, 33, 7028, 10038, 13038, 14038]) hF28 rfl)), w⟩
      refine wk_if tt_40 (tgt := 68) rfl rfl r15 (fun (h17 : q11 < 0) => ?_) (fun (h17 : 0 ≤ q11) => ?_)
      ·
        have w := w.1 h17
        refine wk_b tt_40 6 (pc' := 78) (ls' := [(3, .inl (q11)), (0, .inr (.inr (.ref 38))), (1, .inl (a1)), (2, .inl ((sx_at σ 3 200 (a1))))]) (st' := [.inl (a1), .inr (.inr (.ref 4)), .inl (3), .inr (.inr (.ref 38))]) (σ' := σ7) rfl ?_
        refine wk_callp tt_40 rfl rfl rfl rfl rfl tt_5 rfl (by decide) (at_i0 z σ7 4 200 (a1) rfl (by decide) ra1) ?_
        show wx z 3 40 81 [(3, .inl (q11)), (0, .inr (.inr (.ref 38))), (1, .inl (a1)), (2, .inl ((sx_at σ 3 200 (a1))))] [.inl ((sx_at σ7 4 200 (a1))), .inl (3), .inr (.inr (.ref 38))] σ7 (fun v σ' => v = none ∧ sg_F [6, 16, 29, 30, 32, 33, 7028, 10038, 13038, 14038] σ σ' ∧ Q σ')
        rw [sx_F (a := 4) (n := 200) (i := (a1)) hF8 rfl, sx_F (a := 4) (n := 200) (i := (a1)) hF3 rfl]
        refine wk_call tt_40 rfl rfl rfl rfl rfl tt_28 rfl (by decide) (w_kBlame z σ7 (3) ((sx_at σ 4 200 (a1))) _ (by decide) (sx_R ..) w) (fun u37 σ33 hq35 => ?_)
        obtain ⟨rfl, hF34, w⟩ := hq35
        have w := w hF34
        exact wk_ls [(0, .inr (.inr (.ref 38))), (1, .inl (a1)), (2, .inl ((sx_at σ 3 200 (a1)))), (3, .inl (q11))] rfl ⟨rfl, rfl, rfl, rfl, trivial⟩ (jn18 σ33 (sg_F_t (sg_F_r [13038, 14038] σ7) (sg_F_m (L := [13038, 14038]) hF34 rfl)) w)
      ·
        have w := w.2 h17
        refine wk_b tt_40 2 (pc' := 65) (ls' := [(3, .inl (q11)), (0, .inr (.inr (.ref 38))), (1, .inl (a1)), (2, .inl ((sx_at σ 3 200 (a1))))]) (st' := [.inl (3), .inl (q11)]) (σ' := σ7) rfl ?_
        refine wk_if2 tt_40 (tgt := 84) rfl rfl r15 (by decide) (fun (h38 : q11 ≤ 3) => ?_) (fun (h38 : 3 < q11) => ?_)
        ·
          have w := w.1 h38
          exact wk_ls [(0, .inr (.inr (.ref 38))), (1, .inl (a1)), (2, .inl ((sx_at σ 3 200 (a1)))), (3, .inl (q11))] rfl ⟨rfl, rfl, rfl, rfl, trivial⟩ (jn18 σ7 (sg_F_r [13038, 14038] σ7) w)
        ·
          have w := w.2 h38
          refine wk_b tt_40 6 (pc' := 78) (ls' := [(3, .inl (q11)), (0, .inr (.inr (.ref 38))), (1, .inl (a1)), (2, .inl ((sx_at σ 3 200 (a1))))]) (st' := [.inl (a1), .inr (.inr (.ref 4)), .inl (3), .inr (.inr (.ref 38))]) (σ' := σ7) rfl ?_
          refine wk_callp tt_40 rfl rfl rfl rfl rfl tt_5 rfl (by decide) (at_i0 z σ7 4 200 (a1) rfl (by decide) ra1) ?_
          show wx z 3 40 81 [(3, .inl (q11)), (0, .inr (.inr (.ref 38))), (1, .inl (a1)), (2, .inl ((sx_at σ 3 200 (a1))))] [.inl ((sx_at σ7 4 200 (a1))), .inl (3), .inr (.inr (.ref 38))] σ7 (fun v σ' => v = none ∧ sg_F [6, 16, 29, 30, 32, 33, 7028, 10038, 13038, 14038] σ σ' ∧ Q σ')
          rw [sx_F (a := 4) (n := 200) (i := (a1)) hF8 rfl, sx_F (a := 4) (n := 200) (i := (a1)) hF3 rfl]
          refine wk_call tt_40 rfl rfl rfl rfl rfl tt_28 rfl (by decide) (w_kBlame z σ7 (3) ((sx_at σ 4 200 (a1))) _ (by decide) (sx_R ..) w) (fun u44 σ40 hq42 => ?_)
          obtain ⟨rfl, hF41, w⟩ := hq42
          have w := w hF41
          exact wk_ls [(0, .inr (.inr (.ref 38))), (1, .inl (a1)), (2, .inl ((sx_at σ 3 200 (a1)))), (3, .inl (q11))] rfl ⟨rfl, rfl, rfl, rfl, trivial⟩ (jn18 σ40 (sg_F_t (sg_F_r [13038, 14038] σ7) (sg_F_m (L := [13038, 14038]) hF41 rfl)) w)
    ·
      have w := w.2 h10
      exact wk_rV tt_40 rfl rfl ⟨rfl, (sg_F_t (sg_F_t (sg_F_r [6, 16, 29, 30, 32, 33, 7028, 10038, 13038, 14038] σ) (sg_F_m (L := [6, 16, 29, 30, 32, 33, 7028, 10038, 13038, 14038]) hF3 rfl)) (sg_F_m (L := [6, 16, 29, 30, 32, 33, 7028, 10038, 13038, 14038]) hF8 rfl)), w⟩
  refine wk_if2 tt_40 (tgt := 38) rfl rfl (sx_R ..) (by decide) (fun (h4 : (sx_at σ 3 200 (a1)) = 258) => ?_) (fun (h4 : ¬ (sx_at σ 3 200 (a1)) = 258) => ?_)
  ·
    have w := w.1 h4
    refine wk_b tt_40 3 (pc' := 41) (ls' := [(2, .inl ((sx_at σ 3 200 (a1)))), (0, .inr (.inr (.ref 38))), (1, .inl (a1))]) (st' := [.inl ((sx_at σ 3 200 (a1))), .inl (a1), .inr (.inr (.ref 38))]) (σ' := σ1) rfl ?_
    refine wk_call tt_40 rfl rfl rfl rfl rfl tt_43 rfl (by decide) (w_kResolve z σ1 (a1) ((sx_at σ 3 200 (a1))) _ ra1 (sx_R ..) w) (fun u50 σ46 hq48 => ?_)
    obtain ⟨rfl, hF47, w⟩ := hq48
    have w := w hF47
    exact wk_ls [(0, .inr (.inr (.ref 38))), (1, .inl (a1)), (2, .inl ((sx_at σ 3 200 (a1))))] rfl ⟨rfl, rfl, rfl, trivial⟩ (jn5 σ46 (sg_F_t (sg_F_r [16, 13038, 14038] σ1) (sg_F_m (L := [16, 13038, 14038]) hF47 rfl)) w)
  ·
    have w := w.2 h4
    refine wk_b tt_40 2 (pc' := 35) (ls' := [(2, .inl ((sx_at σ 3 200 (a1)))), (0, .inr (.inr (.ref 38))), (1, .inl (a1))]) (st' := [.inl (280), .inl ((sx_at σ 3 200 (a1)))]) (σ' := σ1) rfl ?_
    refine wk_if2 tt_40 (tgt := 44) rfl rfl (sx_R ..) (by decide) (fun (h51 : ¬ (sx_at σ 3 200 (a1)) = 280) => ?_) (fun (h51 : (sx_at σ 3 200 (a1)) = 280) => ?_)
    ·
      have w := w.1 h51
      exact wk_ls [(0, .inr (.inr (.ref 38))), (1, .inl (a1)), (2, .inl ((sx_at σ 3 200 (a1))))] rfl ⟨rfl, rfl, rfl, trivial⟩ (jn5 σ1 (sg_F_r [16, 13038, 14038] σ1) w)
    ·
      have w := w.2 h51
      refine wk_b tt_40 3 (pc' := 41) (ls' := [(2, .inl ((sx_at σ 3 200 (a1)))), (0, .inr (.inr (.ref 38))), (1, .inl (a1))]) (st' := [.inl ((sx_at σ 3 200 (a1))), .inl (a1), .inr (.inr (.ref 38))]) (σ' := σ1) rfl ?_
      refine wk_call tt_40 rfl rfl rfl rfl rfl tt_43 rfl (by decide) (w_kResolve z σ1 (a1) ((sx_at σ 3 200 (a1))) _ ra1 (sx_R ..) w) (fun u57 σ53 hq55 => ?_)
      obtain ⟨rfl, hF54, w⟩ := hq55
      have w := w hF54
      exact wk_ls [(0, .inr (.inr (.ref 38))), (1, .inl (a1)), (2, .inl ((sx_at σ 3 200 (a1))))] rfl ⟨rfl, rfl, rfl, trivial⟩ (jn5 σ53 (sg_F_t (sg_F_r [16, 13038, 14038] σ1) (sg_F_m (L := [16, 13038, 14038]) hF54 rfl)) w)
