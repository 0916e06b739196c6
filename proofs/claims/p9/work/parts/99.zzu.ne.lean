/-! What the methods of the nested run of the class ask for (4). -/
def V_nTurn (σ : sg_S) (a1 : Int) (Q : sg_S → Prop) : Prop := ∀ σ1, σ1 = (sg_w σ 45 8 ((sx_at σ 33 200 (a1)))) → Q σ1
set_option maxHeartbeats 4000000 in
set_option maxRecDepth 8000 in
theorem w_nTurn (z : Value) (σ : sg_S) (a1 : Int) (Q : sg_S → Prop) (ra1 : sg_R a1) (w : V_nTurn σ a1 Q) : wx z 1 164 0 [(0, .inr (.inr (.ref 45))), (1, .inl (a1))] [] σ (fun v σ' => v = none ∧ sg_F [9045] σ σ' ∧ Q σ') := by
  unfold V_nTurn at w
  refine wk_b tt_164 5 (pc' := 9) (ls' := [(0, .inr (.inr (.ref 45))), (1, .inl (a1))]) (st' := [.inl (a1), .inr (.inr (.ref 33)), .inr (.inr (.ref 45))]) (σ' := σ) rfl ?_
  refine wk_callp tt_164 rfl rfl rfl rfl rfl tt_5 rfl (by decide) (at_i0 z σ 33 200 (a1) rfl (by decide) ra1) ?_
  show wx z 1 164 12 [(0, .inr (.inr (.ref 45))), (1, .inl (a1))] [.inl ((sx_at σ 33 200 (a1))), .inr (.inr (.ref 45))] σ (fun v σ' => v = none ∧ sg_F [9045] σ σ' ∧ Q σ')
  refine wk_b tt_164 1 (pc' := 15) (ls' := [(0, .inr (.inr (.ref 45))), (1, .inl (a1))]) (st' := []) (σ' := (sg_w σ 45 8 ((sx_at σ 33 200 (a1))))) rfl ?_
  generalize hs2 : (sg_w σ 45 8 ((sx_at σ 33 200 (a1)))) = σ1
  have w := w σ1 hs2.symm
  have hF3 : sg_F [9045] σ σ1 := by rw [← hs2]; exact sg_F_w (sg_F_r _ _) rfl _
  exact wk_rV tt_164 rfl rfl ⟨rfl, (sg_F_t (sg_F_r [9045] σ) (sg_F_m (L := [9045]) hF3 rfl)), w⟩
-- NestedVectors$Machine.conclude
def V_mnConclude (σ : sg_S) (a1 : Int) (Q : sg_S → Prop) : Prop := ∀ σ1, σ1 = (sg_w σ 45 11 (1)) → V_iClear49 σ1  (fun σ5 => sg_F [49] σ1 σ5 → ((¬ (sg_g σ 45 10) = 0 → Q σ5) ∧ ((sg_g σ 45 10) = 0 → V_mnPop σ5  (fun q11 σ12 => sg_R q11 → sg_F [8045] σ5 σ12 → V_nDraw σ12 (q11) (a1) (fun σ18 => sg_F [49, 52] σ12 σ18 → V_iRender49 σ18 (a1) (fun σ24 => sg_F [49, 50, 51] σ18 σ24 → Q σ24))))))
set_option maxHeartbeats 4000000 in
set_option maxRecDepth 8000 in
theorem w_mnConclude (z : Value) (σ : sg_S) (a1 : Int) (Q : sg_S → Prop) (ra1 : sg_R a1) (w : V_mnConclude σ a1 Q) : wx z 7 118 0 [(0, .inr (.inr (.ref 45))), (1, .inl (a1))] [] σ (fun v σ' => v = none ∧ sg_F [49, 50, 51, 52, 8045, 12045] σ σ' ∧ Q σ') := by
  unfold V_mnConclude at w
  refine wk_b tt_118 3 (pc' := 5) (ls' := [(0, .inr (.inr (.ref 45))), (1, .inl (a1))]) (st' := []) (σ' := (sg_w σ 45 11 (1))) rfl ?_
  generalize hs2 : (sg_w σ 45 11 (1)) = σ1
  have w := w σ1 hs2.symm
  have hF3 : sg_F [12045] σ σ1 := by rw [← hs2]; exact sg_F_w (sg_F_r _ _) rfl _
  refine wk_b tt_118 2 (pc' := 9) (ls' := [(0, .inr (.inr (.ref 45))), (1, .inl (a1))]) (st' := [.inr (.inr (.ref 49))]) (σ' := σ1) rfl ?_
  refine wk_call tt_118 rfl rfl rfl rfl rfl tt_92 rfl (by decide) (w_iClear49 z σ1  _  w) (fun u9 σ5 hq7 => ?_)
  obtain ⟨rfl, hF6, w⟩ := hq7
  have w := w hF6
  refine wk_b tt_118 2 (pc' := 16) (ls' := [(0, .inr (.inr (.ref 45))), (1, .inl (a1))]) (st' := [.inl ((sg_g σ5 45 10))]) (σ' := σ5) rfl ?_
  rw [show (sg_g σ5 45 10) = (sg_g σ 45 10) from by rw [sg_F_ga hF6 rfl, sg_F_g hF3 rfl]]
  refine wk_if tt_118 (tgt := 36) rfl rfl (sg_Rg _ _ _) (fun (h10 : ¬ (sg_g σ 45 10) = 0) => ?_) (fun (h10 : (sg_g σ 45 10) = 0) => ?_)
  ·
    have w := w.1 h10
    exact wk_rV tt_118 rfl rfl ⟨rfl, (sg_F_t (sg_F_t (sg_F_r [49, 50, 51, 52, 8045, 12045] σ) (sg_F_m (L := [49, 50, 51, 52, 8045, 12045]) hF3 rfl)) (sg_F_m (L := [49, 50, 51, 52, 8045, 12045]) hF6 rfl)), w⟩
  ·
    have w := w.2 h10
    refine wk_b tt_118 2 (pc' := 21) (ls' := [(0, .inr (.inr (.ref 45))), (1, .inl (a1))]) (st' := [.inr (.inr (.ref 45)), .inr (.inr (.ref 45))]) (σ' := σ5) rfl ?_
    refine wk_call tt_118 rfl rfl rfl rfl rfl tt_124 rfl (by decide) (w_mnPop z σ5  _  w) (fun u16 σ12 hq14 => ?_)
    obtain ⟨q11, rfl, r15, hF13, w⟩ := hq14
    have w := w r15 hF13
    refine wk_b tt_118 1 (pc' := 25) (ls' := [(0, .inr (.inr (.ref 45))), (1, .inl (a1))]) (st' := [.inl (a1), .inl (q11), .inr (.inr (.ref 45))]) (σ' := σ12) rfl ?_
    refine wk_call tt_118 rfl rfl rfl rfl rfl tt_139 rfl (by decide) (w_nDraw z σ12 (q11) (a1) _ r15 ra1 w) (fun u22 σ18 hq20 => ?_)
    obtain ⟨rfl, hF19, w⟩ := hq20
    have w := w hF19
    refine wk_b tt_118 3 (pc' := 33) (ls' := [(0, .inr (.inr (.ref 45))), (1, .inl (a1))]) (st' := [.inl (a1), .inr (.inr (.ref 49))]) (σ' := σ18) rfl ?_
    refine wk_call tt_118 rfl rfl rfl rfl rfl tt_95 rfl (by decide) (w_iRender49 z σ18 (a1) _ ra1 w) (fun u28 σ24 hq26 => ?_)
    obtain ⟨rfl, hF25, w⟩ := hq26
    have w := w hF25
    exact wk_rV tt_118 rfl rfl ⟨rfl, (sg_F_t (sg_F_t (sg_F_t (sg_F_t (sg_F_t (sg_F_r [49, 50, 51, 52, 8045, 12045] σ) (sg_F_m (L := [49, 50, 51, 52, 8045, 12045]) hF3 rfl)) (sg_F_m (L := [49, 50, 51, 52, 8045, 12045]) hF6 rfl)) (sg_F_m (L := [49, 50, 51, 52, 8045, 12045]) hF13 rfl)) (sg_F_m (L := [49, 50, 51, 52, 8045, 12045]) hF19 rfl)) (sg_F_m (L := [49, 50, 51, 52, 8045, 12045]) hF25 rfl)), w⟩
-- NestedVectors$Machine.start
def V_mnStart (σ : sg_S) (Q : sg_S → Prop) : Prop := ∀ σ1, σ1 = (sg_w σ 45 7 (0)) → ∀ σ4, σ4 = (sg_w σ1 45 10 (0)) → V_nPrepare σ4  (fun σ8 => sg_F [21045, 22045, 23045, 24045] σ4 σ8 → ∀ σ13, σ13 = (sx_put σ8 47 13 (12) ((-1))) → ∀ σ16, σ16 = (sg_w σ13 45 8 ((sx_at σ 31 13 (12)))) → Q σ16)
set_option maxHeartbeats 4000000 in
set_option maxRecDepth 8000 in
theorem w_mnStart (z : Value) (σ : sg_S) (Q : sg_S → Prop)  (w : V_mnStart σ  Q) : wx z 1 127 0 [(0, .inr (.inr (.ref 45)))] [] σ (fun v σ' => v = none ∧ sg_F [47, 8045, 9045, 11045, 21045, 22045, 23045, 24045] σ σ' ∧ Q σ') := by
  unfold V_mnStart at w
  refine wk_b tt_127 3 (pc' := 5) (ls' := [(0, .inr (.inr (.ref 45)))]) (st' := []) (σ' := (sg_w σ 45 7 (0))) rfl ?_
  generalize hs2 : (sg_w σ 45 7 (0)) = σ1
  have w := w σ1 hs2.symm
  have hF3 : sg_F [8045] σ σ1 := by rw [← hs2]; exact sg_F_w (sg_F_r _ _) rfl _
  refine wk_b tt_127 3 (pc' := 10) (ls' := [(0, .inr (.inr (.ref 45)))]) (st' := []) (σ' := (sg_w σ1 45 10 (0))) rfl ?_
  generalize hs5 : (sg_w σ1 45 10 (0)) = σ4
  have w := w σ4 hs5.symm
  have hF6 : sg_F [11045] σ1 σ4 := by rw [← hs5]; exact sg_F_w (sg_F_r _ _) rfl _
  refine wk_b tt_127 1 (pc' := 11) (ls' := [(0, .inr (.inr (.ref 45)))]) (st' := [.inr (.inr (.ref 45))]) (σ' := σ4) rfl ?_
  refine wk_call tt_127 rfl rfl rfl rfl rfl tt_155 rfl (by decide) (w_nPrepare z σ4  _  w) (fun u12 σ8 hq10 => ?_)
  obtain ⟨rfl, hF9, w⟩ := hq10
  have w := w hF9
  refine wk_b tt_127 4 (pc' := 21) (ls' := [(0, .inr (.inr (.ref 45)))]) (st' := [.inl ((-1)), .inl (12), .inr (.inr (.ref 47))]) (σ' := σ8) rfl ?_
  refine wk_callp tt_127 rfl rfl rfl rfl rfl tt_21 rfl (by decide) (pt_i0 z σ8 47 13 (12) ((-1)) rfl (by decide) (by decide)) ?_
  show wx z 1 127 24 [(0, .inr (.inr (.ref 45)))] [] (sx_put σ8 47 13 (12) ((-1))) (fun v σ' => v = none ∧ sg_F [47, 8045, 9045, 11045, 21045, 22045, 23045, 24045] σ σ' ∧ Q σ')
  generalize hs14 : (sx_put σ8 47 13 (12) ((-1))) = σ13
  have w := w σ13 hs14.symm
  have hF15 : sg_F [47] σ8 σ13 := by rw [← hs14]; exact sg_F_p (sg_F_r _ _) rfl _ _ _
  refine wk_b tt_127 5 (pc' := 34) (ls' := [(0, .inr (.inr (.ref 45)))]) (st' := [.inl (12), .inr (.inr (.ref 31)), .inr (.inr (.ref 45))]) (σ' := σ13) rfl ?_
  refine wk_callp tt_127 rfl rfl rfl rfl rfl tt_5 rfl (by decide) (at_i0 z σ13 31 13 (12) rfl (by decide) (by decide)) ?_
  show wx z 1 127 37 [(0, .inr (.inr (.ref 45)))] [.inl ((sx_at σ13 31 13 (12))), .inr (.inr (.ref 45))] σ13 (fun v σ' => v = none ∧ sg_F [47, 8045, 9045, 11045, 21045, 22045, 23045, 24045] σ σ' ∧ Q σ')
  rw [sx_F (a := 31) (n := 13) (i := (12)) hF15 rfl, sx_F (a := 31) (n := 13) (i := (12)) hF9 rfl, sx_F (a := 31) (n := 13) (i := (12)) hF6 rfl, sx_F (a := 31) (n := 13) (i := (12)) hF3 rfl]
  refine wk_b tt_127 1 (pc' := 40) (ls' := [(0, .inr (.inr (.ref 45)))]) (st' := []) (σ' := (sg_w σ13 45 8 ((sx_at σ 31 13 (12))))) rfl ?_
  generalize hs17 : (sg_w σ13 45 8 ((sx_at σ 31 13 (12)))) = σ16
  have w := w σ16 hs17.symm
  have hF18 : sg_F [9045] σ13 σ16 := by rw [← hs17]; exact sg_F_w (sg_F_r _ _) rfl _
  exact wk_rV tt_127 rfl rfl ⟨rfl, (sg_F_t (sg_F_t (sg_F_t (sg_F_t (sg_F_t (sg_F_r [47, 8045, 9045, 11045, 21045, 22045, 23045, 24045] σ) (sg_F_m (L := [47, 8045, 9045, 11045, 21045, 22045, 23045, 24045]) hF3 rfl)) (sg_F_m (L := [47, 8045, 9045, 11045, 21045, 22045, 23045, 24045]) hF6 rfl)) (sg_F_m (L := [47, 8045, 9045, 11045, 21045, 22045, 23045, 24045]) hF9 rfl)) (sg_F_m (L := [47, 8045, 9045, 11045, 21045, 22045, 23045, 24045]) hF15 rfl)) (sg_F_m (L := [47, 8045, 9045, 11045, 21045, 22045, 23045, 24045]) hF18 rfl)), w⟩
-- NestedVectors$Machine.finish
def V_mnFinish (σ : sg_S) (a1 : Int) (Q : sg_S → Prop) : Prop := ∀ σ1, σ1 = (sg_w σ 45 9 ((sx_at σ 6 200 (a1)))) → (((sx_at σ 3 200 (a1)) = 257 → V_nConstant σ1 ((sx_at σ 5 200 (a1))) (fun σ7 => sg_F [48, 8045] σ1 σ7 → Q σ7)) ∧ (¬ (sx_at σ 3 200 (a1)) = 257 → (((sx_at σ 3 200 (a1)) = 258 → V_mnPush σ1 ((sx_at σ 46 272 ((sx_at σ 16 200 (a1))))) (fun σ15 => sg_F [48, 8045] σ1 σ15 → Q σ15)) ∧ (¬ (sx_at σ 3 200 (a1)) = 258 → (((sx_at σ 3 200 (a1)) = 279 → V_nRow σ1 ((sx_at σ 10 200 (a1))) (fun σ23 => sg_F [48, 53, 54, 8045, 11045, 21045, 22045, 23045] σ1 σ23 → Q σ23)) ∧ (¬ (sx_at σ 3 200 (a1)) = 279 → V_nCollect σ1 (a1) (fun σ29 => sg_F [48, 53, 54, 8045, 11045, 21045, 22045, 23045] σ1 σ29 → Q σ29)))))))
set_option maxHeartbeats 4000000 in
set_option maxRecDepth 8000 in
theorem w_mnFinish (z : Value) (σ : sg_S) (a1 : Int) (Q : sg_S → Prop) (ra1 : sg_R a1) (w : V_mnFinish σ a1 Q) : wx z 4 120 0 [(0, .inr (.inr (.ref 45))), (1, .inl (a1))] [] σ (fun v σ' => v = none ∧ sg_F [48, 53, 54, 8045, 10045, 11045, 21045, 22045, 23045] σ σ' ∧ Q σ') := by
  unfold V_mnFinish at w
  refine wk_b tt_120 5 (pc' := 9) (ls' := [(0, .inr (.inr (.ref 45))), (1, .inl (a1))]) (st' := [.inl (a1), .inr (.inr (.ref 6)), .inr (.inr (.ref 45))]) (σ' := σ) rfl ?_
  refine wk_callp tt_120 rfl rfl rfl rfl rfl tt_5 rfl (by decide) (at_i0 z σ 6 200 (a1) rfl (by decide) ra1) ?_
  show wx z 4 120 12 [(0, .inr (.inr (.ref 45))), (1, .inl (a1))] [.inl ((sx_at σ 6 200 (a1))), .inr (.inr (.ref 45))] σ (fun v σ' => v = none ∧ sg_F [48, 53, 54, 8045, 10045, 11045, 21045, 22045, 23045] σ σ' ∧ Q σ')
  refine wk_b tt_120 1 (pc' := 15) (ls' := [(0, .inr (.inr (.ref 45))), (1, .inl (a1))]) (st' := []) (σ' := (sg_w σ 45 9 ((sx_at σ 6 200 (a1))))) rfl ?_
  generalize hs2 : (sg_w σ 45 9 ((sx_at σ 6 200 (a1)))) = σ1
  have w := w σ1 hs2.symm
  have hF3 : sg_F [10045] σ σ1 := by rw [← hs2]; exact sg_F_w (sg_F_r _ _) rfl _
  refine wk_b tt_120 4 (pc' := 23) (ls' := [(0, .inr (.inr (.ref 45))), (1, .inl (a1))]) (st' := [.inl (a1), .inr (.inr (.ref 3))]) (σ' := σ1) rfl ?_
  refine wk_callp tt_120 rfl rfl rfl rfl rfl tt_5 rfl (by decide) (at_i0 z σ1 3 200 (a1) rfl (by decide) ra1) ?_
  show wx z 4 120 26 [(0, .inr (.inr (.ref 45))), (1, .inl (a1))] [.inl ((sx_at σ1 3 200 (a1)))] σ1 (fun v σ' => v = none ∧ sg_F [48, 53, 54, 8045, 10045, 11045, 21045, 22045, 23045] σ σ' ∧ Q σ')
  rw [sx_F (a := 3) (n := 200) (i := (a1)) hF3 rfl]
  by_cases e4 : (sx_at σ 3 200 (a1)) = 257
  · have w := w.1 e4
    refine wk_lw tt_120 (off := 34) (tgt := 60) rfl (by decide) (sx_R ..) (by rw [e4]; decide) rfl ?_
    refine wk_b tt_120 5 (pc' := 69) (ls' := [(0, .inr (.inr (.ref 45))), (1, .inl (a1))]) (st' := [.inl (a1), .inr (.inr (.ref 5)), .inr (.inr (.ref 45))]) (σ' := σ1) rfl ?_
    refine wk_callp tt_120 rfl rfl rfl rfl rfl tt_5 rfl (by decide) (at_i0 z σ1 5 200 (a1) rfl (by decide) ra1) ?_
    show wx z 4 120 72 [(0, .inr (.inr (.ref 45))), (1, .inl (a1))] [.inl ((sx_at σ1 5 200 (a1))), .inr (.inr (.ref 45))] σ1 (fun v σ' => v = none ∧ sg_F [48, 53, 54, 8045, 10045, 11045, 21045, 22045, 23045] σ σ' ∧ Q σ')
    rw [sx_F (a := 5) (n := 200) (i := (a1)) hF3 rfl]
    refine wk_call tt_120 rfl rfl rfl rfl rfl tt_135 rfl (by decide) (w_nConstant z σ1 ((sx_at σ 5 200 (a1))) _ (sx_R ..) w) (fun u11 σ7 hq9 => ?_)
    obtain ⟨rfl, hF8, w⟩ := hq9
    have w := w hF8
    refine wk_b tt_120 1 (pc' := 126) (ls' := [(0, .inr (.inr (.ref 45))), (1, .inl (a1))]) (st' := []) (σ' := σ7) rfl ?_
    exact wk_rV tt_120 rfl rfl ⟨rfl, (sg_F_t (sg_F_t (sg_F_r [48, 53, 54, 8045, 10045, 11045, 21045, 22045, 23045] σ) (sg_F_m (L := [48, 53, 54, 8045, 10045, 11045, 21045, 22045, 23045]) hF3 rfl)) (sg_F_m (L := [48, 53, 54, 8045, 10045, 11045, 21045, 22045, 23045]) hF8 rfl)), w⟩
  have w := w.2 e4
  by_cases e12 : (sx_at σ 3 200 (a1)) = 258
  · have w := w.1 e12
    refine wk_lw tt_120 (off := 52) (tgt := 78) rfl (by decide) (sx_R ..) (by rw [e12]; decide) rfl ?_
    refine wk_b tt_120 7 (pc' := 91) (ls' := [(0, .inr (.inr (.ref 45))), (1, .inl (a1))]) (st' := [.inl (a1), .inr (.inr (.ref 16)), .inr (.inr (.ref 46)), .inr (.inr (.ref 45))]) (σ' := σ1) rfl ?_
    refine wk_callp tt_120 rfl rfl rfl rfl rfl tt_5 rfl (by decide) (at_i0 z σ1 16 200 (a1) rfl (by decide) ra1) ?_
    show wx z 4 120 94 [(0, .inr (.inr (.ref 45))), (1, .inl (a1))] [.inl ((sx_at σ1 16 200 (a1))), .inr (.inr (.ref 46)), .inr (.inr (.ref 45))] σ1 (fun v σ' => v = none ∧ sg_F [48, 53, 54, 8045, 10045, 11045, 21045, 22045, 23045] σ σ' ∧ Q σ')
    rw [sx_F (a := 16) (n := 200) (i := (a1)) hF3 rfl]
    refine wk_callp tt_120 rfl rfl rfl rfl rfl tt_5 rfl (by decide) (at_i0 z σ1 46 272 ((sx_at σ 16 200 (a1))) rfl (by decide) (sx_R ..)) ?_
    show wx z 4 120 97 [(0, .inr (.inr (.ref 45))), (1, .inl (a1))] [.inl ((sx_at σ1 46 272 ((sx_at σ 16 200 (a1))))), .inr (.inr (.ref 45))] σ1 (fun v σ' => v = none ∧ sg_F [48, 53, 54, 8045, 10045, 11045, 21045, 22045, 23045] σ σ' ∧ Q σ')
    rw [sx_F (a := 46) (n := 272) (i := ((sx_at σ 16 200 (a1)))) hF3 rfl]
    refine wk_call tt_120 rfl rfl rfl rfl rfl tt_125 rfl (by decide) (w_mnPush z σ1 ((sx_at σ 46 272 ((sx_at σ 16 200 (a1))))) _ (sx_R ..) w) (fun u19 σ15 hq17 => ?_)
    obtain ⟨rfl, hF16, w⟩ := hq17
    have w := w hF16
    refine wk_b tt_120 1 (pc' := 126) (ls' := [(0, .inr (.inr (.ref 45))), (1, .inl (a1))]) (st' := []) (σ' := σ15) rfl ?_
    exact wk_rV tt_120 rfl rfl ⟨rfl, (sg_F_t (sg_F_t (sg_F_r [48, 53, 54, 8045, 10045, 11045, 21045, 22045, 23045] σ) (sg_F_m (L := [48, 53, 54, 8045, 10045, 11045, 21045, 22045, 23045]) hF3 rfl)) (sg_F_m (L := [48, 53, 54, 8045, 10045, 11045, 21045, 22045, 23045]) hF16 rfl)), w⟩
  have w := w.2 e12
  by_cases e20 : (sx_at σ 3 200 (a1)) = 279
  · have w := w.1 e20
    refine wk_lw tt_120 (off := 77) (tgt := 103) rfl (by decide) (sx_R ..) (by rw [e20]; decide) rfl ?_
    refine wk_b tt_120 5 (pc' := 112) (ls' := [(0, .inr (.inr (.ref 45))), (1, .inl (a1))]) (st' := [.inl (a1), .inr (.inr (.ref 10)), .inr (.inr (.ref 45))]) (σ' := σ1) rfl ?_
    refine wk_callp tt_120 rfl rfl rfl rfl rfl tt_5 rfl (by decide) (at_i0 z σ1 10 200 (a1) rfl (by decide) ra1) ?_
    show wx z 4 120 115 [(0, .inr (.inr (.ref 45))), (1, .inl (a1))] [.inl ((sx_at σ1 10 200 (a1))), .inr (.inr (.ref 45))] σ1 (fun v σ' => v = none ∧ sg_F [48, 53, 54, 8045, 10045, 11045, 21045, 22045, 23045] σ σ' ∧ Q σ')
    rw [sx_F (a := 10) (n := 200) (i := (a1)) hF3 rfl]
    refine wk_call tt_120 rfl rfl rfl rfl rfl tt_159 rfl (by decide) (w_nRow z σ1 ((sx_at σ 10 200 (a1))) _ (sx_R ..) w) (fun u27 σ23 hq25 => ?_)
    obtain ⟨rfl, hF24, w⟩ := hq25
    have w := w hF24
    refine wk_b tt_120 1 (pc' := 126) (ls' := [(0, .inr (.inr (.ref 45))), (1, .inl (a1))]) (st' := []) (σ' := σ23) rfl ?_
    exact wk_rV tt_120 rfl rfl ⟨rfl, (sg_F_t (sg_F_t (sg_F_r [48, 53, 54, 8045, 10045, 11045, 21045, 22045, 23045] σ) (sg_F_m (L := [48, 53, 54, 8045, 10045, 11045, 21045, 22045, 23045]) hF3 rfl)) (sg_F_m (L := [48, 53, 54, 8045, 10045, 11045, 21045, 22045, 23045]) hF24 rfl)), w⟩
  have w := w.2 e20
  refine wk_lw tt_120 (off := 95) (tgt := 121) rfl (by decide) (sx_R ..) (by simp only [Op.lookupswitch.offset]; rw [if_neg (fun h => e4 h.symm), if_neg (fun h => e12 h.symm), if_neg (fun h => e20 h.symm)]) rfl ?_
  refine wk_b tt_120 2 (pc' := 123) (ls' := [(0, .inr (.inr (.ref 45))), (1, .inl (a1))]) (st' := [.inl (a1), .inr (.inr (.ref 45))]) (σ' := σ1) rfl ?_
  refine wk_call tt_120 rfl rfl rfl rfl rfl tt_133 rfl (by decide) (w_nCollect z σ1 (a1) _ ra1 w) (fun u33 σ29 hq31 => ?_)
  obtain ⟨rfl, hF30, w⟩ := hq31
  have w := w hF30
  exact wk_rV tt_120 rfl rfl ⟨rfl, (sg_F_t (sg_F_t (sg_F_r [48, 53, 54, 8045, 10045, 11045, 21045, 22045, 23045] σ) (sg_F_m (L := [48, 53, 54, 8045, 10045, 11045, 21045, 22045, 23045]) hF3 rfl)) (sg_F_m (L := [48, 53, 54, 8045, 10045, 11045, 21045, 22045, 23045]) hF30 rfl)), w⟩
-- NestedVectors$Machine.finishOne
def V_mnFinishOne_35 (σ : sg_S) (b3 : Int) (Q : sg_S → Prop) : Prop := V_nMeasure σ (b3) (fun σ2 => sg_F [48, 8045] σ σ2 → Q σ2)
set_option maxHeartbeats 4000000 in
set_option maxRecDepth 8000 in
theorem w_mnFinishOne_35 (z : Value) (σ : sg_S) (b3 : Int) (Q : sg_S → Prop) (rb3 : sg_R b3) (w : V_mnFinishOne_35 σ b3 Q) : wx z 3 121 84 [(0, .inr (.inr (.ref 45))), (3, .inl (b3))] [] σ (fun v σ' => v = none ∧ sg_F [48, 8045] σ σ' ∧ Q σ') := by
  unfold V_mnFinishOne_35 at w
  refine wk_b tt_121 2 (pc' := 86) (ls' := [(0, .inr (.inr (.ref 45))), (3, .inl (b3))]) (st' := [.inl (b3), .inr (.inr (.ref 45))]) (σ' := σ) rfl ?_
  refine wk_call tt_121 rfl rfl rfl rfl rfl tt_150 rfl (by decide) (w_nMeasure z σ (b3) _ rb3 w) (fun u6 σ2 hq4 => ?_)
  obtain ⟨rfl, hF3, w⟩ := hq4
  have w := w hF3
  refine wk_b tt_121 1 (pc' := 130) (ls' := [(0, .inr (.inr (.ref 45))), (3, .inl (b3))]) (st' := []) (σ' := σ2) rfl ?_
  exact wk_rV tt_121 rfl rfl ⟨rfl, (sg_F_t (sg_F_r [48, 8045] σ) (sg_F_m (L := [48, 8045]) hF3 rfl)), w⟩
-- NestedVectors$Machine.finishOne
def V_mnFinishOne_267 (σ : sg_S) (b3 : Int) (Q : sg_S → Prop) : Prop := V_nCountUp σ (b3) (fun σ2 => sg_F [48, 53, 54, 8045, 11045, 21045, 22045, 23045] σ σ2 → Q σ2)
set_option maxHeartbeats 4000000 in
set_option maxRecDepth 8000 in
theorem w_mnFinishOne_267 (z : Value) (σ : sg_S) (b3 : Int) (Q : sg_S → Prop) (rb3 : sg_R b3) (w : V_mnFinishOne_267 σ b3 Q) : wx z 4 121 92 [(0, .inr (.inr (.ref 45))), (3, .inl (b3))] [] σ (fun v σ' => v = none ∧ sg_F [48, 53, 54, 8045, 11045, 21045, 22045, 23045] σ σ' ∧ Q σ') := by
  unfold V_mnFinishOne_267 at w
  refine wk_b tt_121 2 (pc' := 94) (ls' := [(0, .inr (.inr (.ref 45))), (3, .inl (b3))]) (st' := [.inl (b3), .inr (.inr (.ref 45))]) (σ' := σ) rfl ?_
  refine wk_call tt_121 rfl rfl rfl rfl rfl tt_137 rfl (by decide) (w_nCountUp z σ (b3) _ rb3 w) (fun u6 σ2 hq4 => ?_)
  obtain ⟨rfl, hF3, w⟩ := hq4
  have w := w hF3
  refine wk_b tt_121 1 (pc' := 130) (ls' := [(0, .inr (.inr (.ref 45))), (3, .inl (b3))]) (st' := []) (σ' := σ2) rfl ?_
  exact wk_rV tt_121 rfl rfl ⟨rfl, (sg_F_t (sg_F_r [48, 53, 54, 8045, 11045, 21045, 22045, 23045] σ) (sg_F_m (L := [48, 53, 54, 8045, 11045, 21045, 22045, 23045]) hF3 rfl)), w⟩
-- NestedVectors$Machine.finishOne
def V_mnFinishOne_272 (σ : sg_S) (b3 : Int) (Q : sg_S → Prop) : Prop := V_nSumUp σ (b3) (fun σ2 => sg_F [48, 53, 54, 8045, 11045, 21045, 22045, 23045] σ σ2 → Q σ2)
set_option maxHeartbeats 4000000 in
set_option maxRecDepth 8000 in
theorem w_mnFinishOne_272 (z : Value) (σ : sg_S) (b3 : Int) (Q : sg_S → Prop) (rb3 : sg_R b3) (w : V_mnFinishOne_272 σ b3 Q) : wx z 4 121 100 [(0, .inr (.inr (.ref 45))), (3, .inl (b3))] [] σ (fun v σ' => v = none ∧ sg_F [48, 53, 54, 8045, 11045, 21045, 22045, 23045] σ σ' ∧ Q σ') := by
  unfold V_mnFinishOne_272 at w
  refine wk_b tt_121 2 (pc' := 102) (ls' := [(0, .inr (.inr (.ref 45))), (3, .inl (b3))]) (st' := [.inl (b3), .inr (.inr (.ref 45))]) (σ' := σ) rfl ?_
  refine wk_call tt_121 rfl rfl rfl rfl rfl tt_163 rfl (by decide) (w_nSumUp z σ (b3) _ rb3 w) (fun u6 σ2 hq4 => ?_)
  obtain ⟨rfl, hF3, w⟩ := hq4
  have w := w hF3
  refine wk_b tt_121 1 (pc' := 130) (ls' := [(0, .inr (.inr (.ref 45))), (3, .inl (b3))]) (st' := []) (σ' := σ2) rfl ?_
  exact wk_rV tt_121 rfl rfl ⟨rfl, (sg_F_t (sg_F_r [48, 53, 54, 8045, 11045, 21045, 22045, 23045] σ) (sg_F_m (L := [48, 53, 54, 8045, 11045, 21045, 22045, 23045]) hF3 rfl)), w⟩
-- NestedVectors$Machine.finishOne
def V_mnFinishOne_273 (σ : sg_S) (b3 : Int) (Q : sg_S → Prop) : Prop := V_nReverse σ (b3) (fun σ2 => sg_F [48, 53, 54, 8045, 11045, 21045, 22045, 23045] σ σ2 → Q σ2)
set_option maxHeartbeats 4000000 in
set_option maxRecDepth 8000 in
theorem w_mnFinishOne_273 (z : Value) (σ : sg_S) (b3 : Int) (Q : sg_S → Prop) (rb3 : sg_R b3) (w : V_mnFinishOne_273 σ b3 Q) : wx z 4 121 108 [(0, .inr (.inr (.ref 45))), (3, .inl (b3))] [] σ (fun v σ' => v = none ∧ sg_F [48, 53, 54, 8045, 11045, 21045, 22045, 23045] σ σ' ∧ Q σ') := by
  unfold V_mnFinishOne_273 at w
  refine wk_b tt_121 2 (pc' := 110) (ls' := [(0, .inr (.inr (.ref 45))), (3, .inl (b3))]) (st' := [.inl (b3), .inr (.inr (.ref 45))]) (σ' := σ) rfl ?_
  refine wk_call tt_121 rfl rfl rfl rfl rfl tt_158 rfl (by decide) (w_nReverse z σ (b3) _ rb3 w) (fun u6 σ2 hq4 => ?_)
  obtain ⟨rfl, hF3, w⟩ := hq4
  have w := w hF3
  refine wk_b tt_121 1 (pc' := 130) (ls' := [(0, .inr (.inr (.ref 45))), (3, .inl (b3))]) (st' := []) (σ' := σ2) rfl ?_
  exact wk_rV tt_121 rfl rfl ⟨rfl, (sg_F_t (sg_F_r [48, 53, 54, 8045, 11045, 21045, 22045, 23045] σ) (sg_F_m (L := [48, 53, 54, 8045, 11045, 21045, 22045, 23045]) hF3 rfl)), w⟩
-- NestedVectors$Machine.finishOne
def V_mnFinishOne_275 (σ : sg_S) (b3 : Int) (Q : sg_S → Prop) : Prop := V_nFlatten σ (b3) (fun σ2 => sg_F [48, 53, 54, 8045, 11045, 21045, 22045, 23045] σ σ2 → Q σ2)
set_option maxHeartbeats 4000000 in
set_option maxRecDepth 8000 in
theorem w_mnFinishOne_275 (z : Value) (σ : sg_S) (b3 : Int) (Q : sg_S → Prop) (rb3 : sg_R b3) (w : V_mnFinishOne_275 σ b3 Q) : wx z 4 121 116 [(0, .inr (.inr (.ref 45))), (3, .inl (b3))] [] σ (fun v σ' => v = none ∧ sg_F [48, 53, 54, 8045, 11045, 21045, 22045, 23045] σ σ' ∧ Q σ') := by
  unfold V_mnFinishOne_275 at w
  refine wk_b tt_121 2 (pc' := 118) (ls' := [(0, .inr (.inr (.ref 45))), (3, .inl (b3))]) (st' := [.inl (b3), .inr (.inr (.ref 45))]) (σ' := σ) rfl ?_
  refine wk_call tt_121 rfl rfl rfl rfl rfl tt_141 rfl (by decide) (w_nFlatten z σ (b3) _ rb3 w) (fun u6 σ2 hq4 => ?_)
  obtain ⟨rfl, hF3, w⟩ := hq4
  have w := w hF3
  refine wk_b tt_121 1 (pc' := 130) (ls' := [(0, .inr (.inr (.ref 45))), (3, .inl (b3))]) (st' := []) (σ' := σ2) rfl ?_
  exact wk_rV tt_121 rfl rfl ⟨rfl, (sg_F_t (sg_F_r [48, 53, 54, 8045, 11045, 21045, 22045, 23045] σ) (sg_F_m (L := [48, 53, 54, 8045, 11045, 21045, 22045, 23045]) hF3 rfl)), w⟩
-- NestedVectors$Machine.finishOne
def V_mnFinishOne_d (σ : sg_S) (b2 : Int) (b3 : Int) (Q : sg_S → Prop) : Prop := V_nReduce σ (b2) (b3) (fun σ2 => sg_F [48, 8045, 11045, 23045] σ σ2 → Q σ2)
set_option maxHeartbeats 4000000 in
set_option maxRecDepth 8000 in
theorem w_mnFinishOne_d (z : Value) (σ : sg_S) (b2 : Int) (b3 : Int) (Q : sg_S → Prop) (rb2 : sg_R b2) (rb3 : sg_R b3) (w : V_mnFinishOne_d σ b2 b3 Q) : wx z 3 121 124 [(0, .inr (.inr (.ref 45))), (2, .inl (b2)), (3, .inl (b3))] [] σ (fun v σ' => v = none ∧ sg_F [48, 8045, 11045, 23045] σ σ' ∧ Q σ') := by
  unfold V_mnFinishOne_d at w
  refine wk_b tt_121 3 (pc' := 127) (ls' := [(0, .inr (.inr (.ref 45))), (2, .inl (b2)), (3, .inl (b3))]) (st' := [.inl (b3), .inl (b2), .inr (.inr (.ref 45))]) (σ' := σ) rfl ?_
  refine wk_call tt_121 rfl rfl rfl rfl rfl tt_156 rfl (by decide) (w_nReduce z σ (b2) (b3) _ rb2 rb3 w) (fun u6 σ2 hq4 => ?_)
  obtain ⟨rfl, hF3, w⟩ := hq4
  have w := w hF3
  exact wk_rV tt_121 rfl rfl ⟨rfl, (sg_F_t (sg_F_r [48, 8045, 11045, 23045] σ) (sg_F_m (L := [48, 8045, 11045, 23045]) hF3 rfl)), w⟩
-- NestedVectors$Machine.finishOne
def V_mnFinishOne (σ : sg_S) (a1 : Int) (Q : sg_S → Prop) : Prop := V_mnPop σ  (fun q1 σ2 => sg_R q1 → sg_F [8045] σ σ2 → ∀ σ7, σ7 = (sg_w σ2 45 9 ((sx_at σ 6 200 (a1)))) → (((sx_at σ 3 200 (a1)) = 35 → V_mnFinishOne_35 σ7 (q1) Q) ∧ (¬ (sx_at σ 3 200 (a1)) = 35 → (((sx_at σ 3 200 (a1)) = 267 → V_mnFinishOne_267 σ7 (q1) Q) ∧ (¬ (sx_at σ 3 200 (a1)) = 267 → (((sx_at σ 3 200 (a1)) = 272 → V_mnFinishOne_272 σ7 (q1) Q) ∧ (¬ (sx_at σ 3 200 (a1)) = 272 → (((sx_at σ 3 200 (a1)) = 273 → V_mnFinishOne_273 σ7 (q1) Q) ∧ (¬ (sx_at σ 3 200 (a1)) = 273 → (((sx_at σ 3 200 (a1)) = 275 → V_mnFinishOne_275 σ7 (q1) Q) ∧ (¬ (sx_at σ 3 200 (a1)) = 275 → V_mnFinishOne_d σ7 ((sx_at σ 3 200 (a1))) (q1) Q)))))))))))
set_option maxHeartbeats 4000000 in
set_option maxRecDepth 8000 in
theorem w_mnFinishOne (z : Value) (σ : sg_S) (a1 : Int) (Q : sg_S → Prop) (ra1 : sg_R a1) (w : V_mnFinishOne σ a1 Q) : wx z 4 121 0 [(0, .inr (.inr (.ref 45))), (1, .inl (a1))] [] σ (fun v σ' => v = none ∧ sg_F [48, 53, 54, 8045, 10045, 11045, 21045, 22045, 23045] σ σ' ∧ Q σ') := by
  unfold V_mnFinishOne at w
  refine wk_b tt_121 4 (pc' := 8) (ls' := [(0, .inr (.inr (.ref 45))), (1, .inl (a1))]) (st' := [.inl (a1), .inr (.inr (.ref 3))]) (σ' := σ) rfl ?_
  refine wk_callp tt_121 rfl rfl rfl rfl rfl tt_5 rfl (by decide) (at_i0 z σ 3 200 (a1) rfl (by decide) ra1) ?_
  show wx z 4 121 11 [(0, .inr (.inr (.ref 45))), (1, .inl (a1))] [.inl ((sx_at σ 3 200 (a1)))] σ (fun v σ' => v = none ∧ sg_F [48, 53, 54, 8045, 10045, 11045, 21045, 22045, 23045] σ σ' ∧ Q σ')
  refine wk_b tt_121 2 (pc' := 13) (ls' := [(2, .inl ((sx_at σ 3 200 (a1)))), (0, .inr (.inr (.ref 45))), (1, .inl (a1))]) (st' := [.inr (.inr (.ref 45))]) (σ' := σ) rfl ?_
  refine wk_call tt_121 rfl rfl rfl rfl rfl tt_124 rfl (by decide) (w_mnPop z σ  _  w) (fun u6 σ2 hq4 => ?_)
  obtain ⟨q1, rfl, r5, hF3, w⟩ := hq4
  have w := w r5 hF3
  refine wk_b tt_121 6 (pc' := 26) (ls' := [(3, .inl (q1)), (2, .inl ((sx_at σ 3 200 (a1)))), (0, .inr (.inr (.ref 45))), (1, .inl (a1))]) (st' := [.inl (a1), .inr (.inr (.ref 6)), .inr (.inr (.ref 45))]) (σ' := σ2) rfl ?_
  refine wk_callp tt_121 rfl rfl rfl rfl rfl tt_5 rfl (by decide) (at_i0 z σ2 6 200 (a1) rfl (by decide) ra1) ?_
  show wx z 4 121 29 [(3, .inl (q1)), (2, .inl ((sx_at σ 3 200 (a1)))), (0, .inr (.inr (.ref 45))), (1, .inl (a1))] [.inl ((sx_at σ2 6 200 (a1))), .inr (.inr (.ref 45))] σ2 (fun v σ' => v = none ∧ sg_F [48, 53, 54, 8045, 10045, 11045, 21045, 22045, 23045] σ σ' ∧ Q σ')
  rw [sx_F (a := 6) (n := 200) (i := (a1)) hF3 rfl]
  refine wk_b tt_121 1 (pc' := 32) (ls' := [(3, .inl (q1)), (2, .inl ((sx_at σ 3 200 (a1)))), (0, .inr (.inr (.ref 45))), (1, .inl (a1))]) (st' := []) (σ' := (sg_w σ2 45 9 ((sx_at σ 6 200 (a1))))) rfl ?_
  generalize hs8 : (sg_w σ2 45 9 ((sx_at σ 6 200 (a1)))) = σ7
  have w := w σ7 hs8.symm
  have hF9 : sg_F [10045] σ2 σ7 := by rw [← hs8]; exact sg_F_w (sg_F_r _ _) rfl _
  refine wk_b tt_121 1 (pc' := 33) (ls' := [(3, .inl (q1)), (2, .inl ((sx_at σ 3 200 (a1)))), (0, .inr (.inr (.ref 45))), (1, .inl (a1))]) (st' := [.inl ((sx_at σ 3 200 (a1)))]) (σ' := σ7) rfl ?_
  by_cases e10 : (sx_at σ 3 200 (a1)) = 35
  · have w := w.1 e10
    refine wk_lw tt_121 (off := 51) (tgt := 84) rfl (by decide) (sx_R ..) (by rw [e10]; decide) rfl ?_
    refine wk_ls [(0, .inr (.inr (.ref 45))), (3, .inl (q1))] rfl ⟨rfl, rfl, trivial⟩ ?_
    exact wk_post (wk_d (by decide) (w_mnFinishOne_35 z σ7 (q1) Q r5 w)) (fun v σ' ⟨e, hF, hQ⟩ => ⟨e, sg_F_t (sg_F_t (sg_F_t (sg_F_r [48, 53, 54, 8045, 10045, 11045, 21045, 22045, 23045] σ) (sg_F_m (L := [48, 53, 54, 8045, 10045, 11045, 21045, 22045, 23045]) hF3 rfl)) (sg_F_m (L := [48, 53, 54, 8045, 10045, 11045, 21045, 22045, 23045]) hF9 rfl)) (sg_F_m hF rfl), hQ⟩)
  have w := w.2 e10
  by_cases e12 : (sx_at σ 3 200 (a1)) = 267
  · have w := w.1 e12
    refine wk_lw tt_121 (off := 59) (tgt := 92) rfl (by decide) (sx_R ..) (by rw [e12]; decide) rfl ?_
    refine wk_ls [(0, .inr (.inr (.ref 45))), (3, .inl (q1))] rfl ⟨rfl, rfl, trivial⟩ ?_
    exact wk_post (wk_d (by decide) (w_mnFinishOne_267 z σ7 (q1) Q r5 w)) (fun v σ' ⟨e, hF, hQ⟩ => ⟨e, sg_F_t (sg_F_t (sg_F_t (sg_F_r [48, 53, 54, 8045, 10045, 11045, 21045, 22045, 23045] σ) (sg_F_m (L := [48, 53, 54, 8045, 10045, 11045, 21045, 22045, 23045]) hF3 rfl)) (sg_F_m (L := [48, 53, 54, 8045, 10045, 11045, 21045, 22045, 23045]) hF9 rfl)) (sg_F_m hF rfl), hQ⟩)
  have w := w.2 e12
  by_cases e14 : (sx_at σ 3 200 (a1)) = 272
  · have w := w.1 e14
    refine wk_lw tt_121 (off := 67) (tgt := 100) rfl (by decide) (sx_R ..) (by rw [e14]; decide) rfl ?_
    refine wk_ls [(0, .inr (.inr (.ref 45))), (3, .inl (q1))] rfl ⟨rfl, rfl, trivial⟩ ?_
    exact wk_post (wk_d (by decide) (w_mnFinishOne_272 z σ7 (q1) Q r5 w)) (fun v σ' ⟨e, hF, hQ⟩ => ⟨e, sg_F_t (sg_F_t (sg_F_t (sg_F_r [48, 53, 54, 8045, 10045, 11045, 21045, 22045, 23045] σ) (sg_F_m (L := [48, 53, 54, 8045, 10045, 11045, 21045, 22045, 23045]) hF3 rfl)) (sg_F_m (L := [48, 53, 54, 8045, 10045, 11045, 21045, 22045, 23045]) hF9 rfl)) (sg_F_m hF rfl), hQ⟩)
  have w := w.2 e14
  by_cases e16 : (sx_at σ 3 200 (a1)) = 273
  · have w := w.1 e16
    refine wk_lw tt_121 (off := 75) (tgt := 108) rfl (by decide) (sx_R ..) (by rw [e16]; decide) rfl ?_
    refine wk_ls [(0, .inr (.inr (.ref 45))), (3, .inl (q1))] rfl ⟨rfl, rfl, trivial⟩ ?_
    exact wk_post (wk_d (by decide) (w_mnFinishOne_273 z σ7 (q1) Q r5 w)) (fun v σ' ⟨e, hF, hQ⟩ => ⟨e, sg_F_t (sg_F_t (sg_F_t (sg_F_r [48, 53, 54, 8045, 10045, 11045, 21045, 22045, 23045] σ) (sg_F_m (L := [48, 53, 54, 8045, 10045, 11045, 21045, 22045, 23045]) hF3 rfl)) (sg_F_m (L := [48, 53, 54, 8045, 10045, 11045, 21045, 22045, 23045]) hF9 rfl)) (sg_F_m hF rfl), hQ⟩)
  have w := w.2 e16
  by_cases e18 : (sx_at σ 3 200 (a1)) = 275
  · have w := w.1 e18
    refine wk_lw tt_121 (off := 83) (tgt := 116) rfl (by decide) (sx_R ..) (by rw [e18]; decide) rfl ?_
    refine wk_ls [(0, .inr (.inr (.ref 45))), (3, .inl (q1))] rfl ⟨rfl, rfl, trivial⟩ ?_
    exact wk_post (wk_d (by decide) (w_mnFinishOne_275 z σ7 (q1) Q r5 w)) (fun v σ' ⟨e, hF, hQ⟩ => ⟨e, sg_F_t (sg_F_t (sg_F_t (sg_F_r [48, 53, 54, 8045, 10045, 11045, 21045, 22045, 23045] σ) (sg_F_m (L := [48, 53, 54, 8045, 10045, 11045, 21045, 22045, 23045]) hF3 rfl)) (sg_F_m (L := [48, 53, 54, 8045, 10045, 11045, 21045, 22045, 23045]) hF9 rfl)) (sg_F_m hF rfl), hQ⟩)
  have w := w.2 e18
  refine wk_lw tt_121 (off := 91) (tgt := 124) rfl (by decide) (sx_R ..) (by simp only [Op.lookupswitch.offset]; rw [if_neg (fun h => e10 h.symm), if_neg (fun h => e12 h.symm), if_neg (fun h => e14 h.symm), if_neg (fun h => e16 h.symm), if_neg (fun h => e18 h.symm)]) rfl ?_
  refine wk_ls [(0, .inr (.inr (.ref 45))), (2, .inl ((sx_at σ 3 200 (a1)))), (3, .inl (q1))] rfl ⟨rfl, rfl, rfl, trivial⟩ ?_
  exact wk_post (wk_d (by decide) (w_mnFinishOne_d z σ7 ((sx_at σ 3 200 (a1))) (q1) Q (sx_R ..) r5 w)) (fun v σ' ⟨e, hF, hQ⟩ => ⟨e, sg_F_t (sg_F_t (sg_F_t (sg_F_r [48, 53, 54, 8045, 10045, 11045, 21045, 22045, 23045] σ) (sg_F_m (L := [48, 53, 54, 8045, 10045, 11045, 21045, 22045, 23045]) hF3 rfl)) (sg_F_m (L := [48, 53, 54, 8045, 10045, 11045, 21045, 22045, 23045]) hF9 rfl)) (sg_F_m hF rfl), hQ⟩)
-- NestedVectors$Machine.finishTwo
def V_mnFinishTwo_91 (σ : sg_S) (b3 : Int) (b4 : Int) (Q : sg_S → Prop) : Prop := V_nSelect σ (b4) (b3) (fun σ2 => sg_F [48, 8045, 11045] σ σ2 → Q σ2)
set_option maxHeartbeats 4000000 in
set_option maxRecDepth 8000 in
theorem w_mnFinishTwo_91 (z : Value) (σ : sg_S) (b3 : Int) (b4 : Int) (Q : sg_S → Prop) (rb3 : sg_R b3) (rb4 : sg_R b4) (w : V_mnFinishTwo_91 σ b3 b4 Q) : wx z 3 122 96 [(0, .inr (.inr (.ref 45))), (3, .inl (b3)), (4, .inl (b4))] [] σ (fun v σ' => v = none ∧ sg_F [48, 8045, 11045] σ σ' ∧ Q σ') := by
  unfold V_mnFinishTwo_91 at w
  refine wk_b tt_122 3 (pc' := 100) (ls' := [(0, .inr (.inr (.ref 45))), (3, .inl (b3)), (4, .inl (b4))]) (st' := [.inl (b3), .inl (b4), .inr (.inr (.ref 45))]) (σ' := σ) rfl ?_
  refine wk_call tt_122 rfl rfl rfl rfl rfl tt_160 rfl (by decide) (w_nSelect z σ (b4) (b3) _ rb4 rb3 w) (fun u6 σ2 hq4 => ?_)
  obtain ⟨rfl, hF3, w⟩ := hq4
  have w := w hF3
  refine wk_b tt_122 1 (pc' := 164) (ls' := [(0, .inr (.inr (.ref 45))), (3, .inl (b3)), (4, .inl (b4))]) (st' := []) (σ' := σ2) rfl ?_
  exact wk_rV tt_122 rfl rfl ⟨rfl, (sg_F_t (sg_F_r [48, 8045, 11045] σ) (sg_F_m (L := [48, 8045, 11045]) hF3 rfl)), w⟩
-- NestedVectors$Machine.finishTwo
def V_mnFinishTwo_268 (σ : sg_S) (b3 : Int) (b4 : Int) (Q : sg_S → Prop) : Prop := V_nRepeat σ (b4) (b3) (fun σ2 => sg_F [48, 53, 54, 8045, 11045, 21045, 22045, 23045] σ σ2 → Q σ2)
set_option maxHeartbeats 4000000 in
set_option maxRecDepth 8000 in
theorem w_mnFinishTwo_268 (z : Value) (σ : sg_S) (b3 : Int) (b4 : Int) (Q : sg_S → Prop) (rb3 : sg_R b3) (rb4 : sg_R b4) (w : V_mnFinishTwo_268 σ b3 b4 Q) : wx z 4 122 106 [(0, .inr (.inr (.ref 45))), (3, .inl (b3)), (4, .inl (b4))] [] σ (fun v σ' => v = none ∧ sg_F [48, 53, 54, 8045, 11045, 21045, 22045, 23045] σ σ' ∧ Q σ') := by
  unfold V_mnFinishTwo_268 at w
  refine wk_b tt_122 3 (pc' := 110) (ls' := [(0, .inr (.inr (.ref 45))), (3, .inl (b3)), (4, .inl (b4))]) (st' := [.inl (b3), .inl (b4), .inr (.inr (.ref 45))]) (σ' := σ) rfl ?_
  refine wk_call tt_122 rfl rfl rfl rfl rfl tt_157 rfl (by decide) (w_nRepeat z σ (b4) (b3) _ rb4 rb3 w) (fun u6 σ2 hq4 => ?_)
  obtain ⟨rfl, hF3, w⟩ := hq4
  have w := w hF3
  refine wk_b tt_122 1 (pc' := 164) (ls' := [(0, .inr (.inr (.ref 45))), (3, .inl (b3)), (4, .inl (b4))]) (st' := []) (σ' := σ2) rfl ?_
  exact wk_rV tt_122 rfl rfl ⟨rfl, (sg_F_t (sg_F_r [48, 53, 54, 8045, 11045, 21045, 22045, 23045] σ) (sg_F_m (L := [48, 53, 54, 8045, 11045, 21045, 22045, 23045]) hF3 rfl)), w⟩
-- NestedVectors$Machine.finishTwo
def V_mnFinishTwo_274 (σ : sg_S) (b3 : Int) (b4 : Int) (Q : sg_S → Prop) : Prop := V_nAppend σ (b4) (b3) (fun σ2 => sg_F [48, 53, 54, 8045, 11045, 21045, 22045, 23045] σ σ2 → Q σ2)
set_option maxHeartbeats 4000000 in
set_option maxRecDepth 8000 in
theorem w_mnFinishTwo_274 (z : Value) (σ : sg_S) (b3 : Int) (b4 : Int) (Q : sg_S → Prop) (rb3 : sg_R b3) (rb4 : sg_R b4) (w : V_mnFinishTwo_274 σ b3 b4 Q) : wx z 4 122 116 [(0, .inr (.inr (.ref 45))), (3, .inl (b3)), (4, .inl (b4))] [] σ (fun v σ' => v = none ∧ sg_F [48, 53, 54, 8045, 11045, 21045, 22045, 23045] σ σ' ∧ Q σ') := by
  unfold V_mnFinishTwo_274 at w
  refine wk_b tt_122 3 (pc' := 120) (ls' := [(0, .inr (.inr (.ref 45))), (3, .inl (b3)), (4, .inl (b4))]) (st' := [.inl (b3), .inl (b4), .inr (.inr (.ref 45))]) (σ' := σ) rfl ?_
  refine wk_call tt_122 rfl rfl rfl rfl rfl tt_131 rfl (by decide) (w_nAppend z σ (b4) (b3) _ rb4 rb3 w) (fun u6 σ2 hq4 => ?_)
  obtain ⟨rfl, hF3, w⟩ := hq4
  have w := w hF3
  refine wk_b tt_122 1 (pc' := 164) (ls' := [(0, .inr (.inr (.ref 45))), (3, .inl (b3)), (4, .inl (b4))]) (st' := []) (σ' := σ2) rfl ?_
  exact wk_rV tt_122 rfl rfl ⟨rfl, (sg_F_t (sg_F_r [48, 53, 54, 8045, 11045, 21045, 22045, 23045] σ) (sg_F_m (L := [48, 53, 54, 8045, 11045, 21045, 22045, 23045]) hF3 rfl)), w⟩
-- NestedVectors$Machine.finishTwo
def V_mnFinishTwo_276 (σ : sg_S) (b3 : Int) (b4 : Int) (Q : sg_S → Prop) : Prop := V_nPack σ (b4) (b3) (fun σ2 => sg_F [48, 53, 54, 8045, 11045, 21045, 22045, 23045] σ σ2 → Q σ2)
set_option maxHeartbeats 4000000 in
set_option maxRecDepth 8000 in
theorem w_mnFinishTwo_276 (z : Value) (σ : sg_S) (b3 : Int) (b4 : Int) (Q : sg_S → Prop) (rb3 : sg_R b3) (rb4 : sg_R b4) (w : V_mnFinishTwo_276 σ b3 b4 Q) : wx z 4 122 126 [(0, .inr (.inr (.ref 45))), (3, .inl (b3)), (4, .inl (b4))] [] σ (fun v σ' => v = none ∧ sg_F [48, 53, 54, 8045, 11045, 21045, 22045, 23045] σ σ' ∧ Q σ') := by
  unfold V_mnFinishTwo_276 at w
  refine wk_b tt_122 3 (pc' := 130) (ls' := [(0, .inr (.inr (.ref 45))), (3, .inl (b3)), (4, .inl (b4))]) (st' := [.inl (b3), .inl (b4), .inr (.inr (.ref 45))]) (σ' := σ) rfl ?_
  refine wk_call tt_122 rfl rfl rfl rfl rfl tt_153 rfl (by decide) (w_nPack z σ (b4) (b3) _ rb4 rb3 w) (fun u6 σ2 hq4 => ?_)
  obtain ⟨rfl, hF3, w⟩ := hq4
  have w := w hF3
  refine wk_b tt_122 1 (pc' := 164) (ls' := [(0, .inr (.inr (.ref 45))), (3, .inl (b3)), (4, .inl (b4))]) (st' := []) (σ' := σ2) rfl ?_
  exact wk_rV tt_122 rfl rfl ⟨rfl, (sg_F_t (sg_F_r [48, 53, 54, 8045, 11045, 21045, 22045, 23045] σ) (sg_F_m (L := [48, 53, 54, 8045, 11045, 21045, 22045, 23045]) hF3 rfl)), w⟩
-- NestedVectors$Machine.finishTwo
def V_mnFinishTwo_277 (σ : sg_S) (b3 : Int) (b4 : Int) (Q : sg_S → Prop) : Prop := V_nPermute σ (b4) (b3) (fun σ2 => sg_F [48, 53, 54, 55, 8045, 11045, 21045, 22045, 23045] σ σ2 → Q σ2)
set_option maxHeartbeats 4000000 in
set_option maxRecDepth 8000 in
theorem w_mnFinishTwo_277 (z : Value) (σ : sg_S) (b3 : Int) (b4 : Int) (Q : sg_S → Prop) (rb3 : sg_R b3) (rb4 : sg_R b4) (w : V_mnFinishTwo_277 σ b3 b4 Q) : wx z 4 122 136 [(0, .inr (.inr (.ref 45))), (3, .inl (b3)), (4, .inl (b4))] [] σ (fun v σ' => v = none ∧ sg_F [48, 53, 54, 55, 8045, 11045, 21045, 22045, 23045] σ σ' ∧ Q σ') := by
  unfold V_mnFinishTwo_277 at w
  refine wk_b tt_122 3 (pc' := 140) (ls' := [(0, .inr (.inr (.ref 45))), (3, .inl (b3)), (4, .inl (b4))]) (st' := [.inl (b3), .inl (b4), .inr (.inr (.ref 45))]) (σ' := σ) rfl ?_
  refine wk_call tt_122 rfl rfl rfl rfl rfl tt_154 rfl (by decide) (w_nPermute z σ (b4) (b3) _ rb4 rb3 w) (fun u6 σ2 hq4 => ?_)
  obtain ⟨rfl, hF3, w⟩ := hq4
  have w := w hF3
  refine wk_b tt_122 1 (pc' := 164) (ls' := [(0, .inr (.inr (.ref 45))), (3, .inl (b3)), (4, .inl (b4))]) (st' := []) (σ' := σ2) rfl ?_
  exact wk_rV tt_122 rfl rfl ⟨rfl, (sg_F_t (sg_F_r [48, 53, 54, 55, 8045, 11045, 21045, 22045, 23045] σ) (sg_F_m (L := [48, 53, 54, 55, 8045, 11045, 21045, 22045, 23045]) hF3 rfl)), w⟩
-- NestedVectors$Machine.finishTwo
def V_mnFinishTwo_278 (σ : sg_S) (b3 : Int) (b4 : Int) (Q : sg_S → Prop) : Prop := V_nDivide σ (b4) (b3) (fun σ2 => sg_F [48, 53, 54, 8045, 11045, 21045, 22045, 23045] σ σ2 → Q σ2)
set_option maxHeartbeats 4000000 in
set_option maxRecDepth 8000 in
theorem w_mnFinishTwo_278 (z : Value) (σ : sg_S) (b3 : Int) (b4 : Int) (Q : sg_S → Prop) (rb3 : sg_R b3) (rb4 : sg_R b4) (w : V_mnFinishTwo_278 σ b3 b4 Q) : wx z 4 122 146 [(0, .inr (.inr (.ref 45))), (3, .inl (b3)), (4, .inl (b4))] [] σ (fun v σ' => v = none ∧ sg_F [48, 53, 54, 8045, 11045, 21045, 22045, 23045] σ σ' ∧ Q σ') := by
  unfold V_mnFinishTwo_278 at w
  refine wk_b tt_122 3 (pc' := 150) (ls' := [(0, .inr (.inr (.ref 45))), (3, .inl (b3)), (4, .inl (b4))]) (st' := [.inl (b3), .inl (b4), .inr (.inr (.ref 45))]) (σ' := σ) rfl ?_
  refine wk_call tt_122 rfl rfl rfl rfl rfl tt_138 rfl (by decide) (w_nDivide z σ (b4) (b3) _ rb4 rb3 w) (fun u6 σ2 hq4 => ?_)
  obtain ⟨rfl, hF3, w⟩ := hq4
  have w := w hF3
  refine wk_b tt_122 1 (pc' := 164) (ls' := [(0, .inr (.inr (.ref 45))), (3, .inl (b3)), (4, .inl (b4))]) (st' := []) (σ' := σ2) rfl ?_
  exact wk_rV tt_122 rfl rfl ⟨rfl, (sg_F_t (sg_F_r [48, 53, 54, 8045, 11045, 21045, 22045, 23045] σ) (sg_F_m (L := [48, 53, 54, 8045, 11045, 21045, 22045, 23045]) hF3 rfl)), w⟩
-- NestedVectors$Machine.finishTwo
def V_mnFinishTwo_d (σ : sg_S) (b2 : Int) (b3 : Int) (b4 : Int) (Q : sg_S → Prop) : Prop := V_nCombine σ (b2) (b4) (b3) (fun σ2 => sg_F [48, 8045, 11045] σ σ2 → Q σ2)
set_option maxHeartbeats 4000000 in
set_option maxRecDepth 8000 in
theorem w_mnFinishTwo_d (z : Value) (σ : sg_S) (b2 : Int) (b3 : Int) (b4 : Int) (Q : sg_S → Prop) (rb2 : sg_R b2) (rb3 : sg_R b3) (rb4 : sg_R b4) (w : V_mnFinishTwo_d σ b2 b3 b4 Q) : wx z 3 122 156 [(0, .inr (.inr (.ref 45))), (2, .inl (b2)), (3, .inl (b3)), (4, .inl (b4))] [] σ (fun v σ' => v = none ∧ sg_F [48, 8045, 11045] σ σ' ∧ Q σ') := by
  unfold V_mnFinishTwo_d at w
  refine wk_b tt_122 4 (pc' := 161) (ls' := [(0, .inr (.inr (.ref 45))), (2, .inl (b2)), (3, .inl (b3)), (4, .inl (b4))]) (st' := [.inl (b3), .inl (b4), .inl (b2), .inr (.inr (.ref 45))]) (σ' := σ) rfl ?_
  refine wk_call tt_122 rfl rfl rfl rfl rfl tt_134 rfl (by decide) (w_nCombine z σ (b2) (b4) (b3) _ rb2 rb4 rb3 w) (fun u6 σ2 hq4 => ?_)
  obtain ⟨rfl, hF3, w⟩ := hq4
  have w := w hF3
  exact wk_rV tt_122 rfl rfl ⟨rfl, (sg_F_t (sg_F_r [48, 8045, 11045] σ) (sg_F_m (L := [48, 8045, 11045]) hF3 rfl)), w⟩
-- NestedVectors$Machine.finishTwo
def V_mnFinishTwo (σ : sg_S) (a1 : Int) (Q : sg_S → Prop) : Prop := V_mnPop σ  (fun q1 σ2 => sg_R q1 → sg_F [8045] σ σ2 → V_mnPop σ2  (fun q7 σ8 => sg_R q7 → sg_F [8045] σ2 σ8 → ∀ σ13, σ13 = (sg_w σ8 45 9 ((sx_at σ 6 200 (a1)))) → (((sx_at σ 3 200 (a1)) = 91 → V_mnFinishTwo_91 σ13 (q1) (q7) Q) ∧ (¬ (sx_at σ 3 200 (a1)) = 91 → (((sx_at σ 3 200 (a1)) = 268 → V_mnFinishTwo_268 σ13 (q1) (q7) Q) ∧ (¬ (sx_at σ 3 200 (a1)) = 268 → (((sx_at σ 3 200 (a1)) = 274 → V_mnFinishTwo_274 σ13 (q1) (q7) Q) ∧ (¬ (sx_at σ 3 200 (a1)) = 274 → (((sx_at σ 3 200 (a1)) = 276 → V_mnFinishTwo_276 σ13 (q1) (q7) Q) ∧ (¬ (sx_at σ 3 200 (a1)) = 276 → (((sx_at σ 3 200 (a1)) = 277 → V_mnFinishTwo_277 σ13 (q1) (q7) Q) ∧ (¬ (sx_at σ 3 200 (a1)) = 277 → (((sx_at σ 3 200 (a1)) = 278 → V_mnFinishTwo_278 σ13 (q1) (q7) Q) ∧ (¬ (sx_at σ 3 200 (a1)) = 278 → V_mnFinishTwo_d σ13 ((sx_at σ 3 200 (a1))) (q1) (q7) Q))))))))))))))
set_option maxHeartbeats 4000000 in
set_option maxRecDepth 8000 in
theorem w_mnFinishTwo (z : Value) (σ : sg_S) (a1 : Int) (Q : sg_S → Prop) (ra1 : sg_R a1) (w : V_mnFinishTwo σ a1 Q) : wx z 4 122 0 [(0, .inr (.inr (.ref 45))), (1, .inl (a1))] [] σ (fun v σ' => v = none ∧ sg_F [48, 53, 54, 55, 8045, 10045, 11045, 21045, 22045, 23045] σ σ' ∧ Q σ') := by
  unfold V_mnFinishTwo at w
  refine wk_b tt_122 4 (pc' := 8) (ls' := [(0, .inr (.inr (.ref 45))), (1, .inl (a1))]) (st' := [.inl (a1), .inr (.inr (.ref 3))]) (σ' := σ) rfl ?_
  refine wk_callp tt_122 rfl rfl rfl rfl rfl tt_5 rfl (by decide) (at_i0 z σ 3 200 (a1) rfl (by decide) ra1) ?_
  show wx z 4 122 11 [(0, .inr (.inr (.ref 45))), (1, .inl (a1))] [.inl ((sx_at σ 3 200 (a1)))] σ (fun v σ' => v = none ∧ sg_F [48, 53, 54, 55, 8045, 10045, 11045, 21045, 22045, 23045] σ σ' ∧ Q σ')
  refine wk_b tt_122 2 (pc' := 13) (ls' := [(2, .inl ((sx_at σ 3 200 (a1)))), (0, .inr (.inr (.ref 45))), (1, .inl (a1))]) (st' := [.inr (.inr (.ref 45))]) (σ' := σ) rfl ?_
  refine wk_call tt_122 rfl rfl rfl rfl rfl tt_124 rfl (by decide) (w_mnPop z σ  _  w) (fun u6 σ2 hq4 => ?_)
  obtain ⟨q1, rfl, r5, hF3, w⟩ := hq4
  have w := w r5 hF3
  refine wk_b tt_122 2 (pc' := 18) (ls' := [(3, .inl (q1)), (2, .inl ((sx_at σ 3 200 (a1)))), (0, .inr (.inr (.ref 45))), (1, .inl (a1))]) (st' := [.inr (.inr (.ref 45))]) (σ' := σ2) rfl ?_
  refine wk_call tt_122 rfl rfl rfl rfl rfl tt_124 rfl (by decide) (w_mnPop z σ2  _  w) (fun u12 σ8 hq10 => ?_)
  obtain ⟨q7, rfl, r11, hF9, w⟩ := hq10
  have w := w r11 hF9
  refine wk_b tt_122 6 (pc' := 32) (ls' := [(4, .inl (q7)), (3, .inl (q1)), (2, .inl ((sx_at σ 3 200 (a1)))), (0, .inr (.inr (.ref 45))), (1, .inl (a1))]) (st' := [.inl (a1), .inr (.inr (.ref 6)), .inr (.inr (.ref 45))]) (σ' := σ8) rfl ?_
  refine wk_callp tt_122 rfl rfl rfl rfl rfl tt_5 rfl (by decide) (at_i0 z σ8 6 200 (a1) rfl (by decide) ra1) ?_
  show wx z 4 122 35 [(4, .inl (q7)), (3, .inl (q1)), (2, .inl ((sx_at σ 3 200 (a1)))), (0, .inr (.inr (.ref 45))), (1, .inl (a1))] [.inl ((sx_at σ8 6 200 (a1))), .inr (.inr (.ref 45))] σ8 (fun v σ' => v = none ∧ sg_F [48, 53, 54, 55, 8045, 10045, 11045, 21045, 22045, 23045] σ σ' ∧ Q σ')
  rw [sx_F (a := 6) (n := 200) (i := (a1)) hF9 rfl, sx_F (a := 6) (n := 200) (i := (a1)) hF3 rfl]
  refine wk_b tt_122 1 (pc' := 38) (ls' := [(4, .inl (q7)), (3, .inl (q1)), (2, .inl ((sx_at σ 3 200 (a1)))), (0, .inr (.inr (.ref 45))), (1, .inl (a1))]) (st' := []) (σ' := (sg_w σ8 45 9 ((sx_at σ 6 200 (a1))))) rfl ?_
  generalize hs14 : (sg_w σ8 45 9 ((sx_at σ 6 200 (a1)))) = σ13
  have w := w σ13 hs14.symm
  have hF15 : sg_F [10045] σ8 σ13 := by rw [← hs14]; exact sg_F_w (sg_F_r _ _) rfl _
  refine wk_b tt_122 1 (pc' := 39) (ls' := [(4, .inl (q7)), (3, .inl (q1)), (2, .inl ((sx_at σ 3 200 (a1)))), (0, .inr (.inr (.ref 45))), (1, .inl (a1))]) (st' := [.inl ((sx_at σ 3 200 (a1)))]) (σ' := σ13) rfl ?_
  by_cases e16 : (sx_at σ 3 200 (a1)) = 91
  · have w := w.1 e16
    refine wk_lw tt_122 (off := 57) (tgt := 96) rfl (by decide) (sx_R ..) (by rw [e16]; decide) rfl ?_
    refine wk_ls [(0, .inr (.inr (.ref 45))), (3, .inl (q1)), (4, .inl (q7))] rfl ⟨rfl, rfl, rfl, trivial⟩ ?_
    exact wk_post (wk_d (by decide) (w_mnFinishTwo_91 z σ13 (q1) (q7) Q r5 r11 w)) (fun v σ' ⟨e, hF, hQ⟩ => ⟨e, sg_F_t (sg_F_t (sg_F_t (sg_F_t (sg_F_r [48, 53, 54, 55, 8045, 10045, 11045, 21045, 22045, 23045] σ) (sg_F_m (L := [48, 53, 54, 55, 8045, 10045, 11045, 21045, 22045, 23045]) hF3 rfl)) (sg_F_m (L := [48, 53, 54, 55, 8045, 10045, 11045, 21045, 22045, 23045]) hF9 rfl)) (sg_F_m (L := [48, 53, 54, 55, 8045, 10045, 11045, 21045, 22045, 23045]) hF15 rfl)) (sg_F_m hF rfl), hQ⟩)
  have w := w.2 e16
  by_cases e18 : (sx_at σ 3 200 (a1)) = 268
  · have w := w.1 e18
    refine wk_lw tt_122 (off := 67) (tgt := 106) rfl (by decide) (sx_R ..) (by rw [e18]; decide) rfl ?_
    refine wk_ls [(0, .inr (.inr (.ref 45))), (3, .inl (q1)), (4, .inl (q7))] rfl ⟨rfl, rfl, rfl, trivial⟩ ?_
    exact wk_post (wk_d (by decide) (w_mnFinishTwo_268 z σ13 (q1) (q7) Q r5 r11 w)) (fun v σ' ⟨e, hF, hQ⟩ => ⟨e, sg_F_t (sg_F_t (sg_F_t (sg_F_t (sg_F_r [48, 53, 54, 55, 8045, 10045, 11045, 21045, 22045, 23045] σ) (sg_F_m (L := [48, 53, 54, 55, 8045, 10045, 11045, 21045, 22045, 23045]) hF3 rfl)) (sg_F_m (L := [48, 53, 54, 55, 8045, 10045, 11045, 21045, 22045, 23045]) hF9 rfl)) (sg_F_m (L := [48, 53, 54, 55, 8045, 10045, 11045, 21045, 22045, 23045]) hF15 rfl)) (sg_F_m hF rfl), hQ⟩)
  have w := w.2 e18
  by_cases e20 : (sx_at σ 3 200 (a1)) = 274
  · have w := w.1 e20
    refine wk_lw tt_122 (off := 77) (tgt := 116) rfl (by decide) (sx_R ..) (by rw [e20]; decide) rfl ?_
    refine wk_ls [(0, .inr (.inr (.ref 45))), (3, .inl (q1)), (4, .inl (q7))] rfl ⟨rfl, rfl, rfl, trivial⟩ ?_
    exact wk_post (wk_d (by decide) (w_mnFinishTwo_274 z σ13 (q1) (q7) Q r5 r11 w)) (fun v σ' ⟨e, hF, hQ⟩ => ⟨e, sg_F_t (sg_F_t (sg_F_t (sg_F_t (sg_F_r [48, 53, 54, 55, 8045, 10045, 11045, 21045, 22045, 23045] σ) (sg_F_m (L := [48, 53, 54, 55, 8045, 10045, 11045, 21045, 22045, 23045]) hF3 rfl)) (sg_F_m (L := [48, 53, 54, 55, 8045, 10045, 11045, 21045, 22045, 23045]) hF9 rfl)) (sg_F_m (L := [48, 53, 54, 55, 8045, 10045, 11045, 21045, 22045, 23045]) hF15 rfl)) (sg_F_m hF rfl), hQ⟩)
  have w := w.2 e20
  by_cases e22 : (sx_at σ 3 200 (a1)) = 276
  · have w := w.1 e22
    refine wk_lw tt_122 (off := 87) (tgt := 126) rfl (by decide) (sx_R ..) (by rw [e22]; decide) rfl ?_
    refine wk_ls [(0, .inr (.inr (.ref 45))), (3, .inl (q1)), (4, .inl (q7))] rfl ⟨rfl, rfl, rfl, trivial⟩ ?_
    exact wk_post (wk_d (by decide) (w_mnFinishTwo_276 z σ13 (q1) (q7) Q r5 r11 w)) (fun v σ' ⟨e, hF, hQ⟩ => ⟨e, sg_F_t (sg_F_t (sg_F_t (sg_F_t (sg_F_r [48, 53, 54, 55, 8045, 10045, 11045, 21045, 22045, 23045] σ) (sg_F_m (L := [48, 53, 54, 55, 8045, 10045, 11045, 21045, 22045, 23045]) hF3 rfl)) (sg_F_m (L := [48, 53, 54, 55, 8045, 10045, 11045, 21045, 22045, 23045]) hF9 rfl)) (sg_F_m (L := [48, 53, 54, 55, 8045, 10045, 11045, 21045, 22045, 23045]) hF15 rfl)) (sg_F_m hF rfl), hQ⟩)
  have w := w.2 e22
  by_cases e24 : (sx_at σ 3 200 (a1)) = 277
  · have w := w.1 e24
    refine wk_lw tt_122 (off := 97) (tgt := 136) rfl (by decide) (sx_R ..) (by rw [e24]; decide) rfl ?_
    refine wk_ls [(0, .inr (.inr (.ref 45))), (3, .inl (q1)), (4, .inl (q7))] rfl ⟨rfl, rfl, rfl, trivial⟩ ?_
    exact wk_post (wk_d (by decide) (w_mnFinishTwo_277 z σ13 (q1) (q7) Q r5 r11 w)) (fun v σ' ⟨e, hF, hQ⟩ => ⟨e, sg_F_t (sg_F_t (sg_F_t (sg_F_t (sg_F_r [48, 53, 54, 55, 8045, 10045, 11045, 21045, 22045, 23045] σ) (sg_F_m (L := [48, 53, 54, 55, 8045, 10045, 11045, 21045, 22045, 23045]) hF3 rfl)) (sg_F_m (L := [48, 53, 54, 55, 8045, 10045, 11045, 21045, 22045, 23045]) hF9 rfl)) (sg_F_m (L := [48, 53, 54, 55, 8045, 10045, 11045, 21045, 22045, 23045]) hF15 rfl)) (sg_F_m hF rfl), hQ⟩)
  have w := w.2 e24
  by_cases e26 : (sx_at σ 3 200 (a1)) = 278
  · have w := w.1 e26
    refine wk_lw tt_122 (off := 107) (tgt := 146) rfl (by decide) (sx_R ..) (by rw [e26]; decide) rfl ?_
    refine wk_ls [(0, .inr (.inr (.ref 45))), (3, .inl (q1)), (4, .inl (q7))] rfl ⟨rfl, rfl, rfl, trivial⟩ ?_
    exact wk_post (wk_d (by decide) (w_mnFinishTwo_278 z σ13 (q1) (q7) Q r5 r11 w)) (fun v σ' ⟨e, hF, hQ⟩ => ⟨e, sg_F_t (sg_F_t (sg_F_t (sg_F_t (sg_F_r [48, 53, 54, 55, 8045, 10045, 11045, 21045, 22045, 23045] σ) (sg_F_m (L := [48, 53, 54, 55, 8045, 10045, 11045, 21045, 22045, 23045]) hF3 rfl)) (sg_F_m (L := [48, 53, 54, 55, 8045, 10045, 11045, 21045, 22045, 23045]) hF9 rfl)) (sg_F_m (L := [48, 53, 54, 55, 8045, 10045, 11045, 21045, 22045, 23045]) hF15 rfl)) (sg_F_m hF rfl), hQ⟩)
  have w := w.2 e26
  refine wk_lw tt_122 (off := 117) (tgt := 156) rfl (by decide) (sx_R ..) (by simp only [Op.lookupswitch.offset]; rw [if_neg (fun h => e16 h.symm), if_neg (fun h => e18 h.symm), if_neg (fun h => e20 h.symm), if_neg (fun h => e22 h.symm), if_neg (fun h => e24 h.symm), if_neg (fun h => e26 h.symm)]) rfl ?_
  refine wk_ls [(0, .inr (.inr (.ref 45))), (2, .inl ((sx_at σ 3 200 (a1)))), (3, .inl (q1)), (4, .inl (q7))] rfl ⟨rfl, rfl, rfl, rfl, trivial⟩ ?_
  exact wk_post (wk_d (by decide) (w_mnFinishTwo_d z σ13 ((sx_at σ 3 200 (a1))) (q1) (q7) Q (sx_R ..) r5 r11 w)) (fun v σ' ⟨e, hF, hQ⟩ => ⟨e, sg_F_t (sg_F_t (sg_F_t (sg_F_t (sg_F_r [48, 53, 54, 55, 8045, 10045, 11045, 21045, 22045, 23045] σ) (sg_F_m (L := [48, 53, 54, 55, 8045, 10045, 11045, 21045, 22045, 23045]) hF3 rfl)) (sg_F_m (L := [48, 53, 54, 55, 8045, 10045, 11045, 21045, 22045, 23045]) hF9 rfl)) (sg_F_m (L := [48, 53, 54, 55, 8045, 10045, 11045, 21045, 22045, 23045]) hF15 rfl)) (sg_F_m hF rfl), hQ⟩)
-- NestedVectors$Machine.enter
def V_mnEnter (σ : sg_S) (a1 : Int) (Q : sg_S → Prop) : Prop := (∃ (I4 : Nat → Int → sg_S → Prop) (X6 : sg_S → Prop), (∃ n, I4 n (0) σ) ∧ (∀ (n14 : Nat) (v1 : Int) (σ2 : sg_S), sg_R v1 → sg_F [46] σ σ2 → I4 n14 v1 σ2 → (((sx_at σ 23 12 (a1)) ≤ v1 → X6 σ2) ∧ (v1 < (sx_at σ 23 12 (a1)) → ((6 ≤ v1 → X6 σ2) ∧ (v1 < 6 → sg_R ((sx_at σ 24 12 (a1)) + v1) ∧ sg_R ((sg_g σ 45 7) - (sx_at σ 23 12 (a1))) ∧ sg_R (((sg_g σ 45 7) - (sx_at σ 23 12 (a1))) + v1) ∧ ∀ σ31, σ31 = (sx_put σ2 46 272 (((sx_at σ 24 12 (a1)) + v1)) ((sx_at σ 48 3200 ((((sg_g σ 45 7) - (sx_at σ 23 12 (a1))) + v1))))) → sg_R (v1 + 1) ∧ (∃ m, m < n14 ∧ I4 m ((v1 + 1)) σ31)))))) ∧ (∀ (σ2 : sg_S), sg_F [46] σ σ2 → X6 σ2 → sg_R ((sg_g σ 45 7) - (sx_at σ 23 12 (a1))) ∧ ∀ σ17, σ17 = (sg_w σ2 45 7 (((sg_g σ 45 7) - (sx_at σ 23 12 (a1))))) → ∀ σ20, σ20 = (sx_put σ17 47 13 (a1) ((sg_g σ 45 8))) → ∀ σ23, σ23 = (sg_w σ20 45 8 ((sx_at σ 31 13 (a1)))) → Q σ23))
set_option maxHeartbeats 4000000 in
set_option maxRecDepth 8000 in
theorem w_mnEnter (z : Value) (σ : sg_S) (a1 : Int) (Q : sg_S → Prop) (ra1 : sg_R a1) (w : V_mnEnter σ a1 Q) : wx z 1 119 0 [(0, .inr (.inr (.ref 45))), (1, .inl (a1))] [] σ (fun v σ' => v = none ∧ sg_F [46, 47, 8045, 9045] σ σ' ∧ Q σ') := by
  unfold V_mnEnter at w
  refine wk_b tt_119 4 (pc' := 8) (ls' := [(0, .inr (.inr (.ref 45))), (1, .inl (a1))]) (st' := [.inl (a1), .inr (.inr (.ref 23))]) (σ' := σ) rfl ?_
  refine wk_callp tt_119 rfl rfl rfl rfl rfl tt_5 rfl (by decide) (at_i0 z σ 23 12 (a1) rfl (by decide) ra1) ?_
  show wx z 1 119 11 [(0, .inr (.inr (.ref 45))), (1, .inl (a1))] [.inl ((sx_at σ 23 12 (a1)))] σ (fun v σ' => v = none ∧ sg_F [46, 47, 8045, 9045] σ σ' ∧ Q σ')
  refine wk_b tt_119 3 (pc' := 14) (ls' := [(3, .inl (0)), (2, .inl ((sx_at σ 23 12 (a1)))), (0, .inr (.inr (.ref 45))), (1, .inl (a1))]) (st' := []) (σ' := σ) rfl ?_
  obtain ⟨I4, X6, ⟨μ5, w11⟩, w12, w13⟩ := w
  have ex15 : ∀ (σ2 : sg_S), sg_F [46] σ σ2 → X6 σ2 → wx z 1 119 66 [(0, .inr (.inr (.ref 45))), (1, .inl (a1)), (2, .inl ((sx_at σ 23 12 (a1))))] [] σ2 (fun v σ' => v = none ∧ sg_F [46, 47, 8045, 9045] σ σ' ∧ Q σ') := by
    intro σ2 hF3 w
    have w := w13 σ2 hF3 w
    obtain ⟨c16, w⟩ := w
    refine wk_b tt_119 6 (pc' := 76) (ls' := [(0, .inr (.inr (.ref 45))), (1, .inl (a1)), (2, .inl ((sx_at σ 23 12 (a1))))]) (st' := []) (σ' := (sg_w σ2 45 7 (((sg_g σ2 45 7) - (sx_at σ 23 12 (a1)))))) rfl ?_
    rw [show (sg_g σ2 45 7) = (sg_g σ 45 7) from by rw [sg_F_ga hF3 rfl]]
    generalize hs18 : (sg_w σ2 45 7 (((sg_g σ 45 7) - (sx_at σ 23 12 (a1))))) = σ17
    have w := w σ17 hs18.symm
    have hF19 : sg_F [8045] σ2 σ17 := by rw [← hs18]; exact sg_F_w (sg_F_r _ _) rfl _
    refine wk_b tt_119 5 (pc' := 85) (ls' := [(0, .inr (.inr (.ref 45))), (1, .inl (a1)), (2, .inl ((sx_at σ 23 12 (a1))))]) (st' := [.inl ((sg_g σ17 45 8)), .inl (a1), .inr (.inr (.ref 47))]) (σ' := σ17) rfl ?_
    rw [show (sg_g σ17 45 8) = (sg_g σ 45 8) from by rw [sg_F_g hF19 rfl, sg_F_ga hF3 rfl]]
    refine wk_callp tt_119 rfl rfl rfl rfl rfl tt_21 rfl (by decide) (pt_i0 z σ17 47 13 (a1) ((sg_g σ 45 8)) rfl (by decide) ra1) ?_
    show wx z 1 119 88 [(0, .inr (.inr (.ref 45))), (1, .inl (a1)), (2, .inl ((sx_at σ 23 12 (a1))))] [] (sx_put σ17 47 13 (a1) ((sg_g σ 45 8))) (fun v σ' => v = none ∧ sg_F [46, 47, 8045, 9045] σ σ' ∧ Q σ')
    generalize hs21 : (sx_put σ17 47 13 (a1) ((sg_g σ 45 8))) = σ20
    have w := w σ20 hs21.symm
    have hF22 : sg_F [47] σ17 σ20 := by rw [← hs21]; exact sg_F_p (sg_F_r _ _) rfl _ _ _
    refine wk_b tt_119 5 (pc' := 97) (ls' := [(0, .inr (.inr (.ref 45))), (1, .inl (a1)), (2, .inl ((sx_at σ 23 12 (a1))))]) (st' := [.inl (a1), .inr (.inr (.ref 31)), .inr (.inr (.ref 45))]) (σ' := σ20) rfl ?_
    refine wk_callp tt_119 rfl rfl rfl rfl rfl tt_5 rfl (by decide) (at_i0 z σ20 31 13 (a1) rfl (by decide) ra1) ?_
    show wx z 1 119 100 [(0, .inr (.inr (.ref 45))), (1, .inl (a1)), (2, .inl ((sx_at σ 23 12 (a1))))] [.inl ((sx_at σ20 31 13 (a1))), .inr (.inr (.ref 45))] σ20 (fun v σ' => v = none ∧ sg_F [46, 47, 8045, 9045] σ σ' ∧ Q σ')
    rw [sx_F (a := 31) (n := 13) (i := (a1)) hF22 rfl, sx_F (a := 31) (n := 13) (i := (a1)) hF19 rfl, sx_F (a := 31) (n := 13) (i := (a1)) hF3 rfl]
    refine wk_b tt_119 1 (pc' := 103) (ls' := [(0, .inr (.inr (.ref 45))), (1, .inl (a1)), (2, .inl ((sx_at σ 23 12 (a1))))]) (st' := []) (σ' := (sg_w σ20 45 8 ((sx_at σ 31 13 (a1))))) rfl ?_
    generalize hs24 : (sg_w σ20 45 8 ((sx_at σ 31 13 (a1)))) = σ23
    have w := w σ23 hs24.symm
    have hF25 : sg_F [9045] σ20 σ23 := by rw [← hs24]; exact sg_F_w (sg_F_r _ _) rfl _
    exact wk_rV tt_119 rfl rfl ⟨rfl, (sg_F_t (sg_F_t (sg_F_t (sg_F_t (sg_F_r [46, 47, 8045, 9045] σ) (sg_F_m (L := [46, 47, 8045, 9045]) hF3 rfl)) (sg_F_m (L := [46, 47, 8045, 9045]) hF19 rfl)) (sg_F_m (L := [46, 47, 8045, 9045]) hF22 rfl)) (sg_F_m (L := [46, 47, 8045, 9045]) hF25 rfl)), w⟩
  have lp10 : ∀ (n14 : Nat) (v1 : Int) (σ2 : sg_S), sg_R v1 → sg_F [46] σ σ2 → I4 n14 v1 σ2 → wx z 1 119 14 [(0, .inr (.inr (.ref 45))), (1, .inl (a1)), (2, .inl ((sx_at σ 23 12 (a1)))), (3, .inl (v1))] [] σ2 (fun v σ' => v = none ∧ sg_F [46, 47, 8045, 9045] σ σ' ∧ Q σ') := by
    intro n14
    induction n14 using Nat.strongRecOn with
    | _ n14 ih8 =>
      intro v1 σ2 r7 hF3 w
      have w := w12 n14 v1 σ2 r7 hF3 w
      refine wk_b tt_119 2 (pc' := 16) (ls' := [(0, .inr (.inr (.ref 45))), (1, .inl (a1)), (2, .inl ((sx_at σ 23 12 (a1)))), (3, .inl (v1))]) (st' := [.inl ((sx_at σ 23 12 (a1))), .inl (v1)]) (σ' := σ2) rfl ?_
      refine wk_if2 tt_119 (tgt := 66) rfl rfl r7 (sx_R ..) (fun (h26 : (sx_at σ 23 12 (a1)) ≤ v1) => ?_) (fun (h26 : v1 < (sx_at σ 23 12 (a1))) => ?_)
      ·
        have w := w.1 h26
        exact wk_ls [(0, .inr (.inr (.ref 45))), (1, .inl (a1)), (2, .inl ((sx_at σ 23 12 (a1))))] rfl ⟨rfl, rfl, rfl, trivial⟩ (ex15  σ2  (sg_F_t (sg_F_r [46] σ) (sg_F_m (L := [46]) hF3 rfl)) w)
      ·
        have w := w.2 h26
        refine wk_b tt_119 2 (pc' := 22) (ls' := [(0, .inr (.inr (.ref 45))), (1, .inl (a1)), (2, .inl ((sx_at σ 23 12 (a1)))), (3, .inl (v1))]) (st' := [.inl (6), .inl (v1)]) (σ' := σ2) rfl ?_
        refine wk_if2 tt_119 (tgt := 66) rfl rfl r7 (by decide) (fun (h27 : 6 ≤ v1) => ?_) (fun (h27 : v1 < 6) => ?_)
        ·
          have w := w.1 h27
          exact wk_ls [(0, .inr (.inr (.ref 45))), (1, .inl (a1)), (2, .inl ((sx_at σ 23 12 (a1))))] rfl ⟨rfl, rfl, rfl, trivial⟩ (ex15  σ2  (sg_F_t (sg_F_r [46] σ) (sg_F_m (L := [46]) hF3 rfl)) w)
        ·
          have w := w.2 h27
          refine wk_b tt_119 6 (pc' := 37) (ls' := [(0, .inr (.inr (.ref 45))), (1, .inl (a1)), (2, .inl ((sx_at σ 23 12 (a1)))), (3, .inl (v1))]) (st' := [.inl (a1), .inr (.inr (.ref 24)), .inr (.inr (.ref 46))]) (σ' := σ2) rfl ?_
          refine wk_callp tt_119 rfl rfl rfl rfl rfl tt_5 rfl (by decide) (at_i0 z σ2 24 12 (a1) rfl (by decide) ra1) ?_
          show wx z 1 119 40 [(0, .inr (.inr (.ref 45))), (1, .inl (a1)), (2, .inl ((sx_at σ 23 12 (a1)))), (3, .inl (v1))] [.inl ((sx_at σ2 24 12 (a1))), .inr (.inr (.ref 46))] σ2 (fun v σ' => v = none ∧ sg_F [46, 47, 8045, 9045] σ σ' ∧ Q σ')
          rw [sx_F (a := 24) (n := 12) (i := (a1)) hF3 rfl]
          obtain ⟨c28, w⟩ := w
          obtain ⟨c29, w⟩ := w
          obtain ⟨c30, w⟩ := w
          refine wk_b tt_119 10 (pc' := 54) (ls' := [(0, .inr (.inr (.ref 45))), (1, .inl (a1)), (2, .inl ((sx_at σ 23 12 (a1)))), (3, .inl (v1))]) (st' := [.inl ((((sg_g σ2 45 7) - (sx_at σ 23 12 (a1))) + v1)), .inr (.inr (.ref 48)), .inl (((sx_at σ 24 12 (a1)) + v1)), .inr (.inr (.ref 46))]) (σ' := σ2) rfl ?_
          rw [show (sg_g σ2 45 7) = (sg_g σ 45 7) from by rw [sg_F_ga hF3 rfl]]
          refine wk_callp tt_119 rfl rfl rfl rfl rfl tt_5 rfl (by decide) (at_i0 z σ2 48 3200 ((((sg_g σ 45 7) - (sx_at σ 23 12 (a1))) + v1)) rfl (by decide) c30) ?_
          show wx z 1 119 57 [(0, .inr (.inr (.ref 45))), (1, .inl (a1)), (2, .inl ((sx_at σ 23 12 (a1)))), (3, .inl (v1))] [.inl ((sx_at σ2 48 3200 ((((sg_g σ 45 7) - (sx_at σ 23 12 (a1))) + v1)))), .inl (((sx_at σ 24 12 (a1)) + v1)), .inr (.inr (.ref 46))] σ2 (fun v σ' => v = none ∧ sg_F [46, 47, 8045, 9045] σ σ' ∧ Q σ')
          rw [sx_F (a := 48) (n := 3200) (i := ((((sg_g σ 45 7) - (sx_at σ 23 12 (a1))) + v1))) hF3 rfl]
          refine wk_callp tt_119 rfl rfl rfl rfl rfl tt_21 rfl (by decide) (pt_i0 z σ2 46 272 (((sx_at σ 24 12 (a1)) + v1)) ((sx_at σ 48 3200 ((((sg_g σ 45 7) - (sx_at σ 23 12 (a1))) + v1)))) rfl (by decide) c28) ?_
          show wx z 1 119 60 [(0, .inr (.inr (.ref 45))), (1, .inl (a1)), (2, .inl ((sx_at σ 23 12 (a1)))), (3, .inl (v1))] [] (sx_put σ2 46 272 (((sx_at σ 24 12 (a1)) + v1)) ((sx_at σ 48 3200 ((((sg_g σ 45 7) - (sx_at σ 23 12 (a1))) + v1))))) (fun v σ' => v = none ∧ sg_F [46, 47, 8045, 9045] σ σ' ∧ Q σ')
          generalize hs32 : (sx_put σ2 46 272 (((sx_at σ 24 12 (a1)) + v1)) ((sx_at σ 48 3200 ((((sg_g σ 45 7) - (sx_at σ 23 12 (a1))) + v1))))) = σ31
          have w := w σ31 hs32.symm
          have hF33 : sg_F [46] σ2 σ31 := by rw [← hs32]; exact sg_F_p (sg_F_r _ _) rfl _ _ _
          obtain ⟨c34, w⟩ := w
          refine wk_b tt_119 2 (pc' := 14) (ls' := [(3, .inl ((v1 + 1))), (0, .inr (.inr (.ref 45))), (1, .inl (a1)), (2, .inl ((sx_at σ 23 12 (a1))))]) (st' := []) (σ' := σ31) rfl ?_
          obtain ⟨m35, hm35, w⟩ := w
          exact wk_ls [(0, .inr (.inr (.ref 45))), (1, .inl (a1)), (2, .inl ((sx_at σ 23 12 (a1)))), (3, .inl ((v1 + 1)))] rfl ⟨rfl, rfl, rfl, rfl, trivial⟩ (ih8 m35 hm35 ((v1 + 1)) σ31 c34 (sg_F_t (sg_F_t (sg_F_r [46] σ) (sg_F_m (L := [46]) hF3 rfl)) (sg_F_m (L := [46]) hF33 rfl)) w)
  exact wk_ls [(0, .inr (.inr (.ref 45))), (1, .inl (a1)), (2, .inl ((sx_at σ 23 12 (a1)))), (3, .inl (0))] rfl ⟨rfl, rfl, rfl, rfl, trivial⟩ (lp10 μ5 (0) σ (by decide) (sg_F_r _ _) w11)
-- NestedVectors$Machine.run
