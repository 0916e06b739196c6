/-! What the methods of the nested run of the class ask for (2). -/
def V_nFlatten (σ : sg_S) (a1 : Int) (Q : sg_S → Prop) : Prop := (∃ (I5 : Nat → Int → Int → Prop) (X7 : Int → Prop), (∃ n, I5 n (0) (0)) ∧ (∀ (n16 : Nat) (v1 : Int) (v2 : Int), sg_R v1 → sg_R v2 → I5 n16 v1 v2 → (((v_nLengthOf σ (a1)) ≤ v2 → X7 (v1)) ∧ (v2 < (v_nLengthOf σ (a1)) → p_nItemOf σ (a1) (v2) ∧ sg_R (v1 + (v_nLengthOf σ ((v_nItemOf σ (a1) (v2))))) ∧ sg_R (v2 + 1) ∧ (∃ m, m < n16 ∧ I5 m ((v1 + (v_nLengthOf σ ((v_nItemOf σ (a1) (v2)))))) ((v2 + 1)))))) ∧ (∀ (v1 : Int), sg_R v1 → X7 v1 → (((v_yBadSize (v1)) = 0 → (∃ (I22 : Nat → Int → sg_S → Prop) (X24 : sg_S → Prop), (∃ n, I22 n (0) σ) ∧ (∀ (n32 : Nat) (v19 : Int) (σ20 : sg_S), sg_R v19 → sg_F [54, 22045] σ σ20 → I22 n32 v19 σ20 → (((v_nLengthOf σ (a1)) ≤ v19 → X24 σ20) ∧ (v19 < (v_nLengthOf σ (a1)) → p_nItemOf σ (a1) (v19) ∧ V_nAddAll σ20 ((v_nItemOf σ (a1) (v19))) (fun σ45 => sg_F [54, 22045] σ20 σ45 → sg_R (v19 + 1) ∧ (∃ m, m < n32 ∧ I22 m ((v19 + 1)) σ45))))) ∧ (∀ (σ20 : sg_S), sg_F [54, 22045] σ σ20 → X24 σ20 → V_nGive σ20  (fun σ35 => sg_F [48, 53, 8045, 11045, 21045, 22045, 23045] σ20 σ35 → Q σ35)))) ∧ (¬ (v_yBadSize (v1)) = 0 → ∀ σ52, σ52 = (sg_w σ 45 10 (5)) → Q σ52))))
set_option maxHeartbeats 4000000 in
set_option maxRecDepth 8000 in
theorem w_nFlatten (z : Value) (σ : sg_S) (a1 : Int) (Q : sg_S → Prop) (ra1 : sg_R a1) (w : V_nFlatten σ a1 Q) : wx z 3 141 0 [(0, .inr (.inr (.ref 45))), (1, .inl (a1))] [] σ (fun v σ' => v = none ∧ sg_F [48, 53, 54, 8045, 11045, 21045, 22045, 23045] σ σ' ∧ Q σ') := by
  unfold V_nFlatten at w
  refine wk_b tt_141 4 (pc' := 4) (ls' := [(3, .inl (0)), (2, .inl (0)), (0, .inr (.inr (.ref 45))), (1, .inl (a1))]) (st' := []) (σ' := σ) rfl ?_
  obtain ⟨I5, X7, ⟨μ6, w13⟩, w14, w15⟩ := w
  have ex17 : ∀ (v1 : Int), sg_R v1 → X7 v1 → wx z 3 141 32 [(0, .inr (.inr (.ref 45))), (1, .inl (a1)), (2, .inl (v1))] [] σ (fun v σ' => v = none ∧ sg_F [48, 53, 54, 8045, 11045, 21045, 22045, 23045] σ σ' ∧ Q σ') := by
    intro v1 r8 w
    have w := w15 v1 r8 w
    refine wk_b tt_141 1 (pc' := 33) (ls' := [(0, .inr (.inr (.ref 45))), (1, .inl (a1)), (2, .inl (v1))]) (st' := [.inl (v1)]) (σ' := σ) rfl ?_
    refine wk_callp tt_141 rfl rfl rfl rfl rfl tt_7 rfl (by decide) (w_yBadSize z σ (v1) r8 ) ?_
    refine wk_if tt_141 (tgt := 45) rfl rfl (sg_Rz (vz_yBadSize ..)) (fun (h18 : (v_yBadSize (v1)) = 0) => ?_) (fun (h18 : ¬ (v_yBadSize (v1)) = 0) => ?_)
    ·
      have w := w.1 h18
      refine wk_b tt_141 2 (pc' := 47) (ls' := [(3, .inl (0)), (0, .inr (.inr (.ref 45))), (1, .inl (a1)), (2, .inl (v1))]) (st' := []) (σ' := σ) rfl ?_
      obtain ⟨I22, X24, ⟨μ23, w29⟩, w30, w31⟩ := w
      have ex33 : ∀ (σ20 : sg_S), sg_F [54, 22045] σ σ20 → X24 σ20 → wx z 3 141 72 [(0, .inr (.inr (.ref 45)))] [] σ20 (fun v σ' => v = none ∧ sg_F [48, 53, 54, 8045, 11045, 21045, 22045, 23045] σ σ' ∧ Q σ') := by
        intro σ20 hF21 w
        have w := w31 σ20 hF21 w
        refine wk_b tt_141 1 (pc' := 73) (ls' := [(0, .inr (.inr (.ref 45)))]) (st' := [.inr (.inr (.ref 45))]) (σ' := σ20) rfl ?_
        refine wk_call tt_141 rfl rfl rfl rfl rfl tt_144 rfl (by decide) (w_nGive z σ20  _  w) (fun u39 σ35 hq37 => ?_)
        obtain ⟨rfl, hF36, w⟩ := hq37
        have w := w hF36
        exact wk_rV tt_141 rfl rfl ⟨rfl, (sg_F_t (sg_F_t (sg_F_r [48, 53, 54, 8045, 11045, 21045, 22045, 23045] σ) (sg_F_m (L := [48, 53, 54, 8045, 11045, 21045, 22045, 23045]) hF21 rfl)) (sg_F_m (L := [48, 53, 54, 8045, 11045, 21045, 22045, 23045]) hF36 rfl)), w⟩
      have lp28 : ∀ (n32 : Nat) (v19 : Int) (σ20 : sg_S), sg_R v19 → sg_F [54, 22045] σ σ20 → I22 n32 v19 σ20 → wx z 3 141 47 [(0, .inr (.inr (.ref 45))), (1, .inl (a1)), (3, .inl (v19))] [] σ20 (fun v σ' => v = none ∧ sg_F [48, 53, 54, 8045, 11045, 21045, 22045, 23045] σ σ' ∧ Q σ') := by
        intro n32
        induction n32 using Nat.strongRecOn with
        | _ n32 ih26 =>
          intro v19 σ20 r25 hF21 w
          have w := w30 n32 v19 σ20 r25 hF21 w
          refine wk_b tt_141 3 (pc' := 50) (ls' := [(0, .inr (.inr (.ref 45))), (1, .inl (a1)), (3, .inl (v19))]) (st' := [.inl (a1), .inr (.inr (.ref 45)), .inl (v19)]) (σ' := σ20) rfl ?_
          refine wk_callp tt_141 rfl rfl rfl rfl rfl tt_149 rfl (by decide) (w_nLengthOf z σ20 (a1) ra1 ) ?_
          rw [vF_nLengthOf hF21 rfl]
          have r40 := vr_nLengthOf σ  (a1) ra1 
          refine wk_if2 tt_141 (tgt := 72) rfl rfl r25 r40 (fun (h41 : (v_nLengthOf σ (a1)) ≤ v19) => ?_) (fun (h41 : v19 < (v_nLengthOf σ (a1))) => ?_)
          ·
            have w := w.1 h41
            exact wk_ls [(0, .inr (.inr (.ref 45)))] rfl ⟨rfl, trivial⟩ (ex33  σ20  (sg_F_t (sg_F_r [54, 22045] σ) (sg_F_m (L := [54, 22045]) hF21 rfl)) w)
          ·
            have w := w.2 h41
            refine wk_b tt_141 4 (pc' := 60) (ls' := [(0, .inr (.inr (.ref 45))), (1, .inl (a1)), (3, .inl (v19))]) (st' := [.inl (v19), .inl (a1), .inr (.inr (.ref 45)), .inr (.inr (.ref 45))]) (σ' := σ20) rfl ?_
            obtain ⟨c42, w⟩ := w
            have c42 : p_nItemOf σ20 (a1) (v19) := by
              rw [pF_nItemOf hF21 rfl]; exact c42
            refine wk_callp tt_141 rfl rfl rfl rfl rfl tt_145 rfl (by decide) (w_nItemOf z σ20 (a1) (v19) ra1 r25 c42) ?_
            rw [vF_nItemOf hF21 rfl]
            have r43 := vr_nItemOf σ  (a1) (v19) ra1 r25 (by have q := c42; rw [pF_nItemOf hF21 rfl] at q; exact q)
            refine wk_call tt_141 rfl rfl rfl rfl rfl tt_130 rfl (by decide) (w_nAddAll z σ20 ((v_nItemOf σ (a1) (v19))) _ r43 w) (fun u49 σ45 hq47 => ?_)
            obtain ⟨rfl, hF46, w⟩ := hq47
            have w := w hF46
            obtain ⟨c50, w⟩ := w
            refine wk_b tt_141 2 (pc' := 47) (ls' := [(3, .inl ((v19 + 1))), (0, .inr (.inr (.ref 45))), (1, .inl (a1))]) (st' := []) (σ' := σ45) rfl ?_
            obtain ⟨m51, hm51, w⟩ := w
            exact wk_ls [(0, .inr (.inr (.ref 45))), (1, .inl (a1)), (3, .inl ((v19 + 1)))] rfl ⟨rfl, rfl, rfl, trivial⟩ (ih26 m51 hm51 ((v19 + 1)) σ45 c50 (sg_F_t (sg_F_t (sg_F_r [54, 22045] σ) (sg_F_m (L := [54, 22045]) hF21 rfl)) (sg_F_m (L := [54, 22045]) hF46 rfl)) w)
      exact wk_ls [(0, .inr (.inr (.ref 45))), (1, .inl (a1)), (3, .inl (0))] rfl ⟨rfl, rfl, rfl, trivial⟩ (lp28 μ23 (0) σ (by decide) (sg_F_r _ _) w29)
    ·
      have w := w.2 h18
      refine wk_b tt_141 3 (pc' := 44) (ls' := [(0, .inr (.inr (.ref 45))), (1, .inl (a1)), (2, .inl (v1))]) (st' := []) (σ' := (sg_w σ 45 10 (5))) rfl ?_
      generalize hs53 : (sg_w σ 45 10 (5)) = σ52
      have w := w σ52 hs53.symm
      have hF54 : sg_F [11045] σ σ52 := by rw [← hs53]; exact sg_F_w (sg_F_r _ _) rfl _
      exact wk_rV tt_141 rfl rfl ⟨rfl, (sg_F_t (sg_F_r [48, 53, 54, 8045, 11045, 21045, 22045, 23045] σ) (sg_F_m (L := [48, 53, 54, 8045, 11045, 21045, 22045, 23045]) hF54 rfl)), w⟩
  have lp12 : ∀ (n16 : Nat) (v1 : Int) (v2 : Int), sg_R v1 → sg_R v2 → I5 n16 v1 v2 → wx z 3 141 4 [(0, .inr (.inr (.ref 45))), (1, .inl (a1)), (2, .inl (v1)), (3, .inl (v2))] [] σ (fun v σ' => v = none ∧ sg_F [48, 53, 54, 8045, 11045, 21045, 22045, 23045] σ σ' ∧ Q σ') := by
    intro n16
    induction n16 using Nat.strongRecOn with
    | _ n16 ih10 =>
      intro v1 v2 r8 r9 w
      have w := w14 n16 v1 v2 r8 r9 w
      refine wk_b tt_141 3 (pc' := 7) (ls' := [(0, .inr (.inr (.ref 45))), (1, .inl (a1)), (2, .inl (v1)), (3, .inl (v2))]) (st' := [.inl (a1), .inr (.inr (.ref 45)), .inl (v2)]) (σ' := σ) rfl ?_
      refine wk_callp tt_141 rfl rfl rfl rfl rfl tt_149 rfl (by decide) (w_nLengthOf z σ (a1) ra1 ) ?_
      have r55 := vr_nLengthOf σ  (a1) ra1 
      refine wk_if2 tt_141 (tgt := 32) rfl rfl r9 r55 (fun (h56 : (v_nLengthOf σ (a1)) ≤ v2) => ?_) (fun (h56 : v2 < (v_nLengthOf σ (a1))) => ?_)
      ·
        have w := w.1 h56
        exact wk_ls [(0, .inr (.inr (.ref 45))), (1, .inl (a1)), (2, .inl (v1))] rfl ⟨rfl, rfl, rfl, trivial⟩ (ex17 (v1)  r8  w)
      ·
        have w := w.2 h56
        refine wk_b tt_141 5 (pc' := 18) (ls' := [(0, .inr (.inr (.ref 45))), (1, .inl (a1)), (2, .inl (v1)), (3, .inl (v2))]) (st' := [.inl (v2), .inl (a1), .inr (.inr (.ref 45)), .inr (.inr (.ref 45)), .inl (v1)]) (σ' := σ) rfl ?_
        obtain ⟨c57, w⟩ := w
        refine wk_callp tt_141 rfl rfl rfl rfl rfl tt_145 rfl (by decide) (w_nItemOf z σ (a1) (v2) ra1 r9 c57) ?_
        have r58 := vr_nItemOf σ  (a1) (v2) ra1 r9 c57
        refine wk_callp tt_141 rfl rfl rfl rfl rfl tt_149 rfl (by decide) (w_nLengthOf z σ ((v_nItemOf σ (a1) (v2))) r58 ) ?_
        have r59 := vr_nLengthOf σ  ((v_nItemOf σ (a1) (v2))) r58 
        obtain ⟨c60, w⟩ := w
        obtain ⟨c61, w⟩ := w
        refine wk_b tt_141 4 (pc' := 4) (ls' := [(3, .inl ((v2 + 1))), (2, .inl ((v1 + (v_nLengthOf σ ((v_nItemOf σ (a1) (v2))))))), (0, .inr (.inr (.ref 45))), (1, .inl (a1))]) (st' := []) (σ' := σ) rfl ?_
        obtain ⟨m62, hm62, w⟩ := w
        exact wk_ls [(0, .inr (.inr (.ref 45))), (1, .inl (a1)), (2, .inl ((v1 + (v_nLengthOf σ ((v_nItemOf σ (a1) (v2))))))), (3, .inl ((v2 + 1)))] rfl ⟨rfl, rfl, rfl, rfl, trivial⟩ (ih10 m62 hm62 ((v1 + (v_nLengthOf σ ((v_nItemOf σ (a1) (v2)))))) ((v2 + 1))  c60 c61  w)
  exact wk_ls [(0, .inr (.inr (.ref 45))), (1, .inl (a1)), (2, .inl (0)), (3, .inl (0))] rfl ⟨rfl, rfl, rfl, rfl, trivial⟩ (lp12 μ6 (0) (0)  (by decide) (by decide)  w13)
-- NestedVectors$Machine.pop
def V_mnPop (σ : sg_S) (Q : Int → sg_S → Prop) : Prop := sg_R ((sg_g σ 45 7) - 1) ∧ ∀ σ2, σ2 = (sg_w σ 45 7 (((sg_g σ 45 7) - 1))) → Q ((sx_at σ 48 3200 (((sg_g σ 45 7) - 1)))) σ2
set_option maxHeartbeats 4000000 in
set_option maxRecDepth 8000 in
theorem w_mnPop (z : Value) (σ : sg_S) (Q : Int → sg_S → Prop)  (w : V_mnPop σ  Q) : wx z 1 124 0 [(0, .inr (.inr (.ref 45)))] [] σ (fun v σ' => ∃ q, v = some (.inl q) ∧ sg_R q ∧ sg_F [8045] σ σ' ∧ Q q σ') := by
  unfold V_mnPop at w
  obtain ⟨c1, w⟩ := w
  refine wk_b tt_124 6 (pc' := 10) (ls' := [(0, .inr (.inr (.ref 45)))]) (st' := []) (σ' := (sg_w σ 45 7 (((sg_g σ 45 7) - 1)))) rfl ?_
  generalize hs3 : (sg_w σ 45 7 (((sg_g σ 45 7) - 1))) = σ2
  have w := w σ2 hs3.symm
  have hF4 : sg_F [8045] σ σ2 := by rw [← hs3]; exact sg_F_w (sg_F_r _ _) rfl _
  refine wk_b tt_124 4 (pc' := 18) (ls' := [(0, .inr (.inr (.ref 45)))]) (st' := [.inl ((sg_g σ2 45 7)), .inr (.inr (.ref 48))]) (σ' := σ2) rfl ?_
  rw [show (sg_g σ2 45 7) = ((sg_g σ 45 7) - 1) from by rw [(show sg_g σ2 45 7 = ((sg_g σ 45 7) - 1) from by rw [← hs3]; exact sg_gw_e _ _ _ _ c1)]]
  refine wk_callp tt_124 rfl rfl rfl rfl rfl tt_5 rfl (by decide) (at_i0 z σ2 48 3200 (((sg_g σ 45 7) - 1)) rfl (by decide) c1) ?_
  show wx z 1 124 21 [(0, .inr (.inr (.ref 45)))] [.inl ((sx_at σ2 48 3200 (((sg_g σ 45 7) - 1))))] σ2 (fun v σ' => ∃ q, v = some (.inl q) ∧ sg_R q ∧ sg_F [8045] σ σ' ∧ Q q σ')
  rw [sx_F (a := 48) (n := 3200) (i := (((sg_g σ 45 7) - 1))) hF4 rfl]
  exact wk_rI tt_124 rfl rfl ⟨_, rfl, (sx_R ..), (sg_F_t (sg_F_r [8045] σ) (sg_F_m (L := [8045]) hF4 rfl)), w⟩
-- NestedVectors$NestedRun.fork
def V_nFork (σ : sg_S) (a1 : Int) (Q : sg_S → Prop) : Prop := V_mnPop σ  (fun q1 σ2 => sg_R q1 → sg_F [8045] σ σ2 → ((¬ q1 = 0 → Q σ2) ∧ (q1 = 0 → ∀ σ8, σ8 = (sg_w σ2 45 8 ((sx_at σ 32 200 (a1)))) → Q σ8)))
set_option maxHeartbeats 4000000 in
set_option maxRecDepth 8000 in
theorem w_nFork (z : Value) (σ : sg_S) (a1 : Int) (Q : sg_S → Prop) (ra1 : sg_R a1) (w : V_nFork σ a1 Q) : wx z 2 142 0 [(0, .inr (.inr (.ref 45))), (1, .inl (a1))] [] σ (fun v σ' => v = none ∧ sg_F [8045, 9045] σ σ' ∧ Q σ') := by
  unfold V_nFork at w
  refine wk_b tt_142 1 (pc' := 1) (ls' := [(0, .inr (.inr (.ref 45))), (1, .inl (a1))]) (st' := [.inr (.inr (.ref 45))]) (σ' := σ) rfl ?_
  refine wk_call tt_142 rfl rfl rfl rfl rfl tt_124 rfl (by decide) (w_mnPop z σ  _  w) (fun u6 σ2 hq4 => ?_)
  obtain ⟨q1, rfl, r5, hF3, w⟩ := hq4
  have w := w r5 hF3
  refine wk_if tt_142 (tgt := 22) rfl rfl r5 (fun (h7 : ¬ q1 = 0) => ?_) (fun (h7 : q1 = 0) => ?_)
  ·
    have w := w.1 h7
    exact wk_rV tt_142 rfl rfl ⟨rfl, (sg_F_t (sg_F_r [8045, 9045] σ) (sg_F_m (L := [8045, 9045]) hF3 rfl)), w⟩
  ·
    have w := w.2 h7
    refine wk_b tt_142 5 (pc' := 16) (ls' := [(0, .inr (.inr (.ref 45))), (1, .inl (a1))]) (st' := [.inl (a1), .inr (.inr (.ref 32)), .inr (.inr (.ref 45))]) (σ' := σ2) rfl ?_
    refine wk_callp tt_142 rfl rfl rfl rfl rfl tt_5 rfl (by decide) (at_i0 z σ2 32 200 (a1) rfl (by decide) ra1) ?_
    show wx z 2 142 19 [(0, .inr (.inr (.ref 45))), (1, .inl (a1))] [.inl ((sx_at σ2 32 200 (a1))), .inr (.inr (.ref 45))] σ2 (fun v σ' => v = none ∧ sg_F [8045, 9045] σ σ' ∧ Q σ')
    rw [sx_F (a := 32) (n := 200) (i := (a1)) hF3 rfl]
    refine wk_b tt_142 1 (pc' := 22) (ls' := [(0, .inr (.inr (.ref 45))), (1, .inl (a1))]) (st' := []) (σ' := (sg_w σ2 45 8 ((sx_at σ 32 200 (a1))))) rfl ?_
    generalize hs9 : (sg_w σ2 45 8 ((sx_at σ 32 200 (a1)))) = σ8
    have w := w σ8 hs9.symm
    have hF10 : sg_F [9045] σ2 σ8 := by rw [← hs9]; exact sg_F_w (sg_F_r _ _) rfl _
    exact wk_rV tt_142 rfl rfl ⟨rfl, (sg_F_t (sg_F_t (sg_F_r [8045, 9045] σ) (sg_F_m (L := [8045, 9045]) hF3 rfl)) (sg_F_m (L := [8045, 9045]) hF10 rfl)), w⟩
-- NestedVectors$NestedRun.measure
def V_nMeasure (σ : sg_S) (a1 : Int) (Q : sg_S → Prop) : Prop := V_mnPush σ ((v_nLengthOf σ (a1))) (fun σ3 => sg_F [48, 8045] σ σ3 → Q σ3)
set_option maxHeartbeats 4000000 in
set_option maxRecDepth 8000 in
theorem w_nMeasure (z : Value) (σ : sg_S) (a1 : Int) (Q : sg_S → Prop) (ra1 : sg_R a1) (w : V_nMeasure σ a1 Q) : wx z 2 150 0 [(0, .inr (.inr (.ref 45))), (1, .inl (a1))] [] σ (fun v σ' => v = none ∧ sg_F [48, 8045] σ σ' ∧ Q σ') := by
  unfold V_nMeasure at w
  refine wk_b tt_150 3 (pc' := 3) (ls' := [(0, .inr (.inr (.ref 45))), (1, .inl (a1))]) (st' := [.inl (a1), .inr (.inr (.ref 45)), .inr (.inr (.ref 45))]) (σ' := σ) rfl ?_
  refine wk_callp tt_150 rfl rfl rfl rfl rfl tt_149 rfl (by decide) (w_nLengthOf z σ (a1) ra1 ) ?_
  have r1 := vr_nLengthOf σ  (a1) ra1 
  refine wk_call tt_150 rfl rfl rfl rfl rfl tt_125 rfl (by decide) (w_mnPush z σ ((v_nLengthOf σ (a1))) _ r1 w) (fun u7 σ3 hq5 => ?_)
  obtain ⟨rfl, hF4, w⟩ := hq5
  have w := w hF4
  exact wk_rV tt_150 rfl rfl ⟨rfl, (sg_F_t (sg_F_r [48, 8045] σ) (sg_F_m (L := [48, 8045]) hF4 rfl)), w⟩
-- NestedVectors$NestedRun.visit
def V_nVisit (σ : sg_S) (a1 : Int) (Q : sg_S → Prop) : Prop := (((sx_at σ 57 200 (a1)) < (sx_at σ 58 200 (a1)) → (∃ (I5 : Nat → Int → sg_S → Prop) (X7 : sg_S → Prop), (∃ n, I5 n (0) σ) ∧ (∀ (n15 : Nat) (v2 : Int) (σ3 : sg_S), sg_R v2 → sg_F [46] σ σ3 → I5 n15 v2 σ3 → (((sx_at σ 13 200 (a1)) ≤ v2 → X7 σ3) ∧ (v2 < (sx_at σ 13 200 (a1)) → ((4 ≤ v2 → X7 σ3) ∧ (v2 < 4 → sg_R ((sx_at σ 56 200 (a1)) - (sx_at σ 13 200 (a1))) ∧ sg_R (((sx_at σ 56 200 (a1)) - (sx_at σ 13 200 (a1))) + v2) ∧ sg_R ((sx_at σ 16 200 (a1)) + v2) ∧ p_nItemOf σ ((sx_at σ 48 3200 ((((sx_at σ 56 200 (a1)) - (sx_at σ 13 200 (a1))) + v2)))) ((sx_at σ 57 200 (a1))) ∧ ∀ σ30, σ30 = (sx_put σ3 46 272 (((sx_at σ 16 200 (a1)) + v2)) ((v_nItemOf σ ((sx_at σ 48 3200 ((((sx_at σ 56 200 (a1)) - (sx_at σ 13 200 (a1))) + v2)))) ((sx_at σ 57 200 (a1)))))) → sg_R (v2 + 1) ∧ (∃ m, m < n15 ∧ I5 m ((v2 + 1)) σ30)))))) ∧ (∀ (σ3 : sg_S), sg_F [46] σ σ3 → X7 σ3 → ∀ σ17, σ17 = (sg_w σ3 45 23 (0)) → ∀ σ20, σ20 = (sg_w σ17 45 8 ((sx_at σ 32 200 (a1)))) → Q σ20))) ∧ ((sx_at σ 58 200 (a1)) ≤ (sx_at σ 57 200 (a1)) → sg_R ((sx_at σ 59 200 (a1)) + (sx_at σ 60 200 (a1))) ∧ ∀ σ36, σ36 = (sg_w σ 45 23 (((sx_at σ 59 200 (a1)) + (sx_at σ 60 200 (a1))))) → ∀ σ39, σ39 = (sg_w σ36 45 8 ((sx_at σ 33 200 (a1)))) → Q σ39))
set_option maxHeartbeats 4000000 in
set_option maxRecDepth 8000 in
theorem w_nVisit (z : Value) (σ : sg_S) (a1 : Int) (Q : sg_S → Prop) (ra1 : sg_R a1) (w : V_nVisit σ a1 Q) : wx z 2 165 0 [(0, .inr (.inr (.ref 45))), (1, .inl (a1))] [] σ (fun v σ' => v = none ∧ sg_F [46, 9045, 24045] σ σ' ∧ Q σ') := by
  unfold V_nVisit at w
  refine wk_b tt_165 3 (pc' := 5) (ls' := [(0, .inr (.inr (.ref 45))), (1, .inl (a1))]) (st' := [.inl (a1), .inr (.inr (.ref 57))]) (σ' := σ) rfl ?_
  refine wk_callp tt_165 rfl rfl rfl rfl rfl tt_5 rfl (by decide) (at_i0 z σ 57 200 (a1) rfl (by decide) ra1) ?_
  show wx z 2 165 8 [(0, .inr (.inr (.ref 45))), (1, .inl (a1))] [.inl ((sx_at σ 57 200 (a1)))] σ (fun v σ' => v = none ∧ sg_F [46, 9045, 24045] σ σ' ∧ Q σ')
  refine wk_b tt_165 5 (pc' := 15) (ls' := [(2, .inl ((sx_at σ 57 200 (a1)))), (0, .inr (.inr (.ref 45))), (1, .inl (a1))]) (st' := [.inl (a1), .inr (.inr (.ref 58)), .inl ((sx_at σ 57 200 (a1)))]) (σ' := σ) rfl ?_
  refine wk_callp tt_165 rfl rfl rfl rfl rfl tt_5 rfl (by decide) (at_i0 z σ 58 200 (a1) rfl (by decide) ra1) ?_
  show wx z 2 165 18 [(2, .inl ((sx_at σ 57 200 (a1)))), (0, .inr (.inr (.ref 45))), (1, .inl (a1))] [.inl ((sx_at σ 58 200 (a1))), .inl ((sx_at σ 57 200 (a1)))] σ (fun v σ' => v = none ∧ sg_F [46, 9045, 24045] σ σ' ∧ Q σ')
  refine wk_if2 tt_165 (tgt := 58) rfl rfl (sx_R ..) (sx_R ..) (fun (h1 : (sx_at σ 57 200 (a1)) < (sx_at σ 58 200 (a1))) => ?_) (fun (h1 : (sx_at σ 58 200 (a1)) ≤ (sx_at σ 57 200 (a1))) => ?_)
  ·
    have w := w.1 h1
    refine wk_b tt_165 4 (pc' := 66) (ls' := [(2, .inl ((sx_at σ 57 200 (a1)))), (0, .inr (.inr (.ref 45))), (1, .inl (a1))]) (st' := [.inl (a1), .inr (.inr (.ref 13))]) (σ' := σ) rfl ?_
    refine wk_callp tt_165 rfl rfl rfl rfl rfl tt_5 rfl (by decide) (at_i0 z σ 13 200 (a1) rfl (by decide) ra1) ?_
    show wx z 2 165 69 [(2, .inl ((sx_at σ 57 200 (a1)))), (0, .inr (.inr (.ref 45))), (1, .inl (a1))] [.inl ((sx_at σ 13 200 (a1)))] σ (fun v σ' => v = none ∧ sg_F [46, 9045, 24045] σ σ' ∧ Q σ')
    refine wk_b tt_165 3 (pc' := 73) (ls' := [(4, .inl (0)), (3, .inl ((sx_at σ 13 200 (a1)))), (2, .inl ((sx_at σ 57 200 (a1)))), (0, .inr (.inr (.ref 45))), (1, .inl (a1))]) (st' := []) (σ' := σ) rfl ?_
    obtain ⟨I5, X7, ⟨μ6, w12⟩, w13, w14⟩ := w
    have ex16 : ∀ (σ3 : sg_S), sg_F [46] σ σ3 → X7 σ3 → wx z 2 165 141 [(0, .inr (.inr (.ref 45))), (1, .inl (a1))] [] σ3 (fun v σ' => v = none ∧ sg_F [46, 9045, 24045] σ σ' ∧ Q σ') := by
      intro σ3 hF4 w
      have w := w14 σ3 hF4 w
      refine wk_b tt_165 3 (pc' := 146) (ls' := [(0, .inr (.inr (.ref 45))), (1, .inl (a1))]) (st' := []) (σ' := (sg_w σ3 45 23 (0))) rfl ?_
      generalize hs18 : (sg_w σ3 45 23 (0)) = σ17
      have w := w σ17 hs18.symm
      have hF19 : sg_F [24045] σ3 σ17 := by rw [← hs18]; exact sg_F_w (sg_F_r _ _) rfl _
      refine wk_b tt_165 5 (pc' := 155) (ls' := [(0, .inr (.inr (.ref 45))), (1, .inl (a1))]) (st' := [.inl (a1), .inr (.inr (.ref 32)), .inr (.inr (.ref 45))]) (σ' := σ17) rfl ?_
      refine wk_callp tt_165 rfl rfl rfl rfl rfl tt_5 rfl (by decide) (at_i0 z σ17 32 200 (a1) rfl (by decide) ra1) ?_
      show wx z 2 165 158 [(0, .inr (.inr (.ref 45))), (1, .inl (a1))] [.inl ((sx_at σ17 32 200 (a1))), .inr (.inr (.ref 45))] σ17 (fun v σ' => v = none ∧ sg_F [46, 9045, 24045] σ σ' ∧ Q σ')
      rw [sx_F (a := 32) (n := 200) (i := (a1)) hF19 rfl, sx_F (a := 32) (n := 200) (i := (a1)) hF4 rfl]
      refine wk_b tt_165 1 (pc' := 161) (ls' := [(0, .inr (.inr (.ref 45))), (1, .inl (a1))]) (st' := []) (σ' := (sg_w σ17 45 8 ((sx_at σ 32 200 (a1))))) rfl ?_
      generalize hs21 : (sg_w σ17 45 8 ((sx_at σ 32 200 (a1)))) = σ20
      have w := w σ20 hs21.symm
      have hF22 : sg_F [9045] σ17 σ20 := by rw [← hs21]; exact sg_F_w (sg_F_r _ _) rfl _
      exact wk_rV tt_165 rfl rfl ⟨rfl, (sg_F_t (sg_F_t (sg_F_t (sg_F_r [46, 9045, 24045] σ) (sg_F_m (L := [46, 9045, 24045]) hF4 rfl)) (sg_F_m (L := [46, 9045, 24045]) hF19 rfl)) (sg_F_m (L := [46, 9045, 24045]) hF22 rfl)), w⟩
    have lp11 : ∀ (n15 : Nat) (v2 : Int) (σ3 : sg_S), sg_R v2 → sg_F [46] σ σ3 → I5 n15 v2 σ3 → wx z 2 165 73 [(0, .inr (.inr (.ref 45))), (1, .inl (a1)), (2, .inl ((sx_at σ 57 200 (a1)))), (3, .inl ((sx_at σ 13 200 (a1)))), (4, .inl (v2))] [] σ3 (fun v σ' => v = none ∧ sg_F [46, 9045, 24045] σ σ' ∧ Q σ') := by
      intro n15
      induction n15 using Nat.strongRecOn with
      | _ n15 ih9 =>
        intro v2 σ3 r8 hF4 w
        have w := w13 n15 v2 σ3 r8 hF4 w
        refine wk_b tt_165 2 (pc' := 76) (ls' := [(0, .inr (.inr (.ref 45))), (1, .inl (a1)), (2, .inl ((sx_at σ 57 200 (a1)))), (3, .inl ((sx_at σ 13 200 (a1)))), (4, .inl (v2))]) (st' := [.inl ((sx_at σ 13 200 (a1))), .inl (v2)]) (σ' := σ3) rfl ?_
        refine wk_if2 tt_165 (tgt := 141) rfl rfl r8 (sx_R ..) (fun (h23 : (sx_at σ 13 200 (a1)) ≤ v2) => ?_) (fun (h23 : v2 < (sx_at σ 13 200 (a1))) => ?_)
        ·
          have w := w.1 h23
          exact wk_ls [(0, .inr (.inr (.ref 45))), (1, .inl (a1))] rfl ⟨rfl, rfl, trivial⟩ (ex16  σ3  (sg_F_t (sg_F_r [46] σ) (sg_F_m (L := [46]) hF4 rfl)) w)
        ·
          have w := w.2 h23
          refine wk_b tt_165 2 (pc' := 82) (ls' := [(0, .inr (.inr (.ref 45))), (1, .inl (a1)), (2, .inl ((sx_at σ 57 200 (a1)))), (3, .inl ((sx_at σ 13 200 (a1)))), (4, .inl (v2))]) (st' := [.inl (4), .inl (v2)]) (σ' := σ3) rfl ?_
          refine wk_if2 tt_165 (tgt := 141) rfl rfl r8 (by decide) (fun (h24 : 4 ≤ v2) => ?_) (fun (h24 : v2 < 4) => ?_)
          ·
            have w := w.1 h24
            exact wk_ls [(0, .inr (.inr (.ref 45))), (1, .inl (a1))] rfl ⟨rfl, rfl, trivial⟩ (ex16  σ3  (sg_F_t (sg_F_r [46] σ) (sg_F_m (L := [46]) hF4 rfl)) w)
          ·
            have w := w.2 h24
            refine wk_b tt_165 5 (pc' := 94) (ls' := [(0, .inr (.inr (.ref 45))), (1, .inl (a1)), (2, .inl ((sx_at σ 57 200 (a1)))), (3, .inl ((sx_at σ 13 200 (a1)))), (4, .inl (v2))]) (st' := [.inl (a1), .inr (.inr (.ref 56)), .inr (.inr (.ref 48))]) (σ' := σ3) rfl ?_
            refine wk_callp tt_165 rfl rfl rfl rfl rfl tt_5 rfl (by decide) (at_i0 z σ3 56 200 (a1) rfl (by decide) ra1) ?_
            show wx z 2 165 97 [(0, .inr (.inr (.ref 45))), (1, .inl (a1)), (2, .inl ((sx_at σ 57 200 (a1)))), (3, .inl ((sx_at σ 13 200 (a1)))), (4, .inl (v2))] [.inl ((sx_at σ3 56 200 (a1))), .inr (.inr (.ref 48))] σ3 (fun v σ' => v = none ∧ sg_F [46, 9045, 24045] σ σ' ∧ Q σ')
            rw [sx_F (a := 56) (n := 200) (i := (a1)) hF4 rfl]
            obtain ⟨c25, w⟩ := w
            obtain ⟨c26, w⟩ := w
            refine wk_b tt_165 4 (pc' := 102) (ls' := [(0, .inr (.inr (.ref 45))), (1, .inl (a1)), (2, .inl ((sx_at σ 57 200 (a1)))), (3, .inl ((sx_at σ 13 200 (a1)))), (4, .inl (v2))]) (st' := [.inl ((((sx_at σ 56 200 (a1)) - (sx_at σ 13 200 (a1))) + v2)), .inr (.inr (.ref 48))]) (σ' := σ3) rfl ?_
            refine wk_callp tt_165 rfl rfl rfl rfl rfl tt_5 rfl (by decide) (at_i0 z σ3 48 3200 ((((sx_at σ 56 200 (a1)) - (sx_at σ 13 200 (a1))) + v2)) rfl (by decide) c26) ?_
            show wx z 2 165 105 [(0, .inr (.inr (.ref 45))), (1, .inl (a1)), (2, .inl ((sx_at σ 57 200 (a1)))), (3, .inl ((sx_at σ 13 200 (a1)))), (4, .inl (v2))] [.inl ((sx_at σ3 48 3200 ((((sx_at σ 56 200 (a1)) - (sx_at σ 13 200 (a1))) + v2))))] σ3 (fun v σ' => v = none ∧ sg_F [46, 9045, 24045] σ σ' ∧ Q σ')
            rw [sx_F (a := 48) (n := 3200) (i := ((((sx_at σ 56 200 (a1)) - (sx_at σ 13 200 (a1))) + v2))) hF4 rfl]
            refine wk_b tt_165 7 (pc' := 119) (ls' := [(5, .inl ((sx_at σ 48 3200 ((((sx_at σ 56 200 (a1)) - (sx_at σ 13 200 (a1))) + v2))))), (0, .inr (.inr (.ref 45))), (1, .inl (a1)), (2, .inl ((sx_at σ 57 200 (a1)))), (3, .inl ((sx_at σ 13 200 (a1)))), (4, .inl (v2))]) (st' := [.inl (a1), .inr (.inr (.ref 16)), .inr (.inr (.ref 46))]) (σ' := σ3) rfl ?_
            refine wk_callp tt_165 rfl rfl rfl rfl rfl tt_5 rfl (by decide) (at_i0 z σ3 16 200 (a1) rfl (by decide) ra1) ?_
            show wx z 2 165 122 [(5, .inl ((sx_at σ 48 3200 ((((sx_at σ 56 200 (a1)) - (sx_at σ 13 200 (a1))) + v2))))), (0, .inr (.inr (.ref 45))), (1, .inl (a1)), (2, .inl ((sx_at σ 57 200 (a1)))), (3, .inl ((sx_at σ 13 200 (a1)))), (4, .inl (v2))] [.inl ((sx_at σ3 16 200 (a1))), .inr (.inr (.ref 46))] σ3 (fun v σ' => v = none ∧ sg_F [46, 9045, 24045] σ σ' ∧ Q σ')
            rw [sx_F (a := 16) (n := 200) (i := (a1)) hF4 rfl]
            obtain ⟨c27, w⟩ := w
            refine wk_b tt_165 5 (pc' := 129) (ls' := [(5, .inl ((sx_at σ 48 3200 ((((sx_at σ 56 200 (a1)) - (sx_at σ 13 200 (a1))) + v2))))), (0, .inr (.inr (.ref 45))), (1, .inl (a1)), (2, .inl ((sx_at σ 57 200 (a1)))), (3, .inl ((sx_at σ 13 200 (a1)))), (4, .inl (v2))]) (st' := [.inl ((sx_at σ 57 200 (a1))), .inl ((sx_at σ 48 3200 ((((sx_at σ 56 200 (a1)) - (sx_at σ 13 200 (a1))) + v2)))), .inr (.inr (.ref 45)), .inl (((sx_at σ 16 200 (a1)) + v2)), .inr (.inr (.ref 46))]) (σ' := σ3) rfl ?_
            obtain ⟨c28, w⟩ := w
            have c28 : p_nItemOf σ3 ((sx_at σ 48 3200 ((((sx_at σ 56 200 (a1)) - (sx_at σ 13 200 (a1))) + v2)))) ((sx_at σ 57 200 (a1))) := by
              rw [pF_nItemOf hF4 rfl]; exact c28
            refine wk_callp tt_165 rfl rfl rfl rfl rfl tt_145 rfl (by decide) (w_nItemOf z σ3 ((sx_at σ 48 3200 ((((sx_at σ 56 200 (a1)) - (sx_at σ 13 200 (a1))) + v2)))) ((sx_at σ 57 200 (a1))) (sx_R ..) (sx_R ..) c28) ?_
            rw [vF_nItemOf hF4 rfl]
            have r29 := vr_nItemOf σ  ((sx_at σ 48 3200 ((((sx_at σ 56 200 (a1)) - (sx_at σ 13 200 (a1))) + v2)))) ((sx_at σ 57 200 (a1))) (sx_R ..) (sx_R ..) (by have q := c28; rw [pF_nItemOf hF4 rfl] at q; exact q)
            refine wk_callp tt_165 rfl rfl rfl rfl rfl tt_21 rfl (by decide) (pt_i0 z σ3 46 272 (((sx_at σ 16 200 (a1)) + v2)) ((v_nItemOf σ ((sx_at σ 48 3200 ((((sx_at σ 56 200 (a1)) - (sx_at σ 13 200 (a1))) + v2)))) ((sx_at σ 57 200 (a1))))) rfl (by decide) c27) ?_
            show wx z 2 165 135 [(5, .inl ((sx_at σ 48 3200 ((((sx_at σ 56 200 (a1)) - (sx_at σ 13 200 (a1))) + v2))))), (0, .inr (.inr (.ref 45))), (1, .inl (a1)), (2, .inl ((sx_at σ 57 200 (a1)))), (3, .inl ((sx_at σ 13 200 (a1)))), (4, .inl (v2))] [] (sx_put σ3 46 272 (((sx_at σ 16 200 (a1)) + v2)) ((v_nItemOf σ ((sx_at σ 48 3200 ((((sx_at σ 56 200 (a1)) - (sx_at σ 13 200 (a1))) + v2)))) ((sx_at σ 57 200 (a1)))))) (fun v σ' => v = none ∧ sg_F [46, 9045, 24045] σ σ' ∧ Q σ')
            generalize hs31 : (sx_put σ3 46 272 (((sx_at σ 16 200 (a1)) + v2)) ((v_nItemOf σ ((sx_at σ 48 3200 ((((sx_at σ 56 200 (a1)) - (sx_at σ 13 200 (a1))) + v2)))) ((sx_at σ 57 200 (a1)))))) = σ30
            have w := w σ30 hs31.symm
            have hF32 : sg_F [46] σ3 σ30 := by rw [← hs31]; exact sg_F_p (sg_F_r _ _) rfl _ _ _
            obtain ⟨c33, w⟩ := w
            refine wk_b tt_165 2 (pc' := 73) (ls' := [(4, .inl ((v2 + 1))), (5, .inl ((sx_at σ 48 3200 ((((sx_at σ 56 200 (a1)) - (sx_at σ 13 200 (a1))) + v2))))), (0, .inr (.inr (.ref 45))), (1, .inl (a1)), (2, .inl ((sx_at σ 57 200 (a1)))), (3, .inl ((sx_at σ 13 200 (a1))))]) (st' := []) (σ' := σ30) rfl ?_
            obtain ⟨m34, hm34, w⟩ := w
            exact wk_ls [(0, .inr (.inr (.ref 45))), (1, .inl (a1)), (2, .inl ((sx_at σ 57 200 (a1)))), (3, .inl ((sx_at σ 13 200 (a1)))), (4, .inl ((v2 + 1)))] rfl ⟨rfl, rfl, rfl, rfl, rfl, trivial⟩ (ih9 m34 hm34 ((v2 + 1)) σ30 c33 (sg_F_t (sg_F_t (sg_F_r [46] σ) (sg_F_m (L := [46]) hF4 rfl)) (sg_F_m (L := [46]) hF32 rfl)) w)
    exact wk_ls [(0, .inr (.inr (.ref 45))), (1, .inl (a1)), (2, .inl ((sx_at σ 57 200 (a1)))), (3, .inl ((sx_at σ 13 200 (a1)))), (4, .inl (0))] rfl ⟨rfl, rfl, rfl, rfl, rfl, trivial⟩ (lp11 μ6 (0) σ (by decide) (sg_F_r _ _) w12)
  ·
    have w := w.2 h1
    refine wk_b tt_165 4 (pc' := 27) (ls' := [(2, .inl ((sx_at σ 57 200 (a1)))), (0, .inr (.inr (.ref 45))), (1, .inl (a1))]) (st' := [.inl (a1), .inr (.inr (.ref 59)), .inr (.inr (.ref 45))]) (σ' := σ) rfl ?_
    refine wk_callp tt_165 rfl rfl rfl rfl rfl tt_5 rfl (by decide) (at_i0 z σ 59 200 (a1) rfl (by decide) ra1) ?_
    show wx z 2 165 30 [(2, .inl ((sx_at σ 57 200 (a1)))), (0, .inr (.inr (.ref 45))), (1, .inl (a1))] [.inl ((sx_at σ 59 200 (a1))), .inr (.inr (.ref 45))] σ (fun v σ' => v = none ∧ sg_F [46, 9045, 24045] σ σ' ∧ Q σ')
    refine wk_b tt_165 3 (pc' := 35) (ls' := [(2, .inl ((sx_at σ 57 200 (a1)))), (0, .inr (.inr (.ref 45))), (1, .inl (a1))]) (st' := [.inl (a1), .inr (.inr (.ref 60)), .inl ((sx_at σ 59 200 (a1))), .inr (.inr (.ref 45))]) (σ' := σ) rfl ?_
    refine wk_callp tt_165 rfl rfl rfl rfl rfl tt_5 rfl (by decide) (at_i0 z σ 60 200 (a1) rfl (by decide) ra1) ?_
    show wx z 2 165 38 [(2, .inl ((sx_at σ 57 200 (a1)))), (0, .inr (.inr (.ref 45))), (1, .inl (a1))] [.inl ((sx_at σ 60 200 (a1))), .inl ((sx_at σ 59 200 (a1))), .inr (.inr (.ref 45))] σ (fun v σ' => v = none ∧ sg_F [46, 9045, 24045] σ σ' ∧ Q σ')
    obtain ⟨c35, w⟩ := w
    refine wk_b tt_165 2 (pc' := 42) (ls' := [(2, .inl ((sx_at σ 57 200 (a1)))), (0, .inr (.inr (.ref 45))), (1, .inl (a1))]) (st' := []) (σ' := (sg_w σ 45 23 (((sx_at σ 59 200 (a1)) + (sx_at σ 60 200 (a1)))))) rfl ?_
    generalize hs37 : (sg_w σ 45 23 (((sx_at σ 59 200 (a1)) + (sx_at σ 60 200 (a1))))) = σ36
    have w := w σ36 hs37.symm
    have hF38 : sg_F [24045] σ σ36 := by rw [← hs37]; exact sg_F_w (sg_F_r _ _) rfl _
    refine wk_b tt_165 5 (pc' := 51) (ls' := [(2, .inl ((sx_at σ 57 200 (a1)))), (0, .inr (.inr (.ref 45))), (1, .inl (a1))]) (st' := [.inl (a1), .inr (.inr (.ref 33)), .inr (.inr (.ref 45))]) (σ' := σ36) rfl ?_
    refine wk_callp tt_165 rfl rfl rfl rfl rfl tt_5 rfl (by decide) (at_i0 z σ36 33 200 (a1) rfl (by decide) ra1) ?_
    show wx z 2 165 54 [(2, .inl ((sx_at σ 57 200 (a1)))), (0, .inr (.inr (.ref 45))), (1, .inl (a1))] [.inl ((sx_at σ36 33 200 (a1))), .inr (.inr (.ref 45))] σ36 (fun v σ' => v = none ∧ sg_F [46, 9045, 24045] σ σ' ∧ Q σ')
    rw [sx_F (a := 33) (n := 200) (i := (a1)) hF38 rfl]
    refine wk_b tt_165 1 (pc' := 57) (ls' := [(2, .inl ((sx_at σ 57 200 (a1)))), (0, .inr (.inr (.ref 45))), (1, .inl (a1))]) (st' := []) (σ' := (sg_w σ36 45 8 ((sx_at σ 33 200 (a1))))) rfl ?_
    generalize hs40 : (sg_w σ36 45 8 ((sx_at σ 33 200 (a1)))) = σ39
    have w := w σ39 hs40.symm
    have hF41 : sg_F [9045] σ36 σ39 := by rw [← hs40]; exact sg_F_w (sg_F_r _ _) rfl _
    exact wk_rV tt_165 rfl rfl ⟨rfl, (sg_F_t (sg_F_t (sg_F_r [46, 9045, 24045] σ) (sg_F_m (L := [46, 9045, 24045]) hF38 rfl)) (sg_F_m (L := [46, 9045, 24045]) hF41 rfl)), w⟩
-- NestedVectors$NestedRun.next
def V_nNext (σ : sg_S) (a1 : Int) (Q : sg_S → Prop) : Prop := ∀ v1 : Int, v1 = (if (sx_at σ 60 200 (a1)) < (sg_g σ 45 23) then (sg_g σ 45 23) else (sx_at σ 60 200 (a1))) → sg_R v1 → ∀ σ4, σ4 = (sx_put σ 60 200 (a1) (v1)) → sg_R ((sx_at σ 57 200 (a1)) + 1) ∧ ∀ σ8, σ8 = (sx_put σ4 57 200 (a1) (((sx_at σ 57 200 (a1)) + 1))) → V_nVisit σ8 (a1) (fun σ12 => sg_F [46, 9045, 24045] σ8 σ12 → Q σ12)
set_option maxHeartbeats 4000000 in
set_option maxRecDepth 8000 in
theorem w_nNext (z : Value) (σ : sg_S) (a1 : Int) (Q : sg_S → Prop) (ra1 : sg_R a1) (w : V_nNext σ a1 Q) : wx z 3 151 0 [(0, .inr (.inr (.ref 45))), (1, .inl (a1))] [] σ (fun v σ' => v = none ∧ sg_F [46, 57, 60, 9045, 24045] σ σ' ∧ Q σ') := by
  unfold V_nNext at w
  refine wk_b tt_151 6 (pc' := 10) (ls' := [(0, .inr (.inr (.ref 45))), (1, .inl (a1))]) (st' := [.inl (a1), .inr (.inr (.ref 60)), .inl (a1), .inr (.inr (.ref 60))]) (σ' := σ) rfl ?_
  refine wk_callp tt_151 rfl rfl rfl rfl rfl tt_5 rfl (by decide) (at_i0 z σ 60 200 (a1) rfl (by decide) ra1) ?_
  show wx z 3 151 13 [(0, .inr (.inr (.ref 45))), (1, .inl (a1))] [.inl ((sx_at σ 60 200 (a1))), .inl (a1), .inr (.inr (.ref 60))] σ (fun v σ' => v = none ∧ sg_F [46, 57, 60, 9045, 24045] σ σ' ∧ Q σ')
  refine wk_b tt_151 2 (pc' := 17) (ls' := [(0, .inr (.inr (.ref 45))), (1, .inl (a1))]) (st' := [.inl ((sg_g σ 45 23)), .inl ((sx_at σ 60 200 (a1))), .inl (a1), .inr (.inr (.ref 60))]) (σ' := σ) rfl ?_
  refine wk_max (k0 := 0) tt_151 rfl (sx_R ..) (sg_Rg _ _ _) rfl ?_
  obtain ⟨v1, e2⟩ : ∃ q, q = (if (sx_at σ 60 200 (a1)) < (sg_g σ 45 23) then (sg_g σ 45 23) else (sx_at σ 60 200 (a1))) := ⟨_, rfl⟩
  have r3 : sg_R v1 := by rw [e2]; split <;> first | exact (sx_R ..) | exact (sg_Rg _ _ _)
  rw [← e2]
  have w := w v1 e2 r3
  refine wk_callp tt_151 rfl rfl rfl rfl rfl tt_21 rfl (by decide) (pt_i0 z σ 60 200 (a1) (v1) rfl (by decide) ra1) ?_
  show wx z 3 151 23 [(0, .inr (.inr (.ref 45))), (1, .inl (a1))] [] (sx_put σ 60 200 (a1) (v1)) (fun v σ' => v = none ∧ sg_F [46, 57, 60, 9045, 24045] σ σ' ∧ Q σ')
  generalize hs5 : (sx_put σ 60 200 (a1) (v1)) = σ4
  have w := w σ4 hs5.symm
  have hF6 : sg_F [60] σ σ4 := by rw [← hs5]; exact sg_F_p (sg_F_r _ _) rfl _ _ _
  refine wk_b tt_151 6 (pc' := 33) (ls' := [(0, .inr (.inr (.ref 45))), (1, .inl (a1))]) (st' := [.inl (a1), .inr (.inr (.ref 57)), .inl (a1), .inr (.inr (.ref 57))]) (σ' := σ4) rfl ?_
  refine wk_callp tt_151 rfl rfl rfl rfl rfl tt_5 rfl (by decide) (at_i0 z σ4 57 200 (a1) rfl (by decide) ra1) ?_
  show wx z 3 151 36 [(0, .inr (.inr (.ref 45))), (1, .inl (a1))] [.inl ((sx_at σ4 57 200 (a1))), .inl (a1), .inr (.inr (.ref 57))] σ4 (fun v σ' => v = none ∧ sg_F [46, 57, 60, 9045, 24045] σ σ' ∧ Q σ')
  rw [sx_F (a := 57) (n := 200) (i := (a1)) hF6 rfl]
  obtain ⟨c7, w⟩ := w
  refine wk_b tt_151 2 (pc' := 38) (ls' := [(0, .inr (.inr (.ref 45))), (1, .inl (a1))]) (st' := [.inl (((sx_at σ 57 200 (a1)) + 1)), .inl (a1), .inr (.inr (.ref 57))]) (σ' := σ4) rfl ?_
  refine wk_callp tt_151 rfl rfl rfl rfl rfl tt_21 rfl (by decide) (pt_i0 z σ4 57 200 (a1) (((sx_at σ 57 200 (a1)) + 1)) rfl (by decide) ra1) ?_
  show wx z 3 151 41 [(0, .inr (.inr (.ref 45))), (1, .inl (a1))] [] (sx_put σ4 57 200 (a1) (((sx_at σ 57 200 (a1)) + 1))) (fun v σ' => v = none ∧ sg_F [46, 57, 60, 9045, 24045] σ σ' ∧ Q σ')
  generalize hs9 : (sx_put σ4 57 200 (a1) (((sx_at σ 57 200 (a1)) + 1))) = σ8
  have w := w σ8 hs9.symm
  have hF10 : sg_F [57] σ4 σ8 := by rw [← hs9]; exact sg_F_p (sg_F_r _ _) rfl _ _ _
  refine wk_b tt_151 2 (pc' := 43) (ls' := [(0, .inr (.inr (.ref 45))), (1, .inl (a1))]) (st' := [.inl (a1), .inr (.inr (.ref 45))]) (σ' := σ8) rfl ?_
  refine wk_call tt_151 rfl rfl rfl rfl rfl tt_165 rfl (by decide) (w_nVisit z σ8 (a1) _ ra1 w) (fun u16 σ12 hq14 => ?_)
  obtain ⟨rfl, hF13, w⟩ := hq14
  have w := w hF13
  exact wk_rV tt_151 rfl rfl ⟨rfl, (sg_F_t (sg_F_t (sg_F_t (sg_F_r [46, 57, 60, 9045, 24045] σ) (sg_F_m (L := [46, 57, 60, 9045, 24045]) hF6 rfl)) (sg_F_m (L := [46, 57, 60, 9045, 24045]) hF10 rfl)) (sg_F_m (L := [46, 57, 60, 9045, 24045]) hF13 rfl)), w⟩
-- NestedVectors$NestedRun.open
def V_nOpen (σ : sg_S) (a1 : Int) (Q : sg_S → Prop) : Prop := sg_R ((sg_g σ 45 7) - (sx_at σ 13 200 (a1))) ∧ (∃ (I6 : Nat → Int → sg_S → Prop) (X8 : sg_S → Prop), (∃ n, I6 n (1) σ) ∧ (∀ (n16 : Nat) (v3 : Int) (σ4 : sg_S), sg_R v3 → sg_F [11045] σ σ4 → I6 n16 v3 σ4 → (((sx_at σ 13 200 (a1)) ≤ v3 → X8 σ4) ∧ (v3 < (sx_at σ 13 200 (a1)) → ((4 ≤ v3 → X8 σ4) ∧ (v3 < 4 → sg_R (((sg_g σ 45 7) - (sx_at σ 13 200 (a1))) + v3) ∧ (((v_nLengthOf σ ((sx_at σ 48 3200 ((((sg_g σ 45 7) - (sx_at σ 13 200 (a1))) + v3))))) = (v_nLengthOf σ ((sx_at σ 48 3200 (((sg_g σ 45 7) - (sx_at σ 13 200 (a1))))))) → sg_R (v3 + 1) ∧ (∃ m, m < n16 ∧ I6 m ((v3 + 1)) σ4)) ∧ (¬ (v_nLengthOf σ ((sx_at σ 48 3200 ((((sg_g σ 45 7) - (sx_at σ 13 200 (a1))) + v3))))) = (v_nLengthOf σ ((sx_at σ 48 3200 (((sg_g σ 45 7) - (sx_at σ 13 200 (a1))))))) → ∀ σ46, σ46 = (sg_w σ4 45 10 (3)) → Q σ46))))))) ∧ (∀ (σ4 : sg_S), sg_F [11045] σ σ4 → X8 σ4 → ∀ σ18, σ18 = (sx_put σ4 56 200 (a1) ((sg_g σ 45 7))) → ∀ σ21, σ21 = (sx_put σ18 58 200 (a1) ((v_nLengthOf σ ((sx_at σ 48 3200 (((sg_g σ 45 7) - (sx_at σ 13 200 (a1))))))))) → ∀ σ24, σ24 = (sx_put σ21 57 200 (a1) (0)) → ∀ σ27, σ27 = (sx_put σ24 59 200 (a1) ((sg_g σ 45 23))) → ∀ σ30, σ30 = (sx_put σ27 60 200 (a1) (0)) → V_nVisit σ30 (a1) (fun σ34 => sg_F [46, 9045, 24045] σ30 σ34 → Q σ34)))
set_option maxHeartbeats 4000000 in
set_option maxRecDepth 8000 in
theorem w_nOpen (z : Value) (σ : sg_S) (a1 : Int) (Q : sg_S → Prop) (ra1 : sg_R a1) (w : V_nOpen σ a1 Q) : wx z 3 152 0 [(0, .inr (.inr (.ref 45))), (1, .inl (a1))] [] σ (fun v σ' => v = none ∧ sg_F [46, 56, 57, 58, 59, 60, 9045, 11045, 24045] σ σ' ∧ Q σ') := by
  unfold V_nOpen at w
  refine wk_b tt_152 4 (pc' := 8) (ls' := [(0, .inr (.inr (.ref 45))), (1, .inl (a1))]) (st' := [.inl (a1), .inr (.inr (.ref 13))]) (σ' := σ) rfl ?_
  refine wk_callp tt_152 rfl rfl rfl rfl rfl tt_5 rfl (by decide) (at_i0 z σ 13 200 (a1) rfl (by decide) ra1) ?_
  show wx z 3 152 11 [(0, .inr (.inr (.ref 45))), (1, .inl (a1))] [.inl ((sx_at σ 13 200 (a1)))] σ (fun v σ' => v = none ∧ sg_F [46, 56, 57, 58, 59, 60, 9045, 11045, 24045] σ σ' ∧ Q σ')
  obtain ⟨c1, w⟩ := w
  refine wk_b tt_152 8 (pc' := 23) (ls' := [(2, .inl ((sx_at σ 13 200 (a1)))), (0, .inr (.inr (.ref 45))), (1, .inl (a1))]) (st' := [.inl (((sg_g σ 45 7) - (sx_at σ 13 200 (a1)))), .inr (.inr (.ref 48)), .inr (.inr (.ref 45))]) (σ' := σ) rfl ?_
  refine wk_callp tt_152 rfl rfl rfl rfl rfl tt_5 rfl (by decide) (at_i0 z σ 48 3200 (((sg_g σ 45 7) - (sx_at σ 13 200 (a1)))) rfl (by decide) c1) ?_
  show wx z 3 152 26 [(2, .inl ((sx_at σ 13 200 (a1)))), (0, .inr (.inr (.ref 45))), (1, .inl (a1))] [.inl ((sx_at σ 48 3200 (((sg_g σ 45 7) - (sx_at σ 13 200 (a1)))))), .inr (.inr (.ref 45))] σ (fun v σ' => v = none ∧ sg_F [46, 56, 57, 58, 59, 60, 9045, 11045, 24045] σ σ' ∧ Q σ')
  refine wk_callp tt_152 rfl rfl rfl rfl rfl tt_149 rfl (by decide) (w_nLengthOf z σ ((sx_at σ 48 3200 (((sg_g σ 45 7) - (sx_at σ 13 200 (a1)))))) (sx_R ..) ) ?_
  have r2 := vr_nLengthOf σ  ((sx_at σ 48 3200 (((sg_g σ 45 7) - (sx_at σ 13 200 (a1)))))) (sx_R ..) 
  refine wk_b tt_152 3 (pc' := 33) (ls' := [(4, .inl (1)), (3, .inl ((v_nLengthOf σ ((sx_at σ 48 3200 (((sg_g σ 45 7) - (sx_at σ 13 200 (a1))))))))), (2, .inl ((sx_at σ 13 200 (a1)))), (0, .inr (.inr (.ref 45))), (1, .inl (a1))]) (st' := []) (σ' := σ) rfl ?_
  obtain ⟨I6, X8, ⟨μ7, w13⟩, w14, w15⟩ := w
  have ex17 : ∀ (σ4 : sg_S), sg_F [11045] σ σ4 → X8 σ4 → wx z 3 152 81 [(0, .inr (.inr (.ref 45))), (1, .inl (a1)), (3, .inl ((v_nLengthOf σ ((sx_at σ 48 3200 (((sg_g σ 45 7) - (sx_at σ 13 200 (a1)))))))))] [] σ4 (fun v σ' => v = none ∧ sg_F [46, 56, 57, 58, 59, 60, 9045, 11045, 24045] σ σ' ∧ Q σ') := by
    intro σ4 hF5 w
    have w := w15 σ4 hF5 w
    refine wk_b tt_152 5 (pc' := 90) (ls' := [(0, .inr (.inr (.ref 45))), (1, .inl (a1)), (3, .inl ((v_nLengthOf σ ((sx_at σ 48 3200 (((sg_g σ 45 7) - (sx_at σ 13 200 (a1)))))))))]) (st' := [.inl ((sg_g σ4 45 7)), .inl (a1), .inr (.inr (.ref 56))]) (σ' := σ4) rfl ?_
    rw [show (sg_g σ4 45 7) = (sg_g σ 45 7) from by rw [sg_F_g hF5 rfl]]
    refine wk_callp tt_152 rfl rfl rfl rfl rfl tt_21 rfl (by decide) (pt_i0 z σ4 56 200 (a1) ((sg_g σ 45 7)) rfl (by decide) ra1) ?_
    show wx z 3 152 93 [(0, .inr (.inr (.ref 45))), (1, .inl (a1)), (3, .inl ((v_nLengthOf σ ((sx_at σ 48 3200 (((sg_g σ 45 7) - (sx_at σ 13 200 (a1)))))))))] [] (sx_put σ4 56 200 (a1) ((sg_g σ 45 7))) (fun v σ' => v = none ∧ sg_F [46, 56, 57, 58, 59, 60, 9045, 11045, 24045] σ σ' ∧ Q σ')
    generalize hs19 : (sx_put σ4 56 200 (a1) ((sg_g σ 45 7))) = σ18
    have w := w σ18 hs19.symm
    have hF20 : sg_F [56] σ4 σ18 := by rw [← hs19]; exact sg_F_p (sg_F_r _ _) rfl _ _ _
    refine wk_b tt_152 4 (pc' := 99) (ls' := [(0, .inr (.inr (.ref 45))), (1, .inl (a1)), (3, .inl ((v_nLengthOf σ ((sx_at σ 48 3200 (((sg_g σ 45 7) - (sx_at σ 13 200 (a1)))))))))]) (st' := [.inl ((v_nLengthOf σ ((sx_at σ 48 3200 (((sg_g σ 45 7) - (sx_at σ 13 200 (a1)))))))), .inl (a1), .inr (.inr (.ref 58))]) (σ' := σ18) rfl ?_
    refine wk_callp tt_152 rfl rfl rfl rfl rfl tt_21 rfl (by decide) (pt_i0 z σ18 58 200 (a1) ((v_nLengthOf σ ((sx_at σ 48 3200 (((sg_g σ 45 7) - (sx_at σ 13 200 (a1)))))))) rfl (by decide) ra1) ?_
    show wx z 3 152 102 [(0, .inr (.inr (.ref 45))), (1, .inl (a1)), (3, .inl ((v_nLengthOf σ ((sx_at σ 48 3200 (((sg_g σ 45 7) - (sx_at σ 13 200 (a1)))))))))] [] (sx_put σ18 58 200 (a1) ((v_nLengthOf σ ((sx_at σ 48 3200 (((sg_g σ 45 7) - (sx_at σ 13 200 (a1))))))))) (fun v σ' => v = none ∧ sg_F [46, 56, 57, 58, 59, 60, 9045, 11045, 24045] σ σ' ∧ Q σ')
    generalize hs22 : (sx_put σ18 58 200 (a1) ((v_nLengthOf σ ((sx_at σ 48 3200 (((sg_g σ 45 7) - (sx_at σ 13 200 (a1))))))))) = σ21
    have w := w σ21 hs22.symm
    have hF23 : sg_F [58] σ18 σ21 := by rw [← hs22]; exact sg_F_p (sg_F_r _ _) rfl _ _ _
    refine wk_b tt_152 4 (pc' := 108) (ls' := [(0, .inr (.inr (.ref 45))), (1, .inl (a1)), (3, .inl ((v_nLengthOf σ ((sx_at σ 48 3200 (((sg_g σ 45 7) - (sx_at σ 13 200 (a1)))))))))]) (st' := [.inl (0), .inl (a1), .inr (.inr (.ref 57))]) (σ' := σ21) rfl ?_
    refine wk_callp tt_152 rfl rfl rfl rfl rfl tt_21 rfl (by decide) (pt_i0 z σ21 57 200 (a1) (0) rfl (by decide) ra1) ?_
    show wx z 3 152 111 [(0, .inr (.inr (.ref 45))), (1, .inl (a1)), (3, .inl ((v_nLengthOf σ ((sx_at σ 48 3200 (((sg_g σ 45 7) - (sx_at σ 13 200 (a1)))))))))] [] (sx_put σ21 57 200 (a1) (0)) (fun v σ' => v = none ∧ sg_F [46, 56, 57, 58, 59, 60, 9045, 11045, 24045] σ σ' ∧ Q σ')
    generalize hs25 : (sx_put σ21 57 200 (a1) (0)) = σ24
    have w := w σ24 hs25.symm
    have hF26 : sg_F [57] σ21 σ24 := by rw [← hs25]; exact sg_F_p (sg_F_r _ _) rfl _ _ _
    refine wk_b tt_152 5 (pc' := 120) (ls' := [(0, .inr (.inr (.ref 45))), (1, .inl (a1)), (3, .inl ((v_nLengthOf σ ((sx_at σ 48 3200 (((sg_g σ 45 7) - (sx_at σ 13 200 (a1)))))))))]) (st' := [.inl ((sg_g σ24 45 23)), .inl (a1), .inr (.inr (.ref 59))]) (σ' := σ24) rfl ?_
    rw [show (sg_g σ24 45 23) = (sg_g σ 45 23) from by rw [sg_F_ga hF26 rfl, sg_F_ga hF23 rfl, sg_F_ga hF20 rfl, sg_F_g hF5 rfl]]
    refine wk_callp tt_152 rfl rfl rfl rfl rfl tt_21 rfl (by decide) (pt_i0 z σ24 59 200 (a1) ((sg_g σ 45 23)) rfl (by decide) ra1) ?_
    show wx z 3 152 123 [(0, .inr (.inr (.ref 45))), (1, .inl (a1)), (3, .inl ((v_nLengthOf σ ((sx_at σ 48 3200 (((sg_g σ 45 7) - (sx_at σ 13 200 (a1)))))))))] [] (sx_put σ24 59 200 (a1) ((sg_g σ 45 23))) (fun v σ' => v = none ∧ sg_F [46, 56, 57, 58, 59, 60, 9045, 11045, 24045] σ σ' ∧ Q σ')
    generalize hs28 : (sx_put σ24 59 200 (a1) ((sg_g σ 45 23))) = σ27
    have w := w σ27 hs28.symm
    have hF29 : sg_F [59] σ24 σ27 := by rw [← hs28]; exact sg_F_p (sg_F_r _ _) rfl _ _ _
    refine wk_b tt_152 4 (pc' := 129) (ls' := [(0, .inr (.inr (.ref 45))), (1, .inl (a1)), (3, .inl ((v_nLengthOf σ ((sx_at σ 48 3200 (((sg_g σ 45 7) - (sx_at σ 13 200 (a1)))))))))]) (st' := [.inl (0), .inl (a1), .inr (.inr (.ref 60))]) (σ' := σ27) rfl ?_
    refine wk_callp tt_152 rfl rfl rfl rfl rfl tt_21 rfl (by decide) (pt_i0 z σ27 60 200 (a1) (0) rfl (by decide) ra1) ?_
    show wx z 3 152 132 [(0, .inr (.inr (.ref 45))), (1, .inl (a1)), (3, .inl ((v_nLengthOf σ ((sx_at σ 48 3200 (((sg_g σ 45 7) - (sx_at σ 13 200 (a1)))))))))] [] (sx_put σ27 60 200 (a1) (0)) (fun v σ' => v = none ∧ sg_F [46, 56, 57, 58, 59, 60, 9045, 11045, 24045] σ σ' ∧ Q σ')
    generalize hs31 : (sx_put σ27 60 200 (a1) (0)) = σ30
    have w := w σ30 hs31.symm
    have hF32 : sg_F [60] σ27 σ30 := by rw [← hs31]; exact sg_F_p (sg_F_r _ _) rfl _ _ _
    refine wk_b tt_152 2 (pc' := 134) (ls' := [(0, .inr (.inr (.ref 45))), (1, .inl (a1)), (3, .inl ((v_nLengthOf σ ((sx_at σ 48 3200 (((sg_g σ 45 7) - (sx_at σ 13 200 (a1)))))))))]) (st' := [.inl (a1), .inr (.inr (.ref 45))]) (σ' := σ30) rfl ?_
    refine wk_call tt_152 rfl rfl rfl rfl rfl tt_165 rfl (by decide) (w_nVisit z σ30 (a1) _ ra1 w) (fun u38 σ34 hq36 => ?_)
    obtain ⟨rfl, hF35, w⟩ := hq36
    have w := w hF35
    exact wk_rV tt_152 rfl rfl ⟨rfl, (sg_F_t (sg_F_t (sg_F_t (sg_F_t (sg_F_t (sg_F_t (sg_F_t (sg_F_r [46, 56, 57, 58, 59, 60, 9045, 11045, 24045] σ) (sg_F_m (L := [46, 56, 57, 58, 59, 60, 9045, 11045, 24045]) hF5 rfl)) (sg_F_m (L := [46, 56, 57, 58, 59, 60, 9045, 11045, 24045]) hF20 rfl)) (sg_F_m (L := [46, 56, 57, 58, 59, 60, 9045, 11045, 24045]) hF23 rfl)) (sg_F_m (L := [46, 56, 57, 58, 59, 60, 9045, 11045, 24045]) hF26 rfl)) (sg_F_m (L := [46, 56, 57, 58, 59, 60, 9045, 11045, 24045]) hF29 rfl)) (sg_F_m (L := [46, 56, 57, 58, 59, 60, 9045, 11045, 24045]) hF32 rfl)) (sg_F_m (L := [46, 56, 57, 58, 59, 60, 9045, 11045, 24045]) hF35 rfl)), w⟩
  have lp12 : ∀ (n16 : Nat) (v3 : Int) (σ4 : sg_S), sg_R v3 → sg_F [11045] σ σ4 → I6 n16 v3 σ4 → wx z 3 152 33 [(0, .inr (.inr (.ref 45))), (1, .inl (a1)), (2, .inl ((sx_at σ 13 200 (a1)))), (3, .inl ((v_nLengthOf σ ((sx_at σ 48 3200 (((sg_g σ 45 7) - (sx_at σ 13 200 (a1))))))))), (4, .inl (v3))] [] σ4 (fun v σ' => v = none ∧ sg_F [46, 56, 57, 58, 59, 60, 9045, 11045, 24045] σ σ' ∧ Q σ') := by
    intro n16
    induction n16 using Nat.strongRecOn with
    | _ n16 ih10 =>
      intro v3 σ4 r9 hF5 w
      have w := w14 n16 v3 σ4 r9 hF5 w
      refine wk_b tt_152 2 (pc' := 36) (ls' := [(0, .inr (.inr (.ref 45))), (1, .inl (a1)), (2, .inl ((sx_at σ 13 200 (a1)))), (3, .inl ((v_nLengthOf σ ((sx_at σ 48 3200 (((sg_g σ 45 7) - (sx_at σ 13 200 (a1))))))))), (4, .inl (v3))]) (st' := [.inl ((sx_at σ 13 200 (a1))), .inl (v3)]) (σ' := σ4) rfl ?_
      refine wk_if2 tt_152 (tgt := 81) rfl rfl r9 (sx_R ..) (fun (h39 : (sx_at σ 13 200 (a1)) ≤ v3) => ?_) (fun (h39 : v3 < (sx_at σ 13 200 (a1))) => ?_)
      ·
        have w := w.1 h39
        exact wk_ls [(0, .inr (.inr (.ref 45))), (1, .inl (a1)), (3, .inl ((v_nLengthOf σ ((sx_at σ 48 3200 (((sg_g σ 45 7) - (sx_at σ 13 200 (a1)))))))))] rfl ⟨rfl, rfl, rfl, trivial⟩ (ex17  σ4  (sg_F_t (sg_F_r [11045] σ) (sg_F_m (L := [11045]) hF5 rfl)) w)
      ·
        have w := w.2 h39
        refine wk_b tt_152 2 (pc' := 42) (ls' := [(0, .inr (.inr (.ref 45))), (1, .inl (a1)), (2, .inl ((sx_at σ 13 200 (a1)))), (3, .inl ((v_nLengthOf σ ((sx_at σ 48 3200 (((sg_g σ 45 7) - (sx_at σ 13 200 (a1))))))))), (4, .inl (v3))]) (st' := [.inl (4), .inl (v3)]) (σ' := σ4) rfl ?_
        refine wk_if2 tt_152 (tgt := 81) rfl rfl r9 (by decide) (fun (h40 : 4 ≤ v3) => ?_) (fun (h40 : v3 < 4) => ?_)
        ·
          have w := w.1 h40
          exact wk_ls [(0, .inr (.inr (.ref 45))), (1, .inl (a1)), (3, .inl ((v_nLengthOf σ ((sx_at σ 48 3200 (((sg_g σ 45 7) - (sx_at σ 13 200 (a1)))))))))] rfl ⟨rfl, rfl, rfl, trivial⟩ (ex17  σ4  (sg_F_t (sg_F_r [11045] σ) (sg_F_m (L := [11045]) hF5 rfl)) w)
        ·
          have w := w.2 h40
          obtain ⟨c41, w⟩ := w
          refine wk_b tt_152 9 (pc' := 59) (ls' := [(0, .inr (.inr (.ref 45))), (1, .inl (a1)), (2, .inl ((sx_at σ 13 200 (a1)))), (3, .inl ((v_nLengthOf σ ((sx_at σ 48 3200 (((sg_g σ 45 7) - (sx_at σ 13 200 (a1))))))))), (4, .inl (v3))]) (st' := [.inl ((((sg_g σ4 45 7) - (sx_at σ 13 200 (a1))) + v3)), .inr (.inr (.ref 48)), .inr (.inr (.ref 45))]) (σ' := σ4) rfl ?_
          rw [show (sg_g σ4 45 7) = (sg_g σ 45 7) from by rw [sg_F_g hF5 rfl]]
          refine wk_callp tt_152 rfl rfl rfl rfl rfl tt_5 rfl (by decide) (at_i0 z σ4 48 3200 ((((sg_g σ 45 7) - (sx_at σ 13 200 (a1))) + v3)) rfl (by decide) c41) ?_
          show wx z 3 152 62 [(0, .inr (.inr (.ref 45))), (1, .inl (a1)), (2, .inl ((sx_at σ 13 200 (a1)))), (3, .inl ((v_nLengthOf σ ((sx_at σ 48 3200 (((sg_g σ 45 7) - (sx_at σ 13 200 (a1))))))))), (4, .inl (v3))] [.inl ((sx_at σ4 48 3200 ((((sg_g σ 45 7) - (sx_at σ 13 200 (a1))) + v3)))), .inr (.inr (.ref 45))] σ4 (fun v σ' => v = none ∧ sg_F [46, 56, 57, 58, 59, 60, 9045, 11045, 24045] σ σ' ∧ Q σ')
          rw [sx_F (a := 48) (n := 3200) (i := ((((sg_g σ 45 7) - (sx_at σ 13 200 (a1))) + v3))) hF5 rfl]
          refine wk_callp tt_152 rfl rfl rfl rfl rfl tt_149 rfl (by decide) (w_nLengthOf z σ4 ((sx_at σ 48 3200 ((((sg_g σ 45 7) - (sx_at σ 13 200 (a1))) + v3)))) (sx_R ..) ) ?_
          rw [vF_nLengthOf hF5 rfl]
          have r42 := vr_nLengthOf σ  ((sx_at σ 48 3200 ((((sg_g σ 45 7) - (sx_at σ 13 200 (a1))) + v3)))) (sx_R ..) 
          refine wk_b tt_152 1 (pc' := 66) (ls' := [(0, .inr (.inr (.ref 45))), (1, .inl (a1)), (2, .inl ((sx_at σ 13 200 (a1)))), (3, .inl ((v_nLengthOf σ ((sx_at σ 48 3200 (((sg_g σ 45 7) - (sx_at σ 13 200 (a1))))))))), (4, .inl (v3))]) (st' := [.inl ((v_nLengthOf σ ((sx_at σ 48 3200 (((sg_g σ 45 7) - (sx_at σ 13 200 (a1)))))))), .inl ((v_nLengthOf σ ((sx_at σ 48 3200 ((((sg_g σ 45 7) - (sx_at σ 13 200 (a1))) + v3))))))]) (σ' := σ4) rfl ?_
          refine wk_if2 tt_152 (tgt := 75) rfl rfl r42 r2 (fun (h43 : (v_nLengthOf σ ((sx_at σ 48 3200 ((((sg_g σ 45 7) - (sx_at σ 13 200 (a1))) + v3))))) = (v_nLengthOf σ ((sx_at σ 48 3200 (((sg_g σ 45 7) - (sx_at σ 13 200 (a1)))))))) => ?_) (fun (h43 : ¬ (v_nLengthOf σ ((sx_at σ 48 3200 ((((sg_g σ 45 7) - (sx_at σ 13 200 (a1))) + v3))))) = (v_nLengthOf σ ((sx_at σ 48 3200 (((sg_g σ 45 7) - (sx_at σ 13 200 (a1)))))))) => ?_)
          ·
            have w := w.1 h43
            obtain ⟨c44, w⟩ := w
            refine wk_b tt_152 2 (pc' := 33) (ls' := [(4, .inl ((v3 + 1))), (0, .inr (.inr (.ref 45))), (1, .inl (a1)), (2, .inl ((sx_at σ 13 200 (a1)))), (3, .inl ((v_nLengthOf σ ((sx_at σ 48 3200 (((sg_g σ 45 7) - (sx_at σ 13 200 (a1)))))))))]) (st' := []) (σ' := σ4) rfl ?_
            obtain ⟨m45, hm45, w⟩ := w
            exact wk_ls [(0, .inr (.inr (.ref 45))), (1, .inl (a1)), (2, .inl ((sx_at σ 13 200 (a1)))), (3, .inl ((v_nLengthOf σ ((sx_at σ 48 3200 (((sg_g σ 45 7) - (sx_at σ 13 200 (a1))))))))), (4, .inl ((v3 + 1)))] rfl ⟨rfl, rfl, rfl, rfl, rfl, trivial⟩ (ih10 m45 hm45 ((v3 + 1)) σ4 c44 (sg_F_t (sg_F_r [11045] σ) (sg_F_m (L := [11045]) hF5 rfl)) w)
          ·
            have w := w.2 h43
            refine wk_b tt_152 3 (pc' := 74) (ls' := [(0, .inr (.inr (.ref 45))), (1, .inl (a1)), (2, .inl ((sx_at σ 13 200 (a1)))), (3, .inl ((v_nLengthOf σ ((sx_at σ 48 3200 (((sg_g σ 45 7) - (sx_at σ 13 200 (a1))))))))), (4, .inl (v3))]) (st' := []) (σ' := (sg_w σ4 45 10 (3))) rfl ?_
            generalize hs47 : (sg_w σ4 45 10 (3)) = σ46
            have w := w σ46 hs47.symm
            have hF48 : sg_F [11045] σ4 σ46 := by rw [← hs47]; exact sg_F_w (sg_F_r _ _) rfl _
            exact wk_rV tt_152 rfl rfl ⟨rfl, (sg_F_t (sg_F_t (sg_F_r [46, 56, 57, 58, 59, 60, 9045, 11045, 24045] σ) (sg_F_m (L := [46, 56, 57, 58, 59, 60, 9045, 11045, 24045]) hF5 rfl)) (sg_F_m (L := [46, 56, 57, 58, 59, 60, 9045, 11045, 24045]) hF48 rfl)), w⟩
  exact wk_ls [(0, .inr (.inr (.ref 45))), (1, .inl (a1)), (2, .inl ((sx_at σ 13 200 (a1)))), (3, .inl ((v_nLengthOf σ ((sx_at σ 48 3200 (((sg_g σ 45 7) - (sx_at σ 13 200 (a1))))))))), (4, .inl (1))] rfl ⟨rfl, rfl, rfl, rfl, rfl, trivial⟩ (lp12 μ7 (1) σ (by decide) (sg_F_r _ _) w13)
-- NestedVectors$NestedRun.pack
def V_nPack (σ : sg_S) (a1 : Int) (a2 : Int) (Q : sg_S → Prop) : Prop := (((v_nLengthOf σ (a1)) = (v_nLengthOf σ (a2)) → (∃ (I7 : Nat → Int → sg_S → Prop) (X9 : sg_S → Prop), (∃ n, I7 n (0) σ) ∧ (∀ (n17 : Nat) (v4 : Int) (σ5 : sg_S), sg_R v4 → sg_F [54, 22045] σ σ5 → I7 n17 v4 σ5 → (((v_nLengthOf σ (a1)) ≤ v4 → X9 σ5) ∧ (v4 < (v_nLengthOf σ (a1)) → p_nItemOf σ (a2) (v4) ∧ (∃ P31 : sg_S → Prop, (((v_nItemOf σ (a2) (v4)) = 0 → P31 σ5) ∧ (¬ (v_nItemOf σ (a2) (v4)) = 0 → p_nItemOf σ (a1) (v4) ∧ V_nAdd σ5 ((v_nItemOf σ (a1) (v4))) (fun σ40 => sg_F [54, 22045] σ5 σ40 → P31 σ40))) ∧ (∀ (σ32 : sg_S), sg_F [54, 22045] σ5 σ32 → P31 σ32 → sg_R (v4 + 1) ∧ (∃ m, m < n17 ∧ I7 m ((v4 + 1)) σ32)))))) ∧ (∀ (σ5 : sg_S), sg_F [54, 22045] σ σ5 → X9 σ5 → V_nGive σ5  (fun σ20 => sg_F [48, 53, 8045, 11045, 21045, 22045, 23045] σ5 σ20 → Q σ20)))) ∧ (¬ (v_nLengthOf σ (a1)) = (v_nLengthOf σ (a2)) → ∀ σ45, σ45 = (sg_w σ 45 10 (3)) → Q σ45))
set_option maxHeartbeats 4000000 in
set_option maxRecDepth 8000 in
theorem w_nPack (z : Value) (σ : sg_S) (a1 : Int) (a2 : Int) (Q : sg_S → Prop) (ra1 : sg_R a1) (ra2 : sg_R a2) (w : V_nPack σ a1 a2 Q) : wx z 3 153 0 [(0, .inr (.inr (.ref 45))), (1, .inl (a1)), (2, .inl (a2))] [] σ (fun v σ' => v = none ∧ sg_F [48, 53, 54, 8045, 11045, 21045, 22045, 23045] σ σ' ∧ Q σ') := by
  unfold V_nPack at w
  refine wk_b tt_153 2 (pc' := 2) (ls' := [(0, .inr (.inr (.ref 45))), (1, .inl (a1)), (2, .inl (a2))]) (st' := [.inl (a1), .inr (.inr (.ref 45))]) (σ' := σ) rfl ?_
  refine wk_callp tt_153 rfl rfl rfl rfl rfl tt_149 rfl (by decide) (w_nLengthOf z σ (a1) ra1 ) ?_
  have r1 := vr_nLengthOf σ  (a1) ra1 
  refine wk_b tt_153 2 (pc' := 7) (ls' := [(0, .inr (.inr (.ref 45))), (1, .inl (a1)), (2, .inl (a2))]) (st' := [.inl (a2), .inr (.inr (.ref 45)), .inl ((v_nLengthOf σ (a1)))]) (σ' := σ) rfl ?_
  refine wk_callp tt_153 rfl rfl rfl rfl rfl tt_149 rfl (by decide) (w_nLengthOf z σ (a2) ra2 ) ?_
  have r2 := vr_nLengthOf σ  (a2) ra2 
  refine wk_if2 tt_153 (tgt := 19) rfl rfl r1 r2 (fun (h3 : (v_nLengthOf σ (a1)) = (v_nLengthOf σ (a2))) => ?_) (fun (h3 : ¬ (v_nLengthOf σ (a1)) = (v_nLengthOf σ (a2))) => ?_)
  ·
    have w := w.1 h3
    refine wk_b tt_153 2 (pc' := 21) (ls' := [(3, .inl (0)), (0, .inr (.inr (.ref 45))), (1, .inl (a1)), (2, .inl (a2))]) (st' := []) (σ' := σ) rfl ?_
    obtain ⟨I7, X9, ⟨μ8, w14⟩, w15, w16⟩ := w
    have ex18 : ∀ (σ5 : sg_S), sg_F [54, 22045] σ σ5 → X9 σ5 → wx z 3 153 55 [(0, .inr (.inr (.ref 45)))] [] σ5 (fun v σ' => v = none ∧ sg_F [48, 53, 54, 8045, 11045, 21045, 22045, 23045] σ σ' ∧ Q σ') := by
      intro σ5 hF6 w
      have w := w16 σ5 hF6 w
      refine wk_b tt_153 1 (pc' := 56) (ls' := [(0, .inr (.inr (.ref 45)))]) (st' := [.inr (.inr (.ref 45))]) (σ' := σ5) rfl ?_
      refine wk_call tt_153 rfl rfl rfl rfl rfl tt_144 rfl (by decide) (w_nGive z σ5  _  w) (fun u24 σ20 hq22 => ?_)
      obtain ⟨rfl, hF21, w⟩ := hq22
      have w := w hF21
      exact wk_rV tt_153 rfl rfl ⟨rfl, (sg_F_t (sg_F_t (sg_F_r [48, 53, 54, 8045, 11045, 21045, 22045, 23045] σ) (sg_F_m (L := [48, 53, 54, 8045, 11045, 21045, 22045, 23045]) hF6 rfl)) (sg_F_m (L := [48, 53, 54, 8045, 11045, 21045, 22045, 23045]) hF21 rfl)), w⟩
    have lp13 : ∀ (n17 : Nat) (v4 : Int) (σ5 : sg_S), sg_R v4 → sg_F [54, 22045] σ σ5 → I7 n17 v4 σ5 → wx z 3 153 21 [(0, .inr (.inr (.ref 45))), (1, .inl (a1)), (2, .inl (a2)), (3, .inl (v4))] [] σ5 (fun v σ' => v = none ∧ sg_F [48, 53, 54, 8045, 11045, 21045, 22045, 23045] σ σ' ∧ Q σ') := by
      intro n17
      induction n17 using Nat.strongRecOn with
      | _ n17 ih11 =>
        intro v4 σ5 r10 hF6 w
        have w := w15 n17 v4 σ5 r10 hF6 w
        refine wk_b tt_153 3 (pc' := 24) (ls' := [(0, .inr (.inr (.ref 45))), (1, .inl (a1)), (2, .inl (a2)), (3, .inl (v4))]) (st' := [.inl (a1), .inr (.inr (.ref 45)), .inl (v4)]) (σ' := σ5) rfl ?_
        refine wk_callp tt_153 rfl rfl rfl rfl rfl tt_149 rfl (by decide) (w_nLengthOf z σ5 (a1) ra1 ) ?_
        rw [vF_nLengthOf hF6 rfl]
        have r25 := vr_nLengthOf σ  (a1) ra1 
        refine wk_if2 tt_153 (tgt := 55) rfl rfl r10 r25 (fun (h26 : (v_nLengthOf σ (a1)) ≤ v4) => ?_) (fun (h26 : v4 < (v_nLengthOf σ (a1))) => ?_)
        ·
          have w := w.1 h26
          exact wk_ls [(0, .inr (.inr (.ref 45)))] rfl ⟨rfl, trivial⟩ (ex18  σ5  (sg_F_t (sg_F_r [54, 22045] σ) (sg_F_m (L := [54, 22045]) hF6 rfl)) w)
        ·
          have w := w.2 h26
          refine wk_b tt_153 3 (pc' := 33) (ls' := [(0, .inr (.inr (.ref 45))), (1, .inl (a1)), (2, .inl (a2)), (3, .inl (v4))]) (st' := [.inl (v4), .inl (a2), .inr (.inr (.ref 45))]) (σ' := σ5) rfl ?_
          obtain ⟨c27, w⟩ := w
          have c27 : p_nItemOf σ5 (a2) (v4) := by
            rw [pF_nItemOf hF6 rfl]; exact c27
          refine wk_callp tt_153 rfl rfl rfl rfl rfl tt_145 rfl (by decide) (w_nItemOf z σ5 (a2) (v4) ra2 r10 c27) ?_
          rw [vF_nItemOf hF6 rfl]
          have r28 := vr_nItemOf σ  (a2) (v4) ra2 r10 (by have q := c27; rw [pF_nItemOf hF6 rfl] at q; exact q)
          obtain ⟨P31, w, w34⟩ := w
          have jn30 : ∀ (σ32 : sg_S), sg_F [54, 22045] σ5 σ32 → P31 σ32 → wx z 3 153 49 [(0, .inr (.inr (.ref 45))), (1, .inl (a1)), (2, .inl (a2)), (3, .inl (v4))] [] σ32 (fun v σ' => v = none ∧ sg_F [48, 53, 54, 8045, 11045, 21045, 22045, 23045] σ σ' ∧ Q σ') := by
            intro σ32 hF33 w
            have w := w34 σ32 hF33 w
            obtain ⟨c35, w⟩ := w
            refine wk_b tt_153 2 (pc' := 21) (ls' := [(3, .inl ((v4 + 1))), (0, .inr (.inr (.ref 45))), (1, .inl (a1)), (2, .inl (a2))]) (st' := []) (σ' := σ32) rfl ?_
            obtain ⟨m36, hm36, w⟩ := w
            exact wk_ls [(0, .inr (.inr (.ref 45))), (1, .inl (a1)), (2, .inl (a2)), (3, .inl ((v4 + 1)))] rfl ⟨rfl, rfl, rfl, rfl, trivial⟩ (ih11 m36 hm36 ((v4 + 1)) σ32 c35 (sg_F_t (sg_F_t (sg_F_r [54, 22045] σ) (sg_F_m (L := [54, 22045]) hF6 rfl)) (sg_F_m (L := [54, 22045]) hF33 rfl)) w)
          refine wk_if tt_153 (tgt := 49) rfl rfl r28 (fun (h29 : (v_nItemOf σ (a2) (v4)) = 0) => ?_) (fun (h29 : ¬ (v_nItemOf σ (a2) (v4)) = 0) => ?_)
          ·
            have w := w.1 h29
            exact wk_ls [(0, .inr (.inr (.ref 45))), (1, .inl (a1)), (2, .inl (a2)), (3, .inl (v4))] rfl ⟨rfl, rfl, rfl, rfl, trivial⟩ (jn30 σ5 (sg_F_r [54, 22045] σ5) w)
          ·
            have w := w.2 h29
            refine wk_b tt_153 4 (pc' := 43) (ls' := [(0, .inr (.inr (.ref 45))), (1, .inl (a1)), (2, .inl (a2)), (3, .inl (v4))]) (st' := [.inl (v4), .inl (a1), .inr (.inr (.ref 45)), .inr (.inr (.ref 45))]) (σ' := σ5) rfl ?_
            obtain ⟨c37, w⟩ := w
            have c37 : p_nItemOf σ5 (a1) (v4) := by
              rw [pF_nItemOf hF6 rfl]; exact c37
            refine wk_callp tt_153 rfl rfl rfl rfl rfl tt_145 rfl (by decide) (w_nItemOf z σ5 (a1) (v4) ra1 r10 c37) ?_
            rw [vF_nItemOf hF6 rfl]
            have r38 := vr_nItemOf σ  (a1) (v4) ra1 r10 (by have q := c37; rw [pF_nItemOf hF6 rfl] at q; exact q)
            refine wk_call tt_153 rfl rfl rfl rfl rfl tt_129 rfl (by decide) (w_nAdd z σ5 ((v_nItemOf σ (a1) (v4))) _ r38 w) (fun u44 σ40 hq42 => ?_)
            obtain ⟨rfl, hF41, w⟩ := hq42
            have w := w hF41
            exact wk_ls [(0, .inr (.inr (.ref 45))), (1, .inl (a1)), (2, .inl (a2)), (3, .inl (v4))] rfl ⟨rfl, rfl, rfl, rfl, trivial⟩ (jn30 σ40 (sg_F_t (sg_F_r [54, 22045] σ5) (sg_F_m (L := [54, 22045]) hF41 rfl)) w)
    exact wk_ls [(0, .inr (.inr (.ref 45))), (1, .inl (a1)), (2, .inl (a2)), (3, .inl (0))] rfl ⟨rfl, rfl, rfl, rfl, trivial⟩ (lp13 μ8 (0) σ (by decide) (sg_F_r _ _) w14)
  ·
    have w := w.2 h3
    refine wk_b tt_153 3 (pc' := 18) (ls' := [(0, .inr (.inr (.ref 45))), (1, .inl (a1)), (2, .inl (a2))]) (st' := []) (σ' := (sg_w σ 45 10 (3))) rfl ?_
    generalize hs46 : (sg_w σ 45 10 (3)) = σ45
    have w := w σ45 hs46.symm
    have hF47 : sg_F [11045] σ σ45 := by rw [← hs46]; exact sg_F_w (sg_F_r _ _) rfl _
    exact wk_rV tt_153 rfl rfl ⟨rfl, (sg_F_t (sg_F_r [48, 53, 54, 8045, 11045, 21045, 22045, 23045] σ) (sg_F_m (L := [48, 53, 54, 8045, 11045, 21045, 22045, 23045]) hF47 rfl)), w⟩
-- NestedVectors.invert
def V_yInvert (σ : sg_S) (a1 : Int) (Q : Int → sg_S → Prop) : Prop := (∃ (I4 : Nat → Int → sg_S → Prop) (X6 : sg_S → Prop), (∃ n, I4 n (0) σ) ∧ (∀ (n14 : Nat) (v1 : Int) (σ2 : sg_S), sg_R v1 → sg_F [55] σ σ2 → I4 n14 v1 σ2 → ((a1 ≤ v1 → X6 σ2) ∧ (v1 < a1 → ∀ σ41, σ41 = (sx_put σ2 55 200 (v1) ((-1))) → sg_R (v1 + 1) ∧ (∃ m, m < n14 ∧ I4 m ((v1 + 1)) σ41)))) ∧ (∀ (σ2 : sg_S), sg_F [55] σ σ2 → X6 σ2 → (∃ (I19 : Nat → Int → sg_S → Prop) (X21 : sg_S → Prop), (∃ n, I19 n (0) σ2) ∧ (∀ (n29 : Nat) (v16 : Int) (σ17 : sg_S), sg_R v16 → sg_F [55] σ2 σ17 → I19 n29 v16 σ17 → ((a1 ≤ v16 → X21 σ17) ∧ (v16 < a1 → (((sx_at σ 54 200 (v16)) < 0 → Q (0) σ17) ∧ (0 ≤ (sx_at σ 54 200 (v16)) → ((a1 ≤ (sx_at σ 54 200 (v16)) → Q (0) σ17) ∧ ((sx_at σ 54 200 (v16)) < a1 → (((sx_at σ17 55 200 ((sx_at σ 54 200 (v16)))) < 0 → ∀ σ35, σ35 = (sx_put σ17 55 200 ((sx_at σ 54 200 (v16))) (v16)) → sg_R (v16 + 1) ∧ (∃ m, m < n29 ∧ I19 m ((v16 + 1)) σ35)) ∧ (0 ≤ (sx_at σ17 55 200 ((sx_at σ 54 200 (v16)))) → Q (0) σ17))))))))) ∧ (∀ (σ17 : sg_S), sg_F [55] σ2 σ17 → X21 σ17 → Q (1) σ17))))
set_option maxHeartbeats 4000000 in
set_option maxRecDepth 8000 in
theorem w_yInvert (z : Value) (σ : sg_S) (a1 : Int) (Q : Int → sg_S → Prop) (ra1 : sg_R a1) (w : V_yInvert σ a1 Q) : wx z 1 17 0 [(0, .inr (.inr (.ref 54))), (1, .inl (a1)), (2, .inr (.inr (.ref 55)))] [] σ (fun v σ' => ∃ q, v = some (.inl q) ∧ (q = 0 ∨ q = 1) ∧ sg_F [55] σ σ' ∧ Q q σ') := by
  unfold V_yInvert at w
  refine wk_b tt_17 2 (pc' := 2) (ls' := [(3, .inl (0)), (0, .inr (.inr (.ref 54))), (1, .inl (a1)), (2, .inr (.inr (.ref 55)))]) (st' := []) (σ' := σ) rfl ?_
  obtain ⟨I4, X6, ⟨μ5, w11⟩, w12, w13⟩ := w
  have ex15 : ∀ (σ2 : sg_S), sg_F [55] σ σ2 → X6 σ2 → wx z 1 17 19 [(0, .inr (.inr (.ref 54))), (1, .inl (a1)), (2, .inr (.inr (.ref 55)))] [] σ2 (fun v σ' => ∃ q, v = some (.inl q) ∧ (q = 0 ∨ q = 1) ∧ sg_F [55] σ σ' ∧ Q q σ') := by
    intro σ2 hF3 w
    have w := w13 σ2 hF3 w
    refine wk_b tt_17 2 (pc' := 21) (ls' := [(3, .inl (0)), (0, .inr (.inr (.ref 54))), (1, .inl (a1)), (2, .inr (.inr (.ref 55)))]) (st' := []) (σ' := σ2) rfl ?_
    obtain ⟨I19, X21, ⟨μ20, w26⟩, w27, w28⟩ := w
    have ex30 : ∀ (σ17 : sg_S), sg_F [55] σ2 σ17 → X21 σ17 → wx z 1 17 68 [] [] σ17 (fun v σ' => ∃ q, v = some (.inl q) ∧ (q = 0 ∨ q = 1) ∧ sg_F [55] σ σ' ∧ Q q σ') := by
      intro σ17 hF18 w
      have w := w28 σ17 hF18 w
      refine wk_b tt_17 1 (pc' := 69) (ls' := []) (st' := [.inl (1)]) (σ' := σ17) rfl ?_
      exact wk_rZ tt_17 rfl rfl (by decide) ⟨_, rfl, (by decide), (sg_F_t (sg_F_t (sg_F_r [55] σ) (sg_F_m (L := [55]) hF3 rfl)) (sg_F_m (L := [55]) hF18 rfl)), w⟩
    have lp25 : ∀ (n29 : Nat) (v16 : Int) (σ17 : sg_S), sg_R v16 → sg_F [55] σ2 σ17 → I19 n29 v16 σ17 → wx z 1 17 21 [(0, .inr (.inr (.ref 54))), (1, .inl (a1)), (2, .inr (.inr (.ref 55))), (3, .inl (v16))] [] σ17 (fun v σ' => ∃ q, v = some (.inl q) ∧ (q = 0 ∨ q = 1) ∧ sg_F [55] σ σ' ∧ Q q σ') := by
      intro n29
      induction n29 using Nat.strongRecOn with
      | _ n29 ih23 =>
        intro v16 σ17 r22 hF18 w
        have w := w27 n29 v16 σ17 r22 hF18 w
        refine wk_b tt_17 2 (pc' := 23) (ls' := [(0, .inr (.inr (.ref 54))), (1, .inl (a1)), (2, .inr (.inr (.ref 55))), (3, .inl (v16))]) (st' := [.inl (a1), .inl (v16)]) (σ' := σ17) rfl ?_
        refine wk_if2 tt_17 (tgt := 68) rfl rfl r22 ra1 (fun (h31 : a1 ≤ v16) => ?_) (fun (h31 : v16 < a1) => ?_)
        ·
          have w := w.1 h31
          exact wk_ls [] rfl trivial (ex30  σ17  (sg_F_t (sg_F_r [55] σ2) (sg_F_m (L := [55]) hF18 rfl)) w)
        ·
          have w := w.2 h31
          refine wk_b tt_17 2 (pc' := 28) (ls' := [(0, .inr (.inr (.ref 54))), (1, .inl (a1)), (2, .inr (.inr (.ref 55))), (3, .inl (v16))]) (st' := [.inl (v16), .inr (.inr (.ref 54))]) (σ' := σ17) rfl ?_
          refine wk_callp tt_17 rfl rfl rfl rfl rfl tt_5 rfl (by decide) (at_i0 z σ17 54 200 (v16) rfl (by decide) r22) ?_
          show wx z 1 17 31 [(0, .inr (.inr (.ref 54))), (1, .inl (a1)), (2, .inr (.inr (.ref 55))), (3, .inl (v16))] [.inl ((sx_at σ17 54 200 (v16)))] σ17 (fun v σ' => ∃ q, v = some (.inl q) ∧ (q = 0 ∨ q = 1) ∧ sg_F [55] σ σ' ∧ Q q σ')
          rw [sx_F (a := 54) (n := 200) (i := (v16)) hF18 rfl, sx_F (a := 54) (n := 200) (i := (v16)) hF3 rfl]
          refine wk_b tt_17 2 (pc' := 35) (ls' := [(4, .inl ((sx_at σ 54 200 (v16)))), (0, .inr (.inr (.ref 54))), (1, .inl (a1)), (2, .inr (.inr (.ref 55))), (3, .inl (v16))]) (st' := [.inl ((sx_at σ 54 200 (v16)))]) (σ' := σ17) rfl ?_
          refine wk_if tt_17 (tgt := 53) rfl rfl (sx_R ..) (fun (h32 : (sx_at σ 54 200 (v16)) < 0) => ?_) (fun (h32 : 0 ≤ (sx_at σ 54 200 (v16))) => ?_)
          ·
            have w := w.1 h32
            refine wk_b tt_17 1 (pc' := 54) (ls' := [(4, .inl ((sx_at σ 54 200 (v16)))), (0, .inr (.inr (.ref 54))), (1, .inl (a1)), (2, .inr (.inr (.ref 55))), (3, .inl (v16))]) (st' := [.inl (0)]) (σ' := σ17) rfl ?_
            exact wk_rZ tt_17 rfl rfl (by decide) ⟨_, rfl, (by decide), (sg_F_t (sg_F_t (sg_F_r [55] σ) (sg_F_m (L := [55]) hF3 rfl)) (sg_F_m (L := [55]) hF18 rfl)), w⟩
          ·
            have w := w.2 h32
            refine wk_b tt_17 2 (pc' := 41) (ls' := [(4, .inl ((sx_at σ 54 200 (v16)))), (0, .inr (.inr (.ref 54))), (1, .inl (a1)), (2, .inr (.inr (.ref 55))), (3, .inl (v16))]) (st' := [.inl (a1), .inl ((sx_at σ 54 200 (v16)))]) (σ' := σ17) rfl ?_
            refine wk_if2 tt_17 (tgt := 53) rfl rfl (sx_R ..) ra1 (fun (h33 : a1 ≤ (sx_at σ 54 200 (v16))) => ?_) (fun (h33 : (sx_at σ 54 200 (v16)) < a1) => ?_)
            ·
              have w := w.1 h33
              refine wk_b tt_17 1 (pc' := 54) (ls' := [(4, .inl ((sx_at σ 54 200 (v16)))), (0, .inr (.inr (.ref 54))), (1, .inl (a1)), (2, .inr (.inr (.ref 55))), (3, .inl (v16))]) (st' := [.inl (0)]) (σ' := σ17) rfl ?_
              exact wk_rZ tt_17 rfl rfl (by decide) ⟨_, rfl, (by decide), (sg_F_t (sg_F_t (sg_F_r [55] σ) (sg_F_m (L := [55]) hF3 rfl)) (sg_F_m (L := [55]) hF18 rfl)), w⟩
            ·
              have w := w.2 h33
              refine wk_b tt_17 2 (pc' := 47) (ls' := [(4, .inl ((sx_at σ 54 200 (v16)))), (0, .inr (.inr (.ref 54))), (1, .inl (a1)), (2, .inr (.inr (.ref 55))), (3, .inl (v16))]) (st' := [.inl ((sx_at σ 54 200 (v16))), .inr (.inr (.ref 55))]) (σ' := σ17) rfl ?_
              refine wk_callp tt_17 rfl rfl rfl rfl rfl tt_5 rfl (by decide) (at_i0 z σ17 55 200 ((sx_at σ 54 200 (v16))) rfl (by decide) (sx_R ..)) ?_
              show wx z 1 17 50 [(4, .inl ((sx_at σ 54 200 (v16)))), (0, .inr (.inr (.ref 54))), (1, .inl (a1)), (2, .inr (.inr (.ref 55))), (3, .inl (v16))] [.inl ((sx_at σ17 55 200 ((sx_at σ 54 200 (v16)))))] σ17 (fun v σ' => ∃ q, v = some (.inl q) ∧ (q = 0 ∨ q = 1) ∧ sg_F [55] σ σ' ∧ Q q σ')
              refine wk_if tt_17 (tgt := 55) rfl rfl (sx_R ..) (fun (h34 : (sx_at σ17 55 200 ((sx_at σ 54 200 (v16)))) < 0) => ?_) (fun (h34 : 0 ≤ (sx_at σ17 55 200 ((sx_at σ 54 200 (v16))))) => ?_)
              ·
                have w := w.1 h34
                refine wk_b tt_17 3 (pc' := 59) (ls' := [(4, .inl ((sx_at σ 54 200 (v16)))), (0, .inr (.inr (.ref 54))), (1, .inl (a1)), (2, .inr (.inr (.ref 55))), (3, .inl (v16))]) (st' := [.inl (v16), .inl ((sx_at σ 54 200 (v16))), .inr (.inr (.ref 55))]) (σ' := σ17) rfl ?_
                refine wk_callp tt_17 rfl rfl rfl rfl rfl tt_21 rfl (by decide) (pt_i0 z σ17 55 200 ((sx_at σ 54 200 (v16))) (v16) rfl (by decide) (sx_R ..)) ?_
                show wx z 1 17 62 [(4, .inl ((sx_at σ 54 200 (v16)))), (0, .inr (.inr (.ref 54))), (1, .inl (a1)), (2, .inr (.inr (.ref 55))), (3, .inl (v16))] [] (sx_put σ17 55 200 ((sx_at σ 54 200 (v16))) (v16)) (fun v σ' => ∃ q, v = some (.inl q) ∧ (q = 0 ∨ q = 1) ∧ sg_F [55] σ σ' ∧ Q q σ')
                generalize hs36 : (sx_put σ17 55 200 ((sx_at σ 54 200 (v16))) (v16)) = σ35
                have w := w σ35 hs36.symm
                have hF37 : sg_F [55] σ17 σ35 := by rw [← hs36]; exact sg_F_p (sg_F_r _ _) rfl _ _ _
                obtain ⟨c38, w⟩ := w
                refine wk_b tt_17 2 (pc' := 21) (ls' := [(3, .inl ((v16 + 1))), (4, .inl ((sx_at σ 54 200 (v16)))), (0, .inr (.inr (.ref 54))), (1, .inl (a1)), (2, .inr (.inr (.ref 55)))]) (st' := []) (σ' := σ35) rfl ?_
                obtain ⟨m39, hm39, w⟩ := w
                exact wk_ls [(0, .inr (.inr (.ref 54))), (1, .inl (a1)), (2, .inr (.inr (.ref 55))), (3, .inl ((v16 + 1)))] rfl ⟨rfl, rfl, rfl, rfl, trivial⟩ (ih23 m39 hm39 ((v16 + 1)) σ35 c38 (sg_F_t (sg_F_t (sg_F_r [55] σ2) (sg_F_m (L := [55]) hF18 rfl)) (sg_F_m (L := [55]) hF37 rfl)) w)
              ·
                have w := w.2 h34
                refine wk_b tt_17 1 (pc' := 54) (ls' := [(4, .inl ((sx_at σ 54 200 (v16)))), (0, .inr (.inr (.ref 54))), (1, .inl (a1)), (2, .inr (.inr (.ref 55))), (3, .inl (v16))]) (st' := [.inl (0)]) (σ' := σ17) rfl ?_
                exact wk_rZ tt_17 rfl rfl (by decide) ⟨_, rfl, (by decide), (sg_F_t (sg_F_t (sg_F_r [55] σ) (sg_F_m (L := [55]) hF3 rfl)) (sg_F_m (L := [55]) hF18 rfl)), w⟩
    exact wk_ls [(0, .inr (.inr (.ref 54))), (1, .inl (a1)), (2, .inr (.inr (.ref 55))), (3, .inl (0))] rfl ⟨rfl, rfl, rfl, rfl, trivial⟩ (lp25 μ20 (0) σ2 (by decide) (sg_F_r _ _) w26)
  have lp10 : ∀ (n14 : Nat) (v1 : Int) (σ2 : sg_S), sg_R v1 → sg_F [55] σ σ2 → I4 n14 v1 σ2 → wx z 1 17 2 [(0, .inr (.inr (.ref 54))), (1, .inl (a1)), (2, .inr (.inr (.ref 55))), (3, .inl (v1))] [] σ2 (fun v σ' => ∃ q, v = some (.inl q) ∧ (q = 0 ∨ q = 1) ∧ sg_F [55] σ σ' ∧ Q q σ') := by
    intro n14
    induction n14 using Nat.strongRecOn with
    | _ n14 ih8 =>
      intro v1 σ2 r7 hF3 w
      have w := w12 n14 v1 σ2 r7 hF3 w
      refine wk_b tt_17 2 (pc' := 4) (ls' := [(0, .inr (.inr (.ref 54))), (1, .inl (a1)), (2, .inr (.inr (.ref 55))), (3, .inl (v1))]) (st' := [.inl (a1), .inl (v1)]) (σ' := σ2) rfl ?_
      refine wk_if2 tt_17 (tgt := 19) rfl rfl r7 ra1 (fun (h40 : a1 ≤ v1) => ?_) (fun (h40 : v1 < a1) => ?_)
      ·
        have w := w.1 h40
        exact wk_ls [(0, .inr (.inr (.ref 54))), (1, .inl (a1)), (2, .inr (.inr (.ref 55)))] rfl ⟨rfl, rfl, rfl, trivial⟩ (ex15  σ2  (sg_F_t (sg_F_r [55] σ) (sg_F_m (L := [55]) hF3 rfl)) w)
      ·
        have w := w.2 h40
        refine wk_b tt_17 3 (pc' := 10) (ls' := [(0, .inr (.inr (.ref 54))), (1, .inl (a1)), (2, .inr (.inr (.ref 55))), (3, .inl (v1))]) (st' := [.inl ((-1)), .inl (v1), .inr (.inr (.ref 55))]) (σ' := σ2) rfl ?_
        refine wk_callp tt_17 rfl rfl rfl rfl rfl tt_21 rfl (by decide) (pt_i0 z σ2 55 200 (v1) ((-1)) rfl (by decide) r7) ?_
        show wx z 1 17 13 [(0, .inr (.inr (.ref 54))), (1, .inl (a1)), (2, .inr (.inr (.ref 55))), (3, .inl (v1))] [] (sx_put σ2 55 200 (v1) ((-1))) (fun v σ' => ∃ q, v = some (.inl q) ∧ (q = 0 ∨ q = 1) ∧ sg_F [55] σ σ' ∧ Q q σ')
        generalize hs42 : (sx_put σ2 55 200 (v1) ((-1))) = σ41
        have w := w σ41 hs42.symm
        have hF43 : sg_F [55] σ2 σ41 := by rw [← hs42]; exact sg_F_p (sg_F_r _ _) rfl _ _ _
        obtain ⟨c44, w⟩ := w
        refine wk_b tt_17 2 (pc' := 2) (ls' := [(3, .inl ((v1 + 1))), (0, .inr (.inr (.ref 54))), (1, .inl (a1)), (2, .inr (.inr (.ref 55)))]) (st' := []) (σ' := σ41) rfl ?_
        obtain ⟨m45, hm45, w⟩ := w
        exact wk_ls [(0, .inr (.inr (.ref 54))), (1, .inl (a1)), (2, .inr (.inr (.ref 55))), (3, .inl ((v1 + 1)))] rfl ⟨rfl, rfl, rfl, rfl, trivial⟩ (ih8 m45 hm45 ((v1 + 1)) σ41 c44 (sg_F_t (sg_F_t (sg_F_r [55] σ) (sg_F_m (L := [55]) hF3 rfl)) (sg_F_m (L := [55]) hF43 rfl)) w)
  exact wk_ls [(0, .inr (.inr (.ref 54))), (1, .inl (a1)), (2, .inr (.inr (.ref 55))), (3, .inl (0))] rfl ⟨rfl, rfl, rfl, rfl, trivial⟩ (lp10 μ5 (0) σ (by decide) (sg_F_r _ _) w11)
-- NestedVectors$NestedRun.permute
