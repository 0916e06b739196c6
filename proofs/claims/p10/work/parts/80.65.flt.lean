/-! What the methods of the flat run ask for (6). -/
-- NestedVectors$FlatRun.open
def V_fOpen (σ : sg_S) (a1 : Int) (Q : sg_S → Prop) : Prop := sg_R ((sg_g σ 61 7) - (sx_at σ 13 200 (a1))) ∧ ∀ σ2, σ2 = (sg_w σ 61 7 (((sg_g σ 61 7) - (sx_at σ 13 200 (a1))))) → V_fAsLong σ2 ((sx_at σ 13 200 (a1))) (fun q5 _ => (q5 = 0 ∨ q5 = 1) → ((¬ q5 = 0 → ∀ σ12, σ12 = (sx_put σ2 70 200 (a1) ((sx_at σ 64 400 (((sg_g σ 61 7) - (sx_at σ 13 200 (a1))))))) → ∀ σ15, σ15 = (sg_w σ12 61 21 (0)) → V_fWant σ15 ((sx_at σ 8 200 (a1))) ((sx_at σ 16 200 (a1))) (fun σ19 => sg_F [74, 22061] σ15 σ19 → (∃ P26 : sg_S → Prop, (((sx_at σ 14 200 (a1)) < 0 → P26 σ19) ∧ (0 ≤ (sx_at σ 14 200 (a1)) → V_fWant σ19 ((sx_at σ 14 200 (a1))) ((sx_at σ 16 200 (a1))) (fun σ75 => sg_F [74, 22061] σ19 σ75 → P26 σ75))) ∧ (∀ (σ27 : sg_S), sg_F [74, 22061] σ19 σ27 → P26 σ27 → V_fSaveWanted σ27 (a1) (fun σ31 => sg_F [71, 72, 73, 23061] σ27 σ31 → V_fSpread σ31 ((sx_at σ12 70 200 (a1))) (fun σ37 => sg_F [62, 78, 79, 80, 81, 82, 85, 86, 87, 11061, 11077, 12077, 13077, 14077, 15077, 16077, 17077, 18077, 19077] σ31 σ37 → (∃ (I45 : Nat → Int → sg_S → Prop) (X47 : sg_S → Prop), (∃ n, I45 n (0) σ37) ∧ (∀ (n55 : Nat) (v42 : Int) (σ43 : sg_S), sg_R v42 → sg_F [62] σ37 σ43 → I45 n55 v42 σ43 → (((sx_at σ 13 200 (a1)) ≤ v42 → X47 σ43) ∧ (v42 < (sx_at σ 13 200 (a1)) → ((4 ≤ v42 → X47 σ43) ∧ (v42 < 4 → sg_R ((sx_at σ 16 200 (a1)) + v42) ∧ sg_R (((sg_g σ 61 7) - (sx_at σ 13 200 (a1))) + v42) ∧ p_lItems σ37 ((sx_at σ 64 400 ((((sg_g σ 61 7) - (sx_at σ 13 200 (a1))) + v42)))) ∧ ∀ σ69, σ69 = (sx_put σ43 62 272 (((sx_at σ 16 200 (a1)) + v42)) ((v_lItems σ37 ((sx_at σ 64 400 ((((sg_g σ 61 7) - (sx_at σ 13 200 (a1))) + v42))))))) → sg_R (v42 + 1) ∧ (∃ m, m < n55 ∧ I45 m ((v42 + 1)) σ69)))))) ∧ (∀ (σ43 : sg_S), sg_F [62] σ37 σ43 → X47 σ43 → p_lItems σ37 ((sx_at σ12 70 200 (a1))) ∧ ∀ σ60, σ60 = (sg_w σ43 61 23 ((v_lSize σ37 ((v_lItems σ37 ((sx_at σ12 70 200 (a1)))))))) → Q σ60)))))))) ∧ (q5 = 0 → ∀ σ80, σ80 = (sg_w σ2 61 10 (3)) → Q σ80)))
set_option maxHeartbeats 4000000 in
set_option maxRecDepth 8000 in
theorem w_fOpen (z : Value) (σ : sg_S) (a1 : Int) (Q : sg_S → Prop) (ra1 : sg_R a1) (w : V_fOpen σ a1 Q) : wx z 4 71 0 [(0, .inr (.inr (.ref 61))), (1, .inl (a1))] [] σ (fun v σ' => v = none ∧ sg_F [62, 70, 71, 72, 73, 74, 78, 79, 80, 81, 82, 85, 86, 87, 8061, 11061, 11077, 12077, 13077, 14077, 15077, 16077, 17077, 18077, 19077, 22061, 23061, 24061] σ σ' ∧ Q σ') := by
  unfold V_fOpen at w
  refine wk_b tt_71 4 (pc' := 8) (ls' := [(0, .inr (.inr (.ref 61))), (1, .inl (a1))]) (st' := [.inl (a1), .inr (.inr (.ref 13))]) (σ' := σ) rfl ?_
  refine wk_callp tt_71 rfl rfl rfl rfl rfl tt_5 rfl (by decide) (at_i0 z σ 13 200 (a1) rfl (by decide) ra1) ?_
  show wx z 4 71 11 [(0, .inr (.inr (.ref 61))), (1, .inl (a1))] [.inl ((sx_at σ 13 200 (a1)))] σ (fun v σ' => v = none ∧ sg_F [62, 70, 71, 72, 73, 74, 78, 79, 80, 81, 82, 85, 86, 87, 8061, 11061, 11077, 12077, 13077, 14077, 15077, 16077, 17077, 18077, 19077, 22061, 23061, 24061] σ σ' ∧ Q σ')
  obtain ⟨c1, w⟩ := w
  refine wk_b tt_71 7 (pc' := 22) (ls' := [(2, .inl ((sx_at σ 13 200 (a1)))), (0, .inr (.inr (.ref 61))), (1, .inl (a1))]) (st' := []) (σ' := (sg_w σ 61 7 (((sg_g σ 61 7) - (sx_at σ 13 200 (a1)))))) rfl ?_
  generalize hs3 : (sg_w σ 61 7 (((sg_g σ 61 7) - (sx_at σ 13 200 (a1))))) = σ2
  have w := w σ2 hs3.symm
  have hF4 : sg_F [8061] σ σ2 := by rw [← hs3]; exact sg_F_w (sg_F_r _ _) rfl _
  refine wk_b tt_71 2 (pc' := 24) (ls' := [(2, .inl ((sx_at σ 13 200 (a1)))), (0, .inr (.inr (.ref 61))), (1, .inl (a1))]) (st' := [.inl ((sx_at σ 13 200 (a1))), .inr (.inr (.ref 61))]) (σ' := σ2) rfl ?_
  refine wk_call tt_71 rfl rfl rfl rfl rfl tt_51 rfl (by decide) (w_fAsLong z σ2 ((sx_at σ 13 200 (a1))) _ (sx_R ..) w) (fun u10 σ6 hq8 => ?_)
  obtain ⟨q5, rfl, r9, rfl, w⟩ := hq8
  have w := w r9
  refine wk_if tt_71 (tgt := 36) rfl rfl (sg_Rz r9) (fun (h11 : ¬ q5 = 0) => ?_) (fun (h11 : q5 = 0) => ?_)
  ·
    have w := w.1 h11
    refine wk_b tt_71 7 (pc' := 49) (ls' := [(2, .inl ((sx_at σ 13 200 (a1)))), (0, .inr (.inr (.ref 61))), (1, .inl (a1))]) (st' := [.inl ((sg_g σ2 61 7)), .inr (.inr (.ref 64)), .inl (a1), .inr (.inr (.ref 70))]) (σ' := σ2) rfl ?_
    rw [show (sg_g σ2 61 7) = ((sg_g σ 61 7) - (sx_at σ 13 200 (a1))) from by rw [(show sg_g σ2 61 7 = ((sg_g σ 61 7) - (sx_at σ 13 200 (a1))) from by rw [← hs3]; exact sg_gw_e _ _ _ _ c1)]]
    refine wk_callp tt_71 rfl rfl rfl rfl rfl tt_5 rfl (by decide) (at_i0 z σ2 64 400 (((sg_g σ 61 7) - (sx_at σ 13 200 (a1)))) rfl (by decide) c1) ?_
    show wx z 4 71 52 [(2, .inl ((sx_at σ 13 200 (a1)))), (0, .inr (.inr (.ref 61))), (1, .inl (a1))] [.inl ((sx_at σ2 64 400 (((sg_g σ 61 7) - (sx_at σ 13 200 (a1)))))), .inl (a1), .inr (.inr (.ref 70))] σ2 (fun v σ' => v = none ∧ sg_F [62, 70, 71, 72, 73, 74, 78, 79, 80, 81, 82, 85, 86, 87, 8061, 11061, 11077, 12077, 13077, 14077, 15077, 16077, 17077, 18077, 19077, 22061, 23061, 24061] σ σ' ∧ Q σ')
    rw [sx_F (a := 64) (n := 400) (i := (((sg_g σ 61 7) - (sx_at σ 13 200 (a1))))) hF4 rfl]
    refine wk_callp tt_71 rfl rfl rfl rfl rfl tt_21 rfl (by decide) (pt_i0 z σ2 70 200 (a1) ((sx_at σ 64 400 (((sg_g σ 61 7) - (sx_at σ 13 200 (a1)))))) rfl (by decide) ra1) ?_
    show wx z 4 71 55 [(2, .inl ((sx_at σ 13 200 (a1)))), (0, .inr (.inr (.ref 61))), (1, .inl (a1))] [] (sx_put σ2 70 200 (a1) ((sx_at σ 64 400 (((sg_g σ 61 7) - (sx_at σ 13 200 (a1))))))) (fun v σ' => v = none ∧ sg_F [62, 70, 71, 72, 73, 74, 78, 79, 80, 81, 82, 85, 86, 87, 8061, 11061, 11077, 12077, 13077, 14077, 15077, 16077, 17077, 18077, 19077, 22061, 23061, 24061] σ σ' ∧ Q σ')
    generalize hs13 : (sx_put σ2 70 200 (a1) ((sx_at σ 64 400 (((sg_g σ 61 7) - (sx_at σ 13 200 (a1))))))) = σ12
    have w := w σ12 hs13.symm
    have hF14 : sg_F [70] σ2 σ12 := by rw [← hs13]; exact sg_F_p (sg_F_r _ _) rfl _ _ _
    refine wk_b tt_71 3 (pc' := 60) (ls' := [(2, .inl ((sx_at σ 13 200 (a1)))), (0, .inr (.inr (.ref 61))), (1, .inl (a1))]) (st' := []) (σ' := (sg_w σ12 61 21 (0))) rfl ?_
    generalize hs16 : (sg_w σ12 61 21 (0)) = σ15
    have w := w σ15 hs16.symm
    have hF17 : sg_F [22061] σ12 σ15 := by rw [← hs16]; exact sg_F_w (sg_F_r _ _) rfl _
    refine wk_b tt_71 5 (pc' := 69) (ls' := [(2, .inl ((sx_at σ 13 200 (a1)))), (0, .inr (.inr (.ref 61))), (1, .inl (a1))]) (st' := [.inl (a1), .inr (.inr (.ref 8)), .inr (.inr (.ref 61))]) (σ' := σ15) rfl ?_
    refine wk_callp tt_71 rfl rfl rfl rfl rfl tt_5 rfl (by decide) (at_i0 z σ15 8 200 (a1) rfl (by decide) ra1) ?_
    show wx z 4 71 72 [(2, .inl ((sx_at σ 13 200 (a1)))), (0, .inr (.inr (.ref 61))), (1, .inl (a1))] [.inl ((sx_at σ15 8 200 (a1))), .inr (.inr (.ref 61))] σ15 (fun v σ' => v = none ∧ sg_F [62, 70, 71, 72, 73, 74, 78, 79, 80, 81, 82, 85, 86, 87, 8061, 11061, 11077, 12077, 13077, 14077, 15077, 16077, 17077, 18077, 19077, 22061, 23061, 24061] σ σ' ∧ Q σ')
    rw [sx_F (a := 8) (n := 200) (i := (a1)) hF17 rfl, sx_F (a := 8) (n := 200) (i := (a1)) hF14 rfl, sx_F (a := 8) (n := 200) (i := (a1)) hF4 rfl]
    refine wk_b tt_71 4 (pc' := 80) (ls' := [(2, .inl ((sx_at σ 13 200 (a1)))), (0, .inr (.inr (.ref 61))), (1, .inl (a1))]) (st' := [.inl (a1), .inr (.inr (.ref 16)), .inl ((sx_at σ 8 200 (a1))), .inr (.inr (.ref 61))]) (σ' := σ15) rfl ?_
    refine wk_callp tt_71 rfl rfl rfl rfl rfl tt_5 rfl (by decide) (at_i0 z σ15 16 200 (a1) rfl (by decide) ra1) ?_
    show wx z 4 71 83 [(2, .inl ((sx_at σ 13 200 (a1)))), (0, .inr (.inr (.ref 61))), (1, .inl (a1))] [.inl ((sx_at σ15 16 200 (a1))), .inl ((sx_at σ 8 200 (a1))), .inr (.inr (.ref 61))] σ15 (fun v σ' => v = none ∧ sg_F [62, 70, 71, 72, 73, 74, 78, 79, 80, 81, 82, 85, 86, 87, 8061, 11061, 11077, 12077, 13077, 14077, 15077, 16077, 17077, 18077, 19077, 22061, 23061, 24061] σ σ' ∧ Q σ')
    rw [sx_F (a := 16) (n := 200) (i := (a1)) hF17 rfl, sx_F (a := 16) (n := 200) (i := (a1)) hF14 rfl, sx_F (a := 16) (n := 200) (i := (a1)) hF4 rfl]
    refine wk_call tt_71 rfl rfl rfl rfl rfl tt_89 rfl (by decide) (w_fWant z σ15 ((sx_at σ 8 200 (a1))) ((sx_at σ 16 200 (a1))) _ (sx_R ..) (sx_R ..) w) (fun u23 σ19 hq21 => ?_)
    obtain ⟨rfl, hF20, w⟩ := hq21
    have w := w hF20
    refine wk_b tt_71 4 (pc' := 94) (ls' := [(2, .inl ((sx_at σ 13 200 (a1)))), (0, .inr (.inr (.ref 61))), (1, .inl (a1))]) (st' := [.inl (a1), .inr (.inr (.ref 14))]) (σ' := σ19) rfl ?_
    refine wk_callp tt_71 rfl rfl rfl rfl rfl tt_5 rfl (by decide) (at_i0 z σ19 14 200 (a1) rfl (by decide) ra1) ?_
    show wx z 4 71 97 [(2, .inl ((sx_at σ 13 200 (a1)))), (0, .inr (.inr (.ref 61))), (1, .inl (a1))] [.inl ((sx_at σ19 14 200 (a1)))] σ19 (fun v σ' => v = none ∧ sg_F [62, 70, 71, 72, 73, 74, 78, 79, 80, 81, 82, 85, 86, 87, 8061, 11061, 11077, 12077, 13077, 14077, 15077, 16077, 17077, 18077, 19077, 22061, 23061, 24061] σ σ' ∧ Q σ')
    rw [sx_F (a := 14) (n := 200) (i := (a1)) hF20 rfl, sx_F (a := 14) (n := 200) (i := (a1)) hF17 rfl, sx_F (a := 14) (n := 200) (i := (a1)) hF14 rfl, sx_F (a := 14) (n := 200) (i := (a1)) hF4 rfl]
    obtain ⟨P26, w, w29⟩ := w
    have jn25 : ∀ (σ27 : sg_S), sg_F [74, 22061] σ19 σ27 → P26 σ27 → wx z 4 71 126 [(0, .inr (.inr (.ref 61))), (1, .inl (a1)), (2, .inl ((sx_at σ 13 200 (a1))))] [] σ27 (fun v σ' => v = none ∧ sg_F [62, 70, 71, 72, 73, 74, 78, 79, 80, 81, 82, 85, 86, 87, 8061, 11061, 11077, 12077, 13077, 14077, 15077, 16077, 17077, 18077, 19077, 22061, 23061, 24061] σ σ' ∧ Q σ') := by
      intro σ27 hF28 w
      have w := w29 σ27 hF28 w
      refine wk_b tt_71 2 (pc' := 128) (ls' := [(0, .inr (.inr (.ref 61))), (1, .inl (a1)), (2, .inl ((sx_at σ 13 200 (a1))))]) (st' := [.inl (a1), .inr (.inr (.ref 61))]) (σ' := σ27) rfl ?_
      refine wk_call tt_71 rfl rfl rfl rfl rfl tt_81 rfl (by decide) (w_fSaveWanted z σ27 (a1) _ ra1 w) (fun u35 σ31 hq33 => ?_)
      obtain ⟨rfl, hF32, w⟩ := hq33
      have w := w hF32
      refine wk_b tt_71 4 (pc' := 137) (ls' := [(0, .inr (.inr (.ref 61))), (1, .inl (a1)), (2, .inl ((sx_at σ 13 200 (a1))))]) (st' := [.inl (a1), .inr (.inr (.ref 70)), .inr (.inr (.ref 61))]) (σ' := σ31) rfl ?_
      refine wk_callp tt_71 rfl rfl rfl rfl rfl tt_5 rfl (by decide) (at_i0 z σ31 70 200 (a1) rfl (by decide) ra1) ?_
      show wx z 4 71 140 [(0, .inr (.inr (.ref 61))), (1, .inl (a1)), (2, .inl ((sx_at σ 13 200 (a1))))] [.inl ((sx_at σ31 70 200 (a1))), .inr (.inr (.ref 61))] σ31 (fun v σ' => v = none ∧ sg_F [62, 70, 71, 72, 73, 74, 78, 79, 80, 81, 82, 85, 86, 87, 8061, 11061, 11077, 12077, 13077, 14077, 15077, 16077, 17077, 18077, 19077, 22061, 23061, 24061] σ σ' ∧ Q σ')
      rw [sx_F (a := 70) (n := 200) (i := (a1)) hF32 rfl, sx_F (a := 70) (n := 200) (i := (a1)) hF28 rfl, sx_F (a := 70) (n := 200) (i := (a1)) hF20 rfl, sx_F (a := 70) (n := 200) (i := (a1)) hF17 rfl]
      refine wk_call tt_71 rfl rfl rfl rfl rfl tt_86 rfl (by decide) (w_fSpread z σ31 ((sx_at σ12 70 200 (a1))) _ (sx_R ..) w) (fun u41 σ37 hq39 => ?_)
      obtain ⟨rfl, hF38, w⟩ := hq39
      have w := w hF38
      refine wk_b tt_71 2 (pc' := 145) (ls' := [(3, .inl (0)), (0, .inr (.inr (.ref 61))), (1, .inl (a1)), (2, .inl ((sx_at σ 13 200 (a1))))]) (st' := []) (σ' := σ37) rfl ?_
      obtain ⟨I45, X47, ⟨μ46, w52⟩, w53, w54⟩ := w
      have ex56 : ∀ (σ43 : sg_S), sg_F [62] σ37 σ43 → X47 σ43 → wx z 4 71 201 [(0, .inr (.inr (.ref 61))), (1, .inl (a1))] [] σ43 (fun v σ' => v = none ∧ sg_F [62, 70, 71, 72, 73, 74, 78, 79, 80, 81, 82, 85, 86, 87, 8061, 11061, 11077, 12077, 13077, 14077, 15077, 16077, 17077, 18077, 19077, 22061, 23061, 24061] σ σ' ∧ Q σ') := by
        intro σ43 hF44 w
        have w := w54 σ43 hF44 w
        refine wk_b tt_71 8 (pc' := 215) (ls' := [(0, .inr (.inr (.ref 61))), (1, .inl (a1))]) (st' := [.inl (a1), .inr (.inr (.ref 70)), .inr (.inr (.ref 77)), .inr (.inr (.ref 77)), .inr (.inr (.ref 61))]) (σ' := σ43) rfl ?_
        refine wk_callp tt_71 rfl rfl rfl rfl rfl tt_5 rfl (by decide) (at_i0 z σ43 70 200 (a1) rfl (by decide) ra1) ?_
        show wx z 4 71 218 [(0, .inr (.inr (.ref 61))), (1, .inl (a1))] [.inl ((sx_at σ43 70 200 (a1))), .inr (.inr (.ref 77)), .inr (.inr (.ref 77)), .inr (.inr (.ref 61))] σ43 (fun v σ' => v = none ∧ sg_F [62, 70, 71, 72, 73, 74, 78, 79, 80, 81, 82, 85, 86, 87, 8061, 11061, 11077, 12077, 13077, 14077, 15077, 16077, 17077, 18077, 19077, 22061, 23061, 24061] σ σ' ∧ Q σ')
        rw [sx_F (a := 70) (n := 200) (i := (a1)) hF44 rfl, sx_F (a := 70) (n := 200) (i := (a1)) hF38 rfl, sx_F (a := 70) (n := 200) (i := (a1)) hF32 rfl, sx_F (a := 70) (n := 200) (i := (a1)) hF28 rfl, sx_F (a := 70) (n := 200) (i := (a1)) hF20 rfl, sx_F (a := 70) (n := 200) (i := (a1)) hF17 rfl]
        obtain ⟨c57, w⟩ := w
        have c57 : p_lItems σ43 ((sx_at σ12 70 200 (a1))) := by
          rw [pF_lItems hF44 rfl]; exact c57
        refine wk_callp tt_71 rfl rfl rfl rfl rfl tt_106 rfl (by decide) (w_lItems z σ43 ((sx_at σ12 70 200 (a1))) (sx_R ..) c57) ?_
        rw [vF_lItems hF44 rfl]
        have r58 := vr_lItems σ37  ((sx_at σ12 70 200 (a1))) (sx_R ..) (by have q := c57; rw [pF_lItems hF44 rfl] at q; exact q)
        refine wk_callp tt_71 rfl rfl rfl rfl rfl tt_113 rfl (by decide) (w_lSize z σ43 ((v_lItems σ37 ((sx_at σ12 70 200 (a1))))) r58 ) ?_
        rw [vF_lSize hF44 rfl]
        have r59 := vr_lSize σ37  ((v_lItems σ37 ((sx_at σ12 70 200 (a1))))) r58 
        refine wk_b tt_71 1 (pc' := 227) (ls' := [(0, .inr (.inr (.ref 61))), (1, .inl (a1))]) (st' := []) (σ' := (sg_w σ43 61 23 ((v_lSize σ37 ((v_lItems σ37 ((sx_at σ12 70 200 (a1))))))))) rfl ?_
        generalize hs61 : (sg_w σ43 61 23 ((v_lSize σ37 ((v_lItems σ37 ((sx_at σ12 70 200 (a1)))))))) = σ60
        have w := w σ60 hs61.symm
        have hF62 : sg_F [24061] σ43 σ60 := by rw [← hs61]; exact sg_F_w (sg_F_r _ _) rfl _
        exact wk_rV tt_71 rfl rfl ⟨rfl, (sg_F_t (sg_F_t (sg_F_t (sg_F_t (sg_F_t (sg_F_t (sg_F_t (sg_F_t (sg_F_t (sg_F_r [62, 70, 71, 72, 73, 74, 78, 79, 80, 81, 82, 85, 86, 87, 8061, 11061, 11077, 12077, 13077, 14077, 15077, 16077, 17077, 18077, 19077, 22061, 23061, 24061] σ) (sg_F_m (L := [62, 70, 71, 72, 73, 74, 78, 79, 80, 81, 82, 85, 86, 87, 8061, 11061, 11077, 12077, 13077, 14077, 15077, 16077, 17077, 18077, 19077, 22061, 23061, 24061]) hF4 rfl)) (sg_F_m (L := [62, 70, 71, 72, 73, 74, 78, 79, 80, 81, 82, 85, 86, 87, 8061, 11061, 11077, 12077, 13077, 14077, 15077, 16077, 17077, 18077, 19077, 22061, 23061, 24061]) hF14 rfl)) (sg_F_m (L := [62, 70, 71, 72, 73, 74, 78, 79, 80, 81, 82, 85, 86, 87, 8061, 11061, 11077, 12077, 13077, 14077, 15077, 16077, 17077, 18077, 19077, 22061, 23061, 24061]) hF17 rfl)) (sg_F_m (L := [62, 70, 71, 72, 73, 74, 78, 79, 80, 81, 82, 85, 86, 87, 8061, 11061, 11077, 12077, 13077, 14077, 15077, 16077, 17077, 18077, 19077, 22061, 23061, 24061]) hF20 rfl)) (sg_F_m (L := [62, 70, 71, 72, 73, 74, 78, 79, 80, 81, 82, 85, 86, 87, 8061, 11061, 11077, 12077, 13077, 14077, 15077, 16077, 17077, 18077, 19077, 22061, 23061, 24061]) hF28 rfl)) (sg_F_m (L := [62, 70, 71, 72, 73, 74, 78, 79, 80, 81, 82, 85, 86, 87, 8061, 11061, 11077, 12077, 13077, 14077, 15077, 16077, 17077, 18077, 19077, 22061, 23061, 24061]) hF32 rfl)) (sg_F_m (L := [62, 70, 71, 72, 73, 74, 78, 79, 80, 81, 82, 85, 86, 87, 8061, 11061, 11077, 12077, 13077, 14077, 15077, 16077, 17077, 18077, 19077, 22061, 23061, 24061]) hF38 rfl)) (sg_F_m (L := [62, 70, 71, 72, 73, 74, 78, 79, 80, 81, 82, 85, 86, 87, 8061, 11061, 11077, 12077, 13077, 14077, 15077, 16077, 17077, 18077, 19077, 22061, 23061, 24061]) hF44 rfl)) (sg_F_m (L := [62, 70, 71, 72, 73, 74, 78, 79, 80, 81, 82, 85, 86, 87, 8061, 11061, 11077, 12077, 13077, 14077, 15077, 16077, 17077, 18077, 19077, 22061, 23061, 24061]) hF62 rfl)), w⟩
      have lp51 : ∀ (n55 : Nat) (v42 : Int) (σ43 : sg_S), sg_R v42 → sg_F [62] σ37 σ43 → I45 n55 v42 σ43 → wx z 4 71 145 [(0, .inr (.inr (.ref 61))), (1, .inl (a1)), (2, .inl ((sx_at σ 13 200 (a1)))), (3, .inl (v42))] [] σ43 (fun v σ' => v = none ∧ sg_F [62, 70, 71, 72, 73, 74, 78, 79, 80, 81, 82, 85, 86, 87, 8061, 11061, 11077, 12077, 13077, 14077, 15077, 16077, 17077, 18077, 19077, 22061, 23061, 24061] σ σ' ∧ Q σ') := by
        intro n55
        induction n55 using Nat.strongRecOn with
        | _ n55 ih49 =>
          intro v42 σ43 r48 hF44 w
          have w := w53 n55 v42 σ43 r48 hF44 w
          refine wk_b tt_71 2 (pc' := 147) (ls' := [(0, .inr (.inr (.ref 61))), (1, .inl (a1)), (2, .inl ((sx_at σ 13 200 (a1)))), (3, .inl (v42))]) (st' := [.inl ((sx_at σ 13 200 (a1))), .inl (v42)]) (σ' := σ43) rfl ?_
          refine wk_if2 tt_71 (tgt := 201) rfl rfl r48 (sx_R ..) (fun (h63 : (sx_at σ 13 200 (a1)) ≤ v42) => ?_) (fun (h63 : v42 < (sx_at σ 13 200 (a1))) => ?_)
          ·
            have w := w.1 h63
            exact wk_ls [(0, .inr (.inr (.ref 61))), (1, .inl (a1))] rfl ⟨rfl, rfl, trivial⟩ (ex56  σ43  (sg_F_t (sg_F_r [62] σ37) (sg_F_m (L := [62]) hF44 rfl)) w)
          ·
            have w := w.2 h63
            refine wk_b tt_71 2 (pc' := 152) (ls' := [(0, .inr (.inr (.ref 61))), (1, .inl (a1)), (2, .inl ((sx_at σ 13 200 (a1)))), (3, .inl (v42))]) (st' := [.inl (4), .inl (v42)]) (σ' := σ43) rfl ?_
            refine wk_if2 tt_71 (tgt := 201) rfl rfl r48 (by decide) (fun (h64 : 4 ≤ v42) => ?_) (fun (h64 : v42 < 4) => ?_)
            ·
              have w := w.1 h64
              exact wk_ls [(0, .inr (.inr (.ref 61))), (1, .inl (a1))] rfl ⟨rfl, rfl, trivial⟩ (ex56  σ43  (sg_F_t (sg_F_r [62] σ37) (sg_F_m (L := [62]) hF44 rfl)) w)
            ·
              have w := w.2 h64
              refine wk_b tt_71 6 (pc' := 167) (ls' := [(0, .inr (.inr (.ref 61))), (1, .inl (a1)), (2, .inl ((sx_at σ 13 200 (a1)))), (3, .inl (v42))]) (st' := [.inl (a1), .inr (.inr (.ref 16)), .inr (.inr (.ref 62))]) (σ' := σ43) rfl ?_
              refine wk_callp tt_71 rfl rfl rfl rfl rfl tt_5 rfl (by decide) (at_i0 z σ43 16 200 (a1) rfl (by decide) ra1) ?_
              show wx z 4 71 170 [(0, .inr (.inr (.ref 61))), (1, .inl (a1)), (2, .inl ((sx_at σ 13 200 (a1)))), (3, .inl (v42))] [.inl ((sx_at σ43 16 200 (a1))), .inr (.inr (.ref 62))] σ43 (fun v σ' => v = none ∧ sg_F [62, 70, 71, 72, 73, 74, 78, 79, 80, 81, 82, 85, 86, 87, 8061, 11061, 11077, 12077, 13077, 14077, 15077, 16077, 17077, 18077, 19077, 22061, 23061, 24061] σ σ' ∧ Q σ')
              rw [sx_F (a := 16) (n := 200) (i := (a1)) hF44 rfl, sx_F (a := 16) (n := 200) (i := (a1)) hF38 rfl, sx_F (a := 16) (n := 200) (i := (a1)) hF32 rfl, sx_F (a := 16) (n := 200) (i := (a1)) hF28 rfl, sx_F (a := 16) (n := 200) (i := (a1)) hF20 rfl, sx_F (a := 16) (n := 200) (i := (a1)) hF17 rfl, sx_F (a := 16) (n := 200) (i := (a1)) hF14 rfl, sx_F (a := 16) (n := 200) (i := (a1)) hF4 rfl]
              obtain ⟨c65, w⟩ := w
              obtain ⟨c66, w⟩ := w
              refine wk_b tt_71 10 (pc' := 186) (ls' := [(0, .inr (.inr (.ref 61))), (1, .inl (a1)), (2, .inl ((sx_at σ 13 200 (a1)))), (3, .inl (v42))]) (st' := [.inl (((sg_g σ43 61 7) + v42)), .inr (.inr (.ref 64)), .inr (.inr (.ref 77)), .inl (((sx_at σ 16 200 (a1)) + v42)), .inr (.inr (.ref 62))]) (σ' := σ43) rfl ?_
              rw [show (sg_g σ43 61 7) = ((sg_g σ 61 7) - (sx_at σ 13 200 (a1))) from by rw [sg_F_ga hF44 rfl, sg_F_g hF38 rfl, sg_F_g hF32 rfl, sg_F_g hF28 rfl, sg_F_g hF20 rfl, sg_F_g hF17 rfl, sg_F_ga hF14 rfl, (show sg_g σ2 61 7 = ((sg_g σ 61 7) - (sx_at σ 13 200 (a1))) from by rw [← hs3]; exact sg_gw_e _ _ _ _ c1)]]
              refine wk_callp tt_71 rfl rfl rfl rfl rfl tt_5 rfl (by decide) (at_i0 z σ43 64 400 ((((sg_g σ 61 7) - (sx_at σ 13 200 (a1))) + v42)) rfl (by decide) c66) ?_
              show wx z 4 71 189 [(0, .inr (.inr (.ref 61))), (1, .inl (a1)), (2, .inl ((sx_at σ 13 200 (a1)))), (3, .inl (v42))] [.inl ((sx_at σ43 64 400 ((((sg_g σ 61 7) - (sx_at σ 13 200 (a1))) + v42)))), .inr (.inr (.ref 77)), .inl (((sx_at σ 16 200 (a1)) + v42)), .inr (.inr (.ref 62))] σ43 (fun v σ' => v = none ∧ sg_F [62, 70, 71, 72, 73, 74, 78, 79, 80, 81, 82, 85, 86, 87, 8061, 11061, 11077, 12077, 13077, 14077, 15077, 16077, 17077, 18077, 19077, 22061, 23061, 24061] σ σ' ∧ Q σ')
              rw [sx_F (a := 64) (n := 400) (i := ((((sg_g σ 61 7) - (sx_at σ 13 200 (a1))) + v42))) hF44 rfl, sx_F (a := 64) (n := 400) (i := ((((sg_g σ 61 7) - (sx_at σ 13 200 (a1))) + v42))) hF38 rfl, sx_F (a := 64) (n := 400) (i := ((((sg_g σ 61 7) - (sx_at σ 13 200 (a1))) + v42))) hF32 rfl, sx_F (a := 64) (n := 400) (i := ((((sg_g σ 61 7) - (sx_at σ 13 200 (a1))) + v42))) hF28 rfl, sx_F (a := 64) (n := 400) (i := ((((sg_g σ 61 7) - (sx_at σ 13 200 (a1))) + v42))) hF20 rfl, sx_F (a := 64) (n := 400) (i := ((((sg_g σ 61 7) - (sx_at σ 13 200 (a1))) + v42))) hF17 rfl, sx_F (a := 64) (n := 400) (i := ((((sg_g σ 61 7) - (sx_at σ 13 200 (a1))) + v42))) hF14 rfl, sx_F (a := 64) (n := 400) (i := ((((sg_g σ 61 7) - (sx_at σ 13 200 (a1))) + v42))) hF4 rfl]
              obtain ⟨c67, w⟩ := w
              have c67 : p_lItems σ43 ((sx_at σ 64 400 ((((sg_g σ 61 7) - (sx_at σ 13 200 (a1))) + v42)))) := by
                rw [pF_lItems hF44 rfl]; exact c67
              refine wk_callp tt_71 rfl rfl rfl rfl rfl tt_106 rfl (by decide) (w_lItems z σ43 ((sx_at σ 64 400 ((((sg_g σ 61 7) - (sx_at σ 13 200 (a1))) + v42)))) (sx_R ..) c67) ?_
              rw [vF_lItems hF44 rfl]
              have r68 := vr_lItems σ37  ((sx_at σ 64 400 ((((sg_g σ 61 7) - (sx_at σ 13 200 (a1))) + v42)))) (sx_R ..) (by have q := c67; rw [pF_lItems hF44 rfl] at q; exact q)
              refine wk_callp tt_71 rfl rfl rfl rfl rfl tt_21 rfl (by decide) (pt_i0 z σ43 62 272 (((sx_at σ 16 200 (a1)) + v42)) ((v_lItems σ37 ((sx_at σ 64 400 ((((sg_g σ 61 7) - (sx_at σ 13 200 (a1))) + v42)))))) rfl (by decide) c65) ?_
              show wx z 4 71 195 [(0, .inr (.inr (.ref 61))), (1, .inl (a1)), (2, .inl ((sx_at σ 13 200 (a1)))), (3, .inl (v42))] [] (sx_put σ43 62 272 (((sx_at σ 16 200 (a1)) + v42)) ((v_lItems σ37 ((sx_at σ 64 400 ((((sg_g σ 61 7) - (sx_at σ 13 200 (a1))) + v42))))))) (fun v σ' => v = none ∧ sg_F [62, 70, 71, 72, 73, 74, 78, 79, 80, 81, 82, 85, 86, 87, 8061, 11061, 11077, 12077, 13077, 14077, 15077, 16077, 17077, 18077, 19077, 22061, 23061, 24061] σ σ' ∧ Q σ')
              generalize hs70 : (sx_put σ43 62 272 (((sx_at σ 16 200 (a1)) + v42)) ((v_lItems σ37 ((sx_at σ 64 400 ((((sg_g σ 61 7) - (sx_at σ 13 200 (a1))) + v42))))))) = σ69
              have w := w σ69 hs70.symm
              have hF71 : sg_F [62] σ43 σ69 := by rw [← hs70]; exact sg_F_p (sg_F_r _ _) rfl _ _ _
              obtain ⟨c72, w⟩ := w
              refine wk_b tt_71 2 (pc' := 145) (ls' := [(3, .inl ((v42 + 1))), (0, .inr (.inr (.ref 61))), (1, .inl (a1)), (2, .inl ((sx_at σ 13 200 (a1))))]) (st' := []) (σ' := σ69) rfl ?_
              obtain ⟨m73, hm73, w⟩ := w
              exact wk_ls [(0, .inr (.inr (.ref 61))), (1, .inl (a1)), (2, .inl ((sx_at σ 13 200 (a1)))), (3, .inl ((v42 + 1)))] rfl ⟨rfl, rfl, rfl, rfl, trivial⟩ (ih49 m73 hm73 ((v42 + 1)) σ69 c72 (sg_F_t (sg_F_t (sg_F_r [62] σ37) (sg_F_m (L := [62]) hF44 rfl)) (sg_F_m (L := [62]) hF71 rfl)) w)
      exact wk_ls [(0, .inr (.inr (.ref 61))), (1, .inl (a1)), (2, .inl ((sx_at σ 13 200 (a1)))), (3, .inl (0))] rfl ⟨rfl, rfl, rfl, rfl, trivial⟩ (lp51 μ46 (0) σ37 (by decide) (sg_F_r _ _) w52)
    refine wk_if tt_71 (tgt := 126) rfl rfl (sx_R ..) (fun (h24 : (sx_at σ 14 200 (a1)) < 0) => ?_) (fun (h24 : 0 ≤ (sx_at σ 14 200 (a1))) => ?_)
    ·
      have w := w.1 h24
      exact wk_ls [(0, .inr (.inr (.ref 61))), (1, .inl (a1)), (2, .inl ((sx_at σ 13 200 (a1))))] rfl ⟨rfl, rfl, rfl, trivial⟩ (jn25 σ19 (sg_F_r [74, 22061] σ19) w)
    ·
      have w := w.2 h24
      refine wk_b tt_71 5 (pc' := 109) (ls' := [(2, .inl ((sx_at σ 13 200 (a1)))), (0, .inr (.inr (.ref 61))), (1, .inl (a1))]) (st' := [.inl (a1), .inr (.inr (.ref 14)), .inr (.inr (.ref 61))]) (σ' := σ19) rfl ?_
      refine wk_callp tt_71 rfl rfl rfl rfl rfl tt_5 rfl (by decide) (at_i0 z σ19 14 200 (a1) rfl (by decide) ra1) ?_
      show wx z 4 71 112 [(2, .inl ((sx_at σ 13 200 (a1)))), (0, .inr (.inr (.ref 61))), (1, .inl (a1))] [.inl ((sx_at σ19 14 200 (a1))), .inr (.inr (.ref 61))] σ19 (fun v σ' => v = none ∧ sg_F [62, 70, 71, 72, 73, 74, 78, 79, 80, 81, 82, 85, 86, 87, 8061, 11061, 11077, 12077, 13077, 14077, 15077, 16077, 17077, 18077, 19077, 22061, 23061, 24061] σ σ' ∧ Q σ')
      rw [sx_F (a := 14) (n := 200) (i := (a1)) hF20 rfl, sx_F (a := 14) (n := 200) (i := (a1)) hF17 rfl, sx_F (a := 14) (n := 200) (i := (a1)) hF14 rfl, sx_F (a := 14) (n := 200) (i := (a1)) hF4 rfl]
      refine wk_b tt_71 4 (pc' := 120) (ls' := [(2, .inl ((sx_at σ 13 200 (a1)))), (0, .inr (.inr (.ref 61))), (1, .inl (a1))]) (st' := [.inl (a1), .inr (.inr (.ref 16)), .inl ((sx_at σ 14 200 (a1))), .inr (.inr (.ref 61))]) (σ' := σ19) rfl ?_
      refine wk_callp tt_71 rfl rfl rfl rfl rfl tt_5 rfl (by decide) (at_i0 z σ19 16 200 (a1) rfl (by decide) ra1) ?_
      show wx z 4 71 123 [(2, .inl ((sx_at σ 13 200 (a1)))), (0, .inr (.inr (.ref 61))), (1, .inl (a1))] [.inl ((sx_at σ19 16 200 (a1))), .inl ((sx_at σ 14 200 (a1))), .inr (.inr (.ref 61))] σ19 (fun v σ' => v = none ∧ sg_F [62, 70, 71, 72, 73, 74, 78, 79, 80, 81, 82, 85, 86, 87, 8061, 11061, 11077, 12077, 13077, 14077, 15077, 16077, 17077, 18077, 19077, 22061, 23061, 24061] σ σ' ∧ Q σ')
      rw [sx_F (a := 16) (n := 200) (i := (a1)) hF20 rfl, sx_F (a := 16) (n := 200) (i := (a1)) hF17 rfl, sx_F (a := 16) (n := 200) (i := (a1)) hF14 rfl, sx_F (a := 16) (n := 200) (i := (a1)) hF4 rfl]
      refine wk_call tt_71 rfl rfl rfl rfl rfl tt_89 rfl (by decide) (w_fWant z σ19 ((sx_at σ 14 200 (a1))) ((sx_at σ 16 200 (a1))) _ (sx_R ..) (sx_R ..) w) (fun u79 σ75 hq77 => ?_)
      obtain ⟨rfl, hF76, w⟩ := hq77
      have w := w hF76
      exact wk_ls [(0, .inr (.inr (.ref 61))), (1, .inl (a1)), (2, .inl ((sx_at σ 13 200 (a1))))] rfl ⟨rfl, rfl, rfl, trivial⟩ (jn25 σ75 (sg_F_t (sg_F_r [74, 22061] σ19) (sg_F_m (L := [74, 22061]) hF76 rfl)) w)
  ·
    have w := w.2 h11
    refine wk_b tt_71 3 (pc' := 35) (ls' := [(2, .inl ((sx_at σ 13 200 (a1)))), (0, .inr (.inr (.ref 61))), (1, .inl (a1))]) (st' := []) (σ' := (sg_w σ2 61 10 (3))) rfl ?_
    generalize hs81 : (sg_w σ2 61 10 (3)) = σ80
    have w := w σ80 hs81.symm
    have hF82 : sg_F [11061] σ2 σ80 := by rw [← hs81]; exact sg_F_w (sg_F_r _ _) rfl _
    exact wk_rV tt_71 rfl rfl ⟨rfl, (sg_F_t (sg_F_t (sg_F_r [62, 70, 71, 72, 73, 74, 78, 79, 80, 81, 82, 85, 86, 87, 8061, 11061, 11077, 12077, 13077, 14077, 15077, 16077, 17077, 18077, 19077, 22061, 23061, 24061] σ) (sg_F_m (L := [62, 70, 71, 72, 73, 74, 78, 79, 80, 81, 82, 85, 86, 87, 8061, 11061, 11077, 12077, 13077, 14077, 15077, 16077, 17077, 18077, 19077, 22061, 23061, 24061]) hF4 rfl)) (sg_F_m (L := [62, 70, 71, 72, 73, 74, 78, 79, 80, 81, 82, 85, 86, 87, 8061, 11061, 11077, 12077, 13077, 14077, 15077, 16077, 17077, 18077, 19077, 22061, 23061, 24061]) hF82 rfl)), w⟩
-- NestedVectors.invert
def V_xInvert (σ : sg_S) (a1 : Int) (Q : Int → sg_S → Prop) : Prop := (∃ (I4 : Nat → Int → sg_S → Prop) (X6 : sg_S → Prop), (∃ n, I4 n (0) σ) ∧ (∀ (n14 : Nat) (v1 : Int) (σ2 : sg_S), sg_R v1 → sg_F [76] σ σ2 → I4 n14 v1 σ2 → ((a1 ≤ v1 → X6 σ2) ∧ (v1 < a1 → ∀ σ41, σ41 = (sx_put σ2 76 200 (v1) ((-1))) → sg_R (v1 + 1) ∧ (∃ m, m < n14 ∧ I4 m ((v1 + 1)) σ41)))) ∧ (∀ (σ2 : sg_S), sg_F [76] σ σ2 → X6 σ2 → (∃ (I19 : Nat → Int → sg_S → Prop) (X21 : sg_S → Prop), (∃ n, I19 n (0) σ2) ∧ (∀ (n29 : Nat) (v16 : Int) (σ17 : sg_S), sg_R v16 → sg_F [76] σ2 σ17 → I19 n29 v16 σ17 → ((a1 ≤ v16 → X21 σ17) ∧ (v16 < a1 → (((sx_at σ 75 200 (v16)) < 0 → Q (0) σ17) ∧ (0 ≤ (sx_at σ 75 200 (v16)) → ((a1 ≤ (sx_at σ 75 200 (v16)) → Q (0) σ17) ∧ ((sx_at σ 75 200 (v16)) < a1 → (((sx_at σ17 76 200 ((sx_at σ 75 200 (v16)))) < 0 → ∀ σ35, σ35 = (sx_put σ17 76 200 ((sx_at σ 75 200 (v16))) (v16)) → sg_R (v16 + 1) ∧ (∃ m, m < n29 ∧ I19 m ((v16 + 1)) σ35)) ∧ (0 ≤ (sx_at σ17 76 200 ((sx_at σ 75 200 (v16)))) → Q (0) σ17))))))))) ∧ (∀ (σ17 : sg_S), sg_F [76] σ2 σ17 → X21 σ17 → Q (1) σ17))))
set_option maxHeartbeats 4000000 in
set_option maxRecDepth 8000 in
theorem w_xInvert (z : Value) (σ : sg_S) (a1 : Int) (Q : Int → sg_S → Prop) (ra1 : sg_R a1) (w : V_xInvert σ a1 Q) : wx z 1 17 0 [(0, .inr (.inr (.ref 75))), (1, .inl (a1)), (2, .inr (.inr (.ref 76)))] [] σ (fun v σ' => ∃ q, v = some (.inl q) ∧ (q = 0 ∨ q = 1) ∧ sg_F [76] σ σ' ∧ Q q σ') := by
  unfold V_xInvert at w
  refine wk_b tt_17 2 (pc' := 2) (ls' := [(3, .inl (0)), (0, .inr (.inr (.ref 75))), (1, .inl (a1)), (2, .inr (.inr (.ref 76)))]) (st' := []) (σ' := σ) rfl ?_
  obtain ⟨I4, X6, ⟨μ5, w11⟩, w12, w13⟩ := w
  have ex15 : ∀ (σ2 : sg_S), sg_F [76] σ σ2 → X6 σ2 → wx z 1 17 19 [(0, .inr (.inr (.ref 75))), (1, .inl (a1)), (2, .inr (.inr (.ref 76)))] [] σ2 (fun v σ' => ∃ q, v = some (.inl q) ∧ (q = 0 ∨ q = 1) ∧ sg_F [76] σ σ' ∧ Q q σ') := by
    intro σ2 hF3 w
    have w := w13 σ2 hF3 w
    refine wk_b tt_17 2 (pc' := 21) (ls' := [(3, .inl (0)), (0, .inr (.inr (.ref 75))), (1, .inl (a1)), (2, .inr (.inr (.ref 76)))]) (st' := []) (σ' := σ2) rfl ?_
    obtain ⟨I19, X21, ⟨μ20, w26⟩, w27, w28⟩ := w
    have ex30 : ∀ (σ17 : sg_S), sg_F [76] σ2 σ17 → X21 σ17 → wx z 1 17 68 [] [] σ17 (fun v σ' => ∃ q, v = some (.inl q) ∧ (q = 0 ∨ q = 1) ∧ sg_F [76] σ σ' ∧ Q q σ') := by
      intro σ17 hF18 w
      have w := w28 σ17 hF18 w
      refine wk_b tt_17 1 (pc' := 69) (ls' := []) (st' := [.inl (1)]) (σ' := σ17) rfl ?_
      exact wk_rZ tt_17 rfl rfl (by decide) ⟨_, rfl, (by decide), (sg_F_t (sg_F_t (sg_F_r [76] σ) (sg_F_m (L := [76]) hF3 rfl)) (sg_F_m (L := [76]) hF18 rfl)), w⟩
    have lp25 : ∀ (n29 : Nat) (v16 : Int) (σ17 : sg_S), sg_R v16 → sg_F [76] σ2 σ17 → I19 n29 v16 σ17 → wx z 1 17 21 [(0, .inr (.inr (.ref 75))), (1, .inl (a1)), (2, .inr (.inr (.ref 76))), (3, .inl (v16))] [] σ17 (fun v σ' => ∃ q, v = some (.inl q) ∧ (q = 0 ∨ q = 1) ∧ sg_F [76] σ σ' ∧ Q q σ') := by
      intro n29
      induction n29 using Nat.strongRecOn with
      | _ n29 ih23 =>
        intro v16 σ17 r22 hF18 w
        have w := w27 n29 v16 σ17 r22 hF18 w
        refine wk_b tt_17 2 (pc' := 23) (ls' := [(0, .inr (.inr (.ref 75))), (1, .inl (a1)), (2, .inr (.inr (.ref 76))), (3, .inl (v16))]) (st' := [.inl (a1), .inl (v16)]) (σ' := σ17) rfl ?_
        refine wk_if2 tt_17 (tgt := 68) rfl rfl r22 ra1 (fun (h31 : a1 ≤ v16) => ?_) (fun (h31 : v16 < a1) => ?_)
        ·
          have w := w.1 h31
          exact wk_ls [] rfl trivial (ex30  σ17  (sg_F_t (sg_F_r [76] σ2) (sg_F_m (L := [76]) hF18 rfl)) w)
        ·
          have w := w.2 h31
          refine wk_b tt_17 2 (pc' := 28) (ls' := [(0, .inr (.inr (.ref 75))), (1, .inl (a1)), (2, .inr (.inr (.ref 76))), (3, .inl (v16))]) (st' := [.inl (v16), .inr (.inr (.ref 75))]) (σ' := σ17) rfl ?_
          refine wk_callp tt_17 rfl rfl rfl rfl rfl tt_5 rfl (by decide) (at_i0 z σ17 75 200 (v16) rfl (by decide) r22) ?_
          show wx z 1 17 31 [(0, .inr (.inr (.ref 75))), (1, .inl (a1)), (2, .inr (.inr (.ref 76))), (3, .inl (v16))] [.inl ((sx_at σ17 75 200 (v16)))] σ17 (fun v σ' => ∃ q, v = some (.inl q) ∧ (q = 0 ∨ q = 1) ∧ sg_F [76] σ σ' ∧ Q q σ')
          rw [sx_F (a := 75) (n := 200) (i := (v16)) hF18 rfl, sx_F (a := 75) (n := 200) (i := (v16)) hF3 rfl]
          refine wk_b tt_17 2 (pc' := 35) (ls' := [(4, .inl ((sx_at σ 75 200 (v16)))), (0, .inr (.inr (.ref 75))), (1, .inl (a1)), (2, .inr (.inr (.ref 76))), (3, .inl (v16))]) (st' := [.inl ((sx_at σ 75 200 (v16)))]) (σ' := σ17) rfl ?_
          refine wk_if tt_17 (tgt := 53) rfl rfl (sx_R ..) (fun (h32 : (sx_at σ 75 200 (v16)) < 0) => ?_) (fun (h32 : 0 ≤ (sx_at σ 75 200 (v16))) => ?_)
          ·
            have w := w.1 h32
            refine wk_b tt_17 1 (pc' := 54) (ls' := [(4, .inl ((sx_at σ 75 200 (v16)))), (0, .inr (.inr (.ref 75))), (1, .inl (a1)), (2, .inr (.inr (.ref 76))), (3, .inl (v16))]) (st' := [.inl (0)]) (σ' := σ17) rfl ?_
            exact wk_rZ tt_17 rfl rfl (by decide) ⟨_, rfl, (by decide), (sg_F_t (sg_F_t (sg_F_r [76] σ) (sg_F_m (L := [76]) hF3 rfl)) (sg_F_m (L := [76]) hF18 rfl)), w⟩
          ·
            have w := w.2 h32
            refine wk_b tt_17 2 (pc' := 41) (ls' := [(4, .inl ((sx_at σ 75 200 (v16)))), (0, .inr (.inr (.ref 75))), (1, .inl (a1)), (2, .inr (.inr (.ref 76))), (3, .inl (v16))]) (st' := [.inl (a1), .inl ((sx_at σ 75 200 (v16)))]) (σ' := σ17) rfl ?_
            refine wk_if2 tt_17 (tgt := 53) rfl rfl (sx_R ..) ra1 (fun (h33 : a1 ≤ (sx_at σ 75 200 (v16))) => ?_) (fun (h33 : (sx_at σ 75 200 (v16)) < a1) => ?_)
            ·
              have w := w.1 h33
              refine wk_b tt_17 1 (pc' := 54) (ls' := [(4, .inl ((sx_at σ 75 200 (v16)))), (0, .inr (.inr (.ref 75))), (1, .inl (a1)), (2, .inr (.inr (.ref 76))), (3, .inl (v16))]) (st' := [.inl (0)]) (σ' := σ17) rfl ?_
              exact wk_rZ tt_17 rfl rfl (by decide) ⟨_, rfl, (by decide), (sg_F_t (sg_F_t (sg_F_r [76] σ) (sg_F_m (L := [76]) hF3 rfl)) (sg_F_m (L := [76]) hF18 rfl)), w⟩
            ·
              have w := w.2 h33
              refine wk_b tt_17 2 (pc' := 47) (ls' := [(4, .inl ((sx_at σ 75 200 (v16)))), (0, .inr (.inr (.ref 75))), (1, .inl (a1)), (2, .inr (.inr (.ref 76))), (3, .inl (v16))]) (st' := [.inl ((sx_at σ 75 200 (v16))), .inr (.inr (.ref 76))]) (σ' := σ17) rfl ?_
              refine wk_callp tt_17 rfl rfl rfl rfl rfl tt_5 rfl (by decide) (at_i0 z σ17 76 200 ((sx_at σ 75 200 (v16))) rfl (by decide) (sx_R ..)) ?_
              show wx z 1 17 50 [(4, .inl ((sx_at σ 75 200 (v16)))), (0, .inr (.inr (.ref 75))), (1, .inl (a1)), (2, .inr (.inr (.ref 76))), (3, .inl (v16))] [.inl ((sx_at σ17 76 200 ((sx_at σ 75 200 (v16)))))] σ17 (fun v σ' => ∃ q, v = some (.inl q) ∧ (q = 0 ∨ q = 1) ∧ sg_F [76] σ σ' ∧ Q q σ')
              refine wk_if tt_17 (tgt := 55) rfl rfl (sx_R ..) (fun (h34 : (sx_at σ17 76 200 ((sx_at σ 75 200 (v16)))) < 0) => ?_) (fun (h34 : 0 ≤ (sx_at σ17 76 200 ((sx_at σ 75 200 (v16))))) => ?_)
              ·
                have w := w.1 h34
                refine wk_b tt_17 3 (pc' := 59) (ls' := [(4, .inl ((sx_at σ 75 200 (v16)))), (0, .inr (.inr (.ref 75))), (1, .inl (a1)), (2, .inr (.inr (.ref 76))), (3, .inl (v16))]) (st' := [.inl (v16), .inl ((sx_at σ 75 200 (v16))), .inr (.inr (.ref 76))]) (σ' := σ17) rfl ?_
                refine wk_callp tt_17 rfl rfl rfl rfl rfl tt_21 rfl (by decide) (pt_i0 z σ17 76 200 ((sx_at σ 75 200 (v16))) (v16) rfl (by decide) (sx_R ..)) ?_
                show wx z 1 17 62 [(4, .inl ((sx_at σ 75 200 (v16)))), (0, .inr (.inr (.ref 75))), (1, .inl (a1)), (2, .inr (.inr (.ref 76))), (3, .inl (v16))] [] (sx_put σ17 76 200 ((sx_at σ 75 200 (v16))) (v16)) (fun v σ' => ∃ q, v = some (.inl q) ∧ (q = 0 ∨ q = 1) ∧ sg_F [76] σ σ' ∧ Q q σ')
                generalize hs36 : (sx_put σ17 76 200 ((sx_at σ 75 200 (v16))) (v16)) = σ35
                have w := w σ35 hs36.symm
                have hF37 : sg_F [76] σ17 σ35 := by rw [← hs36]; exact sg_F_p (sg_F_r _ _) rfl _ _ _
                obtain ⟨c38, w⟩ := w
                refine wk_b tt_17 2 (pc' := 21) (ls' := [(3, .inl ((v16 + 1))), (4, .inl ((sx_at σ 75 200 (v16)))), (0, .inr (.inr (.ref 75))), (1, .inl (a1)), (2, .inr (.inr (.ref 76)))]) (st' := []) (σ' := σ35) rfl ?_
                obtain ⟨m39, hm39, w⟩ := w
                exact wk_ls [(0, .inr (.inr (.ref 75))), (1, .inl (a1)), (2, .inr (.inr (.ref 76))), (3, .inl ((v16 + 1)))] rfl ⟨rfl, rfl, rfl, rfl, trivial⟩ (ih23 m39 hm39 ((v16 + 1)) σ35 c38 (sg_F_t (sg_F_t (sg_F_r [76] σ2) (sg_F_m (L := [76]) hF18 rfl)) (sg_F_m (L := [76]) hF37 rfl)) w)
              ·
                have w := w.2 h34
                refine wk_b tt_17 1 (pc' := 54) (ls' := [(4, .inl ((sx_at σ 75 200 (v16)))), (0, .inr (.inr (.ref 75))), (1, .inl (a1)), (2, .inr (.inr (.ref 76))), (3, .inl (v16))]) (st' := [.inl (0)]) (σ' := σ17) rfl ?_
                exact wk_rZ tt_17 rfl rfl (by decide) ⟨_, rfl, (by decide), (sg_F_t (sg_F_t (sg_F_r [76] σ) (sg_F_m (L := [76]) hF3 rfl)) (sg_F_m (L := [76]) hF18 rfl)), w⟩
    exact wk_ls [(0, .inr (.inr (.ref 75))), (1, .inl (a1)), (2, .inr (.inr (.ref 76))), (3, .inl (0))] rfl ⟨rfl, rfl, rfl, rfl, trivial⟩ (lp25 μ20 (0) σ2 (by decide) (sg_F_r _ _) w26)
  have lp10 : ∀ (n14 : Nat) (v1 : Int) (σ2 : sg_S), sg_R v1 → sg_F [76] σ σ2 → I4 n14 v1 σ2 → wx z 1 17 2 [(0, .inr (.inr (.ref 75))), (1, .inl (a1)), (2, .inr (.inr (.ref 76))), (3, .inl (v1))] [] σ2 (fun v σ' => ∃ q, v = some (.inl q) ∧ (q = 0 ∨ q = 1) ∧ sg_F [76] σ σ' ∧ Q q σ') := by
    intro n14
    induction n14 using Nat.strongRecOn with
    | _ n14 ih8 =>
      intro v1 σ2 r7 hF3 w
      have w := w12 n14 v1 σ2 r7 hF3 w
      refine wk_b tt_17 2 (pc' := 4) (ls' := [(0, .inr (.inr (.ref 75))), (1, .inl (a1)), (2, .inr (.inr (.ref 76))), (3, .inl (v1))]) (st' := [.inl (a1), .inl (v1)]) (σ' := σ2) rfl ?_
      refine wk_if2 tt_17 (tgt := 19) rfl rfl r7 ra1 (fun (h40 : a1 ≤ v1) => ?_) (fun (h40 : v1 < a1) => ?_)
      ·
        have w := w.1 h40
        exact wk_ls [(0, .inr (.inr (.ref 75))), (1, .inl (a1)), (2, .inr (.inr (.ref 76)))] rfl ⟨rfl, rfl, rfl, trivial⟩ (ex15  σ2  (sg_F_t (sg_F_r [76] σ) (sg_F_m (L := [76]) hF3 rfl)) w)
      ·
        have w := w.2 h40
        refine wk_b tt_17 3 (pc' := 10) (ls' := [(0, .inr (.inr (.ref 75))), (1, .inl (a1)), (2, .inr (.inr (.ref 76))), (3, .inl (v1))]) (st' := [.inl ((-1)), .inl (v1), .inr (.inr (.ref 76))]) (σ' := σ2) rfl ?_
        refine wk_callp tt_17 rfl rfl rfl rfl rfl tt_21 rfl (by decide) (pt_i0 z σ2 76 200 (v1) ((-1)) rfl (by decide) r7) ?_
        show wx z 1 17 13 [(0, .inr (.inr (.ref 75))), (1, .inl (a1)), (2, .inr (.inr (.ref 76))), (3, .inl (v1))] [] (sx_put σ2 76 200 (v1) ((-1))) (fun v σ' => ∃ q, v = some (.inl q) ∧ (q = 0 ∨ q = 1) ∧ sg_F [76] σ σ' ∧ Q q σ')
        generalize hs42 : (sx_put σ2 76 200 (v1) ((-1))) = σ41
        have w := w σ41 hs42.symm
        have hF43 : sg_F [76] σ2 σ41 := by rw [← hs42]; exact sg_F_p (sg_F_r _ _) rfl _ _ _
        obtain ⟨c44, w⟩ := w
        refine wk_b tt_17 2 (pc' := 2) (ls' := [(3, .inl ((v1 + 1))), (0, .inr (.inr (.ref 75))), (1, .inl (a1)), (2, .inr (.inr (.ref 76)))]) (st' := []) (σ' := σ41) rfl ?_
        obtain ⟨m45, hm45, w⟩ := w
        exact wk_ls [(0, .inr (.inr (.ref 75))), (1, .inl (a1)), (2, .inr (.inr (.ref 76))), (3, .inl ((v1 + 1)))] rfl ⟨rfl, rfl, rfl, rfl, trivial⟩ (ih8 m45 hm45 ((v1 + 1)) σ41 c44 (sg_F_t (sg_F_t (sg_F_r [76] σ) (sg_F_m (L := [76]) hF3 rfl)) (sg_F_m (L := [76]) hF43 rfl)) w)
  exact wk_ls [(0, .inr (.inr (.ref 75))), (1, .inl (a1)), (2, .inr (.inr (.ref 76))), (3, .inl (0))] rfl ⟨rfl, rfl, rfl, rfl, trivial⟩ (lp10 μ5 (0) σ (by decide) (sg_F_r _ _) w11)
-- NestedVectors$FlatRun.ordered
def V_fOrdered (σ : sg_S) (a1 : Int) (a2 : Int) (a3 : Int) (Q : Int → sg_S → Prop) : Prop := p_lCell σ (a1) (a3) ∧ p_lCell σ (a2) (a3) ∧ (((v_lCell σ (a1) (a3)) = (v_lCell σ (a2) (a3)) → (∃ (I9 : Nat → Int → sg_S → Prop) (X11 : sg_S → Prop), (∃ n, I9 n (0) σ) ∧ (∀ (n19 : Nat) (v6 : Int) (σ7 : sg_S), sg_R v6 → sg_F [75] σ σ7 → I9 n19 v6 σ7 → (((v_lCell σ (a1) (a3)) ≤ v6 → X11 σ7) ∧ (v6 < (v_lCell σ (a1) (a3)) → p_lItems σ (a2) ∧ p_lStart σ (a2) (a3) ∧ sg_R ((v_lStart σ (a2) (a3)) + v6) ∧ p_lCell σ ((v_lItems σ (a2))) (((v_lStart σ (a2) (a3)) + v6)) ∧ ∀ σ42, σ42 = (sx_put σ7 75 200 (v6) ((v_lCell σ ((v_lItems σ (a2))) (((v_lStart σ (a2) (a3)) + v6))))) → sg_R (v6 + 1) ∧ (∃ m, m < n19 ∧ I9 m ((v6 + 1)) σ42)))) ∧ (∀ (σ7 : sg_S), sg_F [75] σ σ7 → X11 σ7 → V_xInvert σ7 ((v_lCell σ (a1) (a3))) (fun q21 σ22 => (q21 = 0 ∨ q21 = 1) → sg_F [76] σ7 σ22 → ((¬ q21 = 0 → Q ((v_lCell σ (a1) (a3))) σ22) ∧ (q21 = 0 → V_lMiss σ22 (6) (fun σ29 => sg_F [15077] σ22 σ29 → Q (0) σ29))))))) ∧ (¬ (v_lCell σ (a1) (a3)) = (v_lCell σ (a2) (a3)) → V_lMiss σ (3) (fun σ48 => sg_F [15077] σ σ48 → Q (0) σ48)))
set_option maxHeartbeats 4000000 in
set_option maxRecDepth 8000 in
theorem w_fOrdered (z : Value) (σ : sg_S) (a1 : Int) (a2 : Int) (a3 : Int) (Q : Int → sg_S → Prop) (ra1 : sg_R a1) (ra2 : sg_R a2) (ra3 : sg_R a3) (w : V_fOrdered σ a1 a2 a3 Q) : wx z 2 72 0 [(0, .inr (.inr (.ref 61))), (1, .inl (a1)), (2, .inl (a2)), (3, .inl (a3))] [] σ (fun v σ' => ∃ q, v = some (.inl q) ∧ sg_R q ∧ sg_F [75, 76, 15077] σ σ' ∧ Q q σ') := by
  unfold V_fOrdered at w
  refine wk_b tt_72 4 (pc' := 6) (ls' := [(0, .inr (.inr (.ref 61))), (1, .inl (a1)), (2, .inl (a2)), (3, .inl (a3))]) (st' := [.inl (a3), .inl (a1), .inr (.inr (.ref 77))]) (σ' := σ) rfl ?_
  obtain ⟨c1, w⟩ := w
  refine wk_callp tt_72 rfl rfl rfl rfl rfl tt_100 rfl (by decide) (w_lCell z σ (a1) (a3) ra1 ra3 c1) ?_
  have r2 := vr_lCell σ  (a1) (a3) ra1 ra3 c1
  refine wk_b tt_72 6 (pc' := 19) (ls' := [(4, .inl ((v_lCell σ (a1) (a3)))), (0, .inr (.inr (.ref 61))), (1, .inl (a1)), (2, .inl (a2)), (3, .inl (a3))]) (st' := [.inl (a3), .inl (a2), .inr (.inr (.ref 77)), .inl ((v_lCell σ (a1) (a3)))]) (σ' := σ) rfl ?_
  obtain ⟨c3, w⟩ := w
  refine wk_callp tt_72 rfl rfl rfl rfl rfl tt_100 rfl (by decide) (w_lCell z σ (a2) (a3) ra2 ra3 c3) ?_
  have r4 := vr_lCell σ  (a2) (a3) ra2 ra3 c3
  refine wk_if2 tt_72 (tgt := 35) rfl rfl r2 r4 (fun (h5 : (v_lCell σ (a1) (a3)) = (v_lCell σ (a2) (a3))) => ?_) (fun (h5 : ¬ (v_lCell σ (a1) (a3)) = (v_lCell σ (a2) (a3))) => ?_)
  ·
    have w := w.1 h5
    refine wk_b tt_72 2 (pc' := 38) (ls' := [(5, .inl (0)), (4, .inl ((v_lCell σ (a1) (a3)))), (0, .inr (.inr (.ref 61))), (1, .inl (a1)), (2, .inl (a2)), (3, .inl (a3))]) (st' := []) (σ' := σ) rfl ?_
    obtain ⟨I9, X11, ⟨μ10, w16⟩, w17, w18⟩ := w
    have ex20 : ∀ (σ7 : sg_S), sg_F [75] σ σ7 → X11 σ7 → wx z 2 72 87 [(0, .inr (.inr (.ref 61))), (4, .inl ((v_lCell σ (a1) (a3))))] [] σ7 (fun v σ' => ∃ q, v = some (.inl q) ∧ sg_R q ∧ sg_F [75, 76, 15077] σ σ' ∧ Q q σ') := by
      intro σ7 hF8 w
      have w := w18 σ7 hF8 w
      refine wk_b tt_72 5 (pc' := 97) (ls' := [(0, .inr (.inr (.ref 61))), (4, .inl ((v_lCell σ (a1) (a3))))]) (st' := [.inr (.inr (.ref 76)), .inl ((v_lCell σ (a1) (a3))), .inr (.inr (.ref 75))]) (σ' := σ7) rfl ?_
      refine wk_call tt_72 rfl rfl rfl rfl rfl tt_17 rfl (by decide) (w_xInvert z σ7 ((v_lCell σ (a1) (a3))) _ r2 w) (fun u26 σ22 hq24 => ?_)
      obtain ⟨q21, rfl, r25, hF23, w⟩ := hq24
      have w := w r25 hF23
      refine wk_if tt_72 (tgt := 114) rfl rfl (sg_Rz r25) (fun (h27 : ¬ q21 = 0) => ?_) (fun (h27 : q21 = 0) => ?_)
      ·
        have w := w.1 h27
        refine wk_b tt_72 1 (pc' := 116) (ls' := [(0, .inr (.inr (.ref 61))), (4, .inl ((v_lCell σ (a1) (a3))))]) (st' := [.inl ((v_lCell σ (a1) (a3)))]) (σ' := σ22) rfl ?_
        exact wk_rI tt_72 rfl rfl ⟨_, rfl, r2, (sg_F_t (sg_F_t (sg_F_r [75, 76, 15077] σ) (sg_F_m (L := [75, 76, 15077]) hF8 rfl)) (sg_F_m (L := [75, 76, 15077]) hF23 rfl)), w⟩
      ·
        have w := w.2 h27
        refine wk_b tt_72 3 (pc' := 109) (ls' := [(0, .inr (.inr (.ref 61))), (4, .inl ((v_lCell σ (a1) (a3))))]) (st' := [.inl (6), .inr (.inr (.ref 77))]) (σ' := σ22) rfl ?_
        refine wk_call tt_72 rfl rfl rfl rfl rfl tt_108 rfl (by decide) (w_lMiss z σ22 (6) _ (by decide) w) (fun u33 σ29 hq31 => ?_)
        obtain ⟨rfl, hF30, w⟩ := hq31
        have w := w hF30
        refine wk_b tt_72 1 (pc' := 113) (ls' := [(0, .inr (.inr (.ref 61))), (4, .inl ((v_lCell σ (a1) (a3))))]) (st' := [.inl (0)]) (σ' := σ29) rfl ?_
        exact wk_rI tt_72 rfl rfl ⟨_, rfl, (by decide), (sg_F_t (sg_F_t (sg_F_t (sg_F_r [75, 76, 15077] σ) (sg_F_m (L := [75, 76, 15077]) hF8 rfl)) (sg_F_m (L := [75, 76, 15077]) hF23 rfl)) (sg_F_m (L := [75, 76, 15077]) hF30 rfl)), w⟩
    have lp15 : ∀ (n19 : Nat) (v6 : Int) (σ7 : sg_S), sg_R v6 → sg_F [75] σ σ7 → I9 n19 v6 σ7 → wx z 2 72 38 [(0, .inr (.inr (.ref 61))), (2, .inl (a2)), (3, .inl (a3)), (4, .inl ((v_lCell σ (a1) (a3)))), (5, .inl (v6))] [] σ7 (fun v σ' => ∃ q, v = some (.inl q) ∧ sg_R q ∧ sg_F [75, 76, 15077] σ σ' ∧ Q q σ') := by
      intro n19
      induction n19 using Nat.strongRecOn with
      | _ n19 ih13 =>
        intro v6 σ7 r12 hF8 w
        have w := w17 n19 v6 σ7 r12 hF8 w
        refine wk_b tt_72 2 (pc' := 42) (ls' := [(0, .inr (.inr (.ref 61))), (2, .inl (a2)), (3, .inl (a3)), (4, .inl ((v_lCell σ (a1) (a3)))), (5, .inl (v6))]) (st' := [.inl ((v_lCell σ (a1) (a3))), .inl (v6)]) (σ' := σ7) rfl ?_
        refine wk_if2 tt_72 (tgt := 87) rfl rfl r12 r2 (fun (h34 : (v_lCell σ (a1) (a3)) ≤ v6) => ?_) (fun (h34 : v6 < (v_lCell σ (a1) (a3))) => ?_)
        ·
          have w := w.1 h34
          exact wk_ls [(0, .inr (.inr (.ref 61))), (4, .inl ((v_lCell σ (a1) (a3))))] rfl ⟨rfl, rfl, trivial⟩ (ex20  σ7  (sg_F_t (sg_F_r [75] σ) (sg_F_m (L := [75]) hF8 rfl)) w)
        ·
          have w := w.2 h34
          refine wk_b tt_72 8 (pc' := 60) (ls' := [(0, .inr (.inr (.ref 61))), (2, .inl (a2)), (3, .inl (a3)), (4, .inl ((v_lCell σ (a1) (a3)))), (5, .inl (v6))]) (st' := [.inl (a2), .inr (.inr (.ref 77)), .inr (.inr (.ref 77)), .inl (v6), .inr (.inr (.ref 75))]) (σ' := σ7) rfl ?_
          obtain ⟨c35, w⟩ := w
          have c35 : p_lItems σ7 (a2) := by
            rw [pF_lItems hF8 rfl]; exact c35
          refine wk_callp tt_72 rfl rfl rfl rfl rfl tt_106 rfl (by decide) (w_lItems z σ7 (a2) ra2 c35) ?_
          rw [vF_lItems hF8 rfl]
          have r36 := vr_lItems σ  (a2) ra2 (by have q := c35; rw [pF_lItems hF8 rfl] at q; exact q)
          refine wk_b tt_72 4 (pc' := 69) (ls' := [(0, .inr (.inr (.ref 61))), (2, .inl (a2)), (3, .inl (a3)), (4, .inl ((v_lCell σ (a1) (a3)))), (5, .inl (v6))]) (st' := [.inl (a3), .inl (a2), .inr (.inr (.ref 77)), .inl ((v_lItems σ (a2))), .inr (.inr (.ref 77)), .inl (v6), .inr (.inr (.ref 75))]) (σ' := σ7) rfl ?_
          obtain ⟨c37, w⟩ := w
          have c37 : p_lStart σ7 (a2) (a3) := by
            rw [pF_lStart hF8 rfl rfl]; exact c37
          refine wk_callp tt_72 rfl rfl rfl rfl rfl tt_114 rfl (by decide) (w_lStart z σ7 (a2) (a3) ra2 ra3 c37) ?_
          rw [vF_lStart hF8 rfl rfl]
          have r38 := vr_lStart σ  (a2) (a3) ra2 ra3 (by have q := c37; rw [pF_lStart hF8 rfl rfl] at q; exact q)
          obtain ⟨c39, w⟩ := w
          refine wk_b tt_72 2 (pc' := 75) (ls' := [(0, .inr (.inr (.ref 61))), (2, .inl (a2)), (3, .inl (a3)), (4, .inl ((v_lCell σ (a1) (a3)))), (5, .inl (v6))]) (st' := [.inl (((v_lStart σ (a2) (a3)) + v6)), .inl ((v_lItems σ (a2))), .inr (.inr (.ref 77)), .inl (v6), .inr (.inr (.ref 75))]) (σ' := σ7) rfl ?_
          obtain ⟨c40, w⟩ := w
          have c40 : p_lCell σ7 ((v_lItems σ (a2))) (((v_lStart σ (a2) (a3)) + v6)) := by
            rw [pF_lCell hF8 rfl rfl]; exact c40
          refine wk_callp tt_72 rfl rfl rfl rfl rfl tt_100 rfl (by decide) (w_lCell z σ7 ((v_lItems σ (a2))) (((v_lStart σ (a2) (a3)) + v6)) r36 c39 c40) ?_
          rw [vF_lCell hF8 rfl rfl]
          have r41 := vr_lCell σ  ((v_lItems σ (a2))) (((v_lStart σ (a2) (a3)) + v6)) r36 c39 (by have q := c40; rw [pF_lCell hF8 rfl rfl] at q; exact q)
          refine wk_callp tt_72 rfl rfl rfl rfl rfl tt_21 rfl (by decide) (pt_i0 z σ7 75 200 (v6) ((v_lCell σ ((v_lItems σ (a2))) (((v_lStart σ (a2) (a3)) + v6)))) rfl (by decide) r12) ?_
          show wx z 2 72 81 [(0, .inr (.inr (.ref 61))), (2, .inl (a2)), (3, .inl (a3)), (4, .inl ((v_lCell σ (a1) (a3)))), (5, .inl (v6))] [] (sx_put σ7 75 200 (v6) ((v_lCell σ ((v_lItems σ (a2))) (((v_lStart σ (a2) (a3)) + v6))))) (fun v σ' => ∃ q, v = some (.inl q) ∧ sg_R q ∧ sg_F [75, 76, 15077] σ σ' ∧ Q q σ')
          generalize hs43 : (sx_put σ7 75 200 (v6) ((v_lCell σ ((v_lItems σ (a2))) (((v_lStart σ (a2) (a3)) + v6))))) = σ42
          have w := w σ42 hs43.symm
          have hF44 : sg_F [75] σ7 σ42 := by rw [← hs43]; exact sg_F_p (sg_F_r _ _) rfl _ _ _
          obtain ⟨c45, w⟩ := w
          refine wk_b tt_72 2 (pc' := 38) (ls' := [(5, .inl ((v6 + 1))), (0, .inr (.inr (.ref 61))), (2, .inl (a2)), (3, .inl (a3)), (4, .inl ((v_lCell σ (a1) (a3))))]) (st' := []) (σ' := σ42) rfl ?_
          obtain ⟨m46, hm46, w⟩ := w
          exact wk_ls [(0, .inr (.inr (.ref 61))), (2, .inl (a2)), (3, .inl (a3)), (4, .inl ((v_lCell σ (a1) (a3)))), (5, .inl ((v6 + 1)))] rfl ⟨rfl, rfl, rfl, rfl, rfl, trivial⟩ (ih13 m46 hm46 ((v6 + 1)) σ42 c45 (sg_F_t (sg_F_t (sg_F_r [75] σ) (sg_F_m (L := [75]) hF8 rfl)) (sg_F_m (L := [75]) hF44 rfl)) w)
    exact wk_ls [(0, .inr (.inr (.ref 61))), (2, .inl (a2)), (3, .inl (a3)), (4, .inl ((v_lCell σ (a1) (a3)))), (5, .inl (0))] rfl ⟨rfl, rfl, rfl, rfl, rfl, trivial⟩ (lp15 μ10 (0) σ (by decide) (sg_F_r _ _) w16)
  ·
    have w := w.2 h5
    refine wk_b tt_72 3 (pc' := 30) (ls' := [(4, .inl ((v_lCell σ (a1) (a3)))), (0, .inr (.inr (.ref 61))), (1, .inl (a1)), (2, .inl (a2)), (3, .inl (a3))]) (st' := [.inl (3), .inr (.inr (.ref 77))]) (σ' := σ) rfl ?_
    refine wk_call tt_72 rfl rfl rfl rfl rfl tt_108 rfl (by decide) (w_lMiss z σ (3) _ (by decide) w) (fun u52 σ48 hq50 => ?_)
    obtain ⟨rfl, hF49, w⟩ := hq50
    have w := w hF49
    refine wk_b tt_72 1 (pc' := 34) (ls' := [(4, .inl ((v_lCell σ (a1) (a3)))), (0, .inr (.inr (.ref 61))), (1, .inl (a1)), (2, .inl (a2)), (3, .inl (a3))]) (st' := [.inl (0)]) (σ' := σ48) rfl ?_
    exact wk_rI tt_72 rfl rfl ⟨_, rfl, (by decide), (sg_F_t (sg_F_r [75, 76, 15077] σ) (sg_F_m (L := [75, 76, 15077]) hF49 rfl)), w⟩
-- NestedVectors$FlatRun.pack
def V_fPack (σ : sg_S) (a1 : Int) (a2 : Int) (Q : sg_S → Prop) : Prop := (∃ (I4 : Nat → Int → sg_S → Prop) (X6 : sg_S → Prop), (∃ n, I4 n (0) σ) ∧ (∀ (n14 : Nat) (v1 : Int) (σ2 : sg_S), sg_R v1 → sg_F [83, 85, 86, 87, 12077, 14077, 15077, 16077] σ σ2 → I4 n14 v1 σ2 → (((sg_g σ 61 23) ≤ v1 → X6 σ2) ∧ (v1 < (sg_g σ 61 23) → p_lCell σ (a1) (v1) ∧ p_lCell σ (a2) (v1) ∧ (∃ P29 : Int → sg_S → Prop, (((v_lCell σ (a1) (v1)) = (v_lCell σ (a2) (v1)) → P29 ((v_lCell σ (a1) (v1))) σ2) ∧ (¬ (v_lCell σ (a1) (v1)) = (v_lCell σ (a2) (v1)) → V_lMiss σ2 (3) (fun σ92 => sg_F [15077] σ2 σ92 → P29 (0) σ92))) ∧ (∀ (v32 : Int) (σ30 : sg_S), sg_R v32 → sg_F [15077] σ2 σ30 → P29 v32 σ30 → p_lStart σ (a1) (v1) ∧ (∃ (I41 : Nat → Int → Int → sg_S → Prop) (X43 : Int → sg_S → Prop), (∃ n, I41 n (0) (0) σ30) ∧ (∀ (n52 : Nat) (v37 : Int) (v38 : Int) (σ39 : sg_S), sg_R v37 → sg_R v38 → sg_F [85, 86, 87, 14077, 16077] σ30 σ39 → I41 n52 v37 v38 σ39 → ((v32 ≤ v38 → X43 (v37) σ39) ∧ (v38 < v32 → p_lItems σ (a2) ∧ p_lStart σ (a2) (v1) ∧ sg_R ((v_lStart σ (a2) (v1)) + v38) ∧ p_lCell σ ((v_lItems σ (a2))) (((v_lStart σ (a2) (v1)) + v38)) ∧ (∃ P72 : Int → sg_S → Prop, (((v_lCell σ ((v_lItems σ (a2))) (((v_lStart σ (a2) (v1)) + v38))) = 0 → P72 (v37) σ39) ∧ (¬ (v_lCell σ ((v_lItems σ (a2))) (((v_lStart σ (a2) (v1)) + v38))) = 0 → sg_R (v37 + 1) ∧ p_lItems σ (a1) ∧ sg_R ((v_lStart σ (a1) (v1)) + v38) ∧ sg_R (((v_lStart σ (a1) (v1)) + v38) + 1) ∧ V_lPick σ39 ((v_lItems σ (a1))) (((v_lStart σ (a1) (v1)) + v38)) ((((v_lStart σ (a1) (v1)) + v38) + 1)) (fun σ86 => sg_F [85, 86, 87, 14077, 16077] σ39 σ86 → P72 ((v37 + 1)) σ86))) ∧ (∀ (v75 : Int) (σ73 : sg_S), sg_R v75 → sg_F [85, 86, 87, 14077, 16077] σ39 σ73 → P72 v75 σ73 → sg_R (v38 + 1) ∧ (∃ m, m < n52 ∧ I41 m (v75) ((v38 + 1)) σ73)))))) ∧ (∀ (v37 : Int) (σ39 : sg_S), sg_R v37 → sg_F [85, 86, 87, 14077, 16077] σ30 σ39 → X43 v37 σ39 → V_lFirst σ39 (v37) (fun σ55 => sg_F [83, 12077, 16077] σ39 σ55 → sg_R (v1 + 1) ∧ (∃ m, m < n14 ∧ I4 m ((v1 + 1)) σ55))))))))) ∧ (∀ (σ2 : sg_S), sg_F [83, 85, 86, 87, 12077, 14077, 15077, 16077] σ σ2 → X6 σ2 → V_fGive σ2 (1) (fun σ17 => sg_F [64, 78, 79, 80, 81, 82, 85, 86, 87, 8061, 11061, 11077, 12077, 13077, 14077, 15077, 16077, 17077, 18077, 19077] σ2 σ17 → Q σ17)))
set_option maxHeartbeats 4000000 in
set_option maxRecDepth 8000 in
theorem w_fPack (z : Value) (σ : sg_S) (a1 : Int) (a2 : Int) (Q : sg_S → Prop) (ra1 : sg_R a1) (ra2 : sg_R a2) (w : V_fPack σ a1 a2 Q) : wx z 4 73 0 [(0, .inr (.inr (.ref 61))), (1, .inl (a1)), (2, .inl (a2))] [] σ (fun v σ' => v = none ∧ sg_F [64, 78, 79, 80, 81, 82, 83, 85, 86, 87, 8061, 11061, 11077, 12077, 13077, 14077, 15077, 16077, 17077, 18077, 19077] σ σ' ∧ Q σ') := by
  unfold V_fPack at w
  refine wk_b tt_73 2 (pc' := 2) (ls' := [(3, .inl (0)), (0, .inr (.inr (.ref 61))), (1, .inl (a1)), (2, .inl (a2))]) (st' := []) (σ' := σ) rfl ?_
  obtain ⟨I4, X6, ⟨μ5, w11⟩, w12, w13⟩ := w
  have ex15 : ∀ (σ2 : sg_S), sg_F [83, 85, 86, 87, 12077, 14077, 15077, 16077] σ σ2 → X6 σ2 → wx z 4 73 151 [(0, .inr (.inr (.ref 61)))] [] σ2 (fun v σ' => v = none ∧ sg_F [64, 78, 79, 80, 81, 82, 83, 85, 86, 87, 8061, 11061, 11077, 12077, 13077, 14077, 15077, 16077, 17077, 18077, 19077] σ σ' ∧ Q σ') := by
    intro σ2 hF3 w
    have w := w13 σ2 hF3 w
    refine wk_b tt_73 2 (pc' := 153) (ls' := [(0, .inr (.inr (.ref 61)))]) (st' := [.inl (1), .inr (.inr (.ref 61))]) (σ' := σ2) rfl ?_
    refine wk_call tt_73 rfl rfl rfl rfl rfl tt_65 rfl (by decide) (w_fGive z σ2 (1) _ (by decide) w) (fun u21 σ17 hq19 => ?_)
    obtain ⟨rfl, hF18, w⟩ := hq19
    have w := w hF18
    exact wk_rV tt_73 rfl rfl ⟨rfl, (sg_F_t (sg_F_t (sg_F_r [64, 78, 79, 80, 81, 82, 83, 85, 86, 87, 8061, 11061, 11077, 12077, 13077, 14077, 15077, 16077, 17077, 18077, 19077] σ) (sg_F_m (L := [64, 78, 79, 80, 81, 82, 83, 85, 86, 87, 8061, 11061, 11077, 12077, 13077, 14077, 15077, 16077, 17077, 18077, 19077]) hF3 rfl)) (sg_F_m (L := [64, 78, 79, 80, 81, 82, 83, 85, 86, 87, 8061, 11061, 11077, 12077, 13077, 14077, 15077, 16077, 17077, 18077, 19077]) hF18 rfl)), w⟩
  have lp10 : ∀ (n14 : Nat) (v1 : Int) (σ2 : sg_S), sg_R v1 → sg_F [83, 85, 86, 87, 12077, 14077, 15077, 16077] σ σ2 → I4 n14 v1 σ2 → wx z 4 73 2 [(0, .inr (.inr (.ref 61))), (1, .inl (a1)), (2, .inl (a2)), (3, .inl (v1))] [] σ2 (fun v σ' => v = none ∧ sg_F [64, 78, 79, 80, 81, 82, 83, 85, 86, 87, 8061, 11061, 11077, 12077, 13077, 14077, 15077, 16077, 17077, 18077, 19077] σ σ' ∧ Q σ') := by
    intro n14
    induction n14 using Nat.strongRecOn with
    | _ n14 ih8 =>
      intro v1 σ2 r7 hF3 w
      have w := w12 n14 v1 σ2 r7 hF3 w
      refine wk_b tt_73 3 (pc' := 7) (ls' := [(0, .inr (.inr (.ref 61))), (1, .inl (a1)), (2, .inl (a2)), (3, .inl (v1))]) (st' := [.inl ((sg_g σ2 61 23)), .inl (v1)]) (σ' := σ2) rfl ?_
      rw [show (sg_g σ2 61 23) = (sg_g σ 61 23) from by rw [sg_F_ga hF3 rfl]]
      refine wk_if2 tt_73 (tgt := 151) rfl rfl r7 (sg_Rg _ _ _) (fun (h22 : (sg_g σ 61 23) ≤ v1) => ?_) (fun (h22 : v1 < (sg_g σ 61 23)) => ?_)
      ·
        have w := w.1 h22
        exact wk_ls [(0, .inr (.inr (.ref 61)))] rfl ⟨rfl, trivial⟩ (ex15  σ2  (sg_F_t (sg_F_r [83, 85, 86, 87, 12077, 14077, 15077, 16077] σ) (sg_F_m (L := [83, 85, 86, 87, 12077, 14077, 15077, 16077]) hF3 rfl)) w)
      ·
        have w := w.2 h22
        refine wk_b tt_73 4 (pc' := 16) (ls' := [(0, .inr (.inr (.ref 61))), (1, .inl (a1)), (2, .inl (a2)), (3, .inl (v1))]) (st' := [.inl (v1), .inl (a1), .inr (.inr (.ref 77))]) (σ' := σ2) rfl ?_
        obtain ⟨c23, w⟩ := w
        have c23 : p_lCell σ2 (a1) (v1) := by
          rw [pF_lCell hF3 rfl rfl]; exact c23
        refine wk_callp tt_73 rfl rfl rfl rfl rfl tt_100 rfl (by decide) (w_lCell z σ2 (a1) (v1) ra1 r7 c23) ?_
        rw [vF_lCell hF3 rfl rfl]
        have r24 := vr_lCell σ  (a1) (v1) ra1 r7 (by have q := c23; rw [pF_lCell hF3 rfl rfl] at q; exact q)
        refine wk_b tt_73 8 (pc' := 32) (ls' := [(5, .inl (0)), (4, .inl ((v_lCell σ (a1) (v1)))), (0, .inr (.inr (.ref 61))), (1, .inl (a1)), (2, .inl (a2)), (3, .inl (v1))]) (st' := [.inl (v1), .inl (a2), .inr (.inr (.ref 77)), .inl ((v_lCell σ (a1) (v1)))]) (σ' := σ2) rfl ?_
        obtain ⟨c25, w⟩ := w
        have c25 : p_lCell σ2 (a2) (v1) := by
          rw [pF_lCell hF3 rfl rfl]; exact c25
        refine wk_callp tt_73 rfl rfl rfl rfl rfl tt_100 rfl (by decide) (w_lCell z σ2 (a2) (v1) ra2 r7 c25) ?_
        rw [vF_lCell hF3 rfl rfl]
        have r26 := vr_lCell σ  (a2) (v1) ra2 r7 (by have q := c25; rw [pF_lCell hF3 rfl rfl] at q; exact q)
        obtain ⟨P29, w, w34⟩ := w
        have jn28 : ∀ (v32 : Int) (σ30 : sg_S), sg_R v32 → sg_F [15077] σ2 σ30 → P29 v32 σ30 → wx z 4 73 49 [(0, .inr (.inr (.ref 61))), (1, .inl (a1)), (2, .inl (a2)), (3, .inl (v1)), (4, .inl (v32)), (5, .inl (0))] [] σ30 (fun v σ' => v = none ∧ sg_F [64, 78, 79, 80, 81, 82, 83, 85, 86, 87, 8061, 11061, 11077, 12077, 13077, 14077, 15077, 16077, 17077, 18077, 19077] σ σ' ∧ Q σ') := by
          intro v32 σ30 r33 hF31 w
          have w := w34 v32 σ30 r33 hF31 w
          refine wk_b tt_73 4 (pc' := 55) (ls' := [(0, .inr (.inr (.ref 61))), (1, .inl (a1)), (2, .inl (a2)), (3, .inl (v1)), (4, .inl (v32)), (5, .inl (0))]) (st' := [.inl (v1), .inl (a1), .inr (.inr (.ref 77))]) (σ' := σ30) rfl ?_
          obtain ⟨c35, w⟩ := w
          have c35 : p_lStart σ30 (a1) (v1) := by
            rw [pF_lStart hF31 rfl rfl, pF_lStart hF3 rfl rfl]; exact c35
          refine wk_callp tt_73 rfl rfl rfl rfl rfl tt_114 rfl (by decide) (w_lStart z σ30 (a1) (v1) ra1 r7 c35) ?_
          rw [vF_lStart hF31 rfl rfl, vF_lStart hF3 rfl rfl]
          have r36 := vr_lStart σ  (a1) (v1) ra1 r7 (by have q := c35; rw [pF_lStart hF31 rfl rfl, pF_lStart hF3 rfl rfl] at q; exact q)
          refine wk_b tt_73 3 (pc' := 63) (ls' := [(7, .inl (0)), (6, .inl ((v_lStart σ (a1) (v1)))), (0, .inr (.inr (.ref 61))), (1, .inl (a1)), (2, .inl (a2)), (3, .inl (v1)), (4, .inl (v32)), (5, .inl (0))]) (st' := []) (σ' := σ30) rfl ?_
          obtain ⟨I41, X43, ⟨μ42, w49⟩, w50, w51⟩ := w
          have ex53 : ∀ (v37 : Int) (σ39 : sg_S), sg_R v37 → sg_F [85, 86, 87, 14077, 16077] σ30 σ39 → X43 v37 σ39 → wx z 4 73 136 [(0, .inr (.inr (.ref 61))), (1, .inl (a1)), (2, .inl (a2)), (3, .inl (v1)), (5, .inl (v37))] [] σ39 (fun v σ' => v = none ∧ sg_F [64, 78, 79, 80, 81, 82, 83, 85, 86, 87, 8061, 11061, 11077, 12077, 13077, 14077, 15077, 16077, 17077, 18077, 19077] σ σ' ∧ Q σ') := by
            intro v37 σ39 r44 hF40 w
            have w := w51 v37 σ39 r44 hF40 w
            refine wk_b tt_73 3 (pc' := 142) (ls' := [(0, .inr (.inr (.ref 61))), (1, .inl (a1)), (2, .inl (a2)), (3, .inl (v1)), (5, .inl (v37))]) (st' := [.inl (v37), .inr (.inr (.ref 77))]) (σ' := σ39) rfl ?_
            refine wk_call tt_73 rfl rfl rfl rfl rfl tt_105 rfl (by decide) (w_lFirst z σ39 (v37) _ r44 w) (fun u59 σ55 hq57 => ?_)
            obtain ⟨rfl, hF56, w⟩ := hq57
            have w := w hF56
            obtain ⟨c60, w⟩ := w
            refine wk_b tt_73 2 (pc' := 2) (ls' := [(3, .inl ((v1 + 1))), (0, .inr (.inr (.ref 61))), (1, .inl (a1)), (2, .inl (a2)), (5, .inl (v37))]) (st' := []) (σ' := σ55) rfl ?_
            obtain ⟨m61, hm61, w⟩ := w
            exact wk_ls [(0, .inr (.inr (.ref 61))), (1, .inl (a1)), (2, .inl (a2)), (3, .inl ((v1 + 1)))] rfl ⟨rfl, rfl, rfl, rfl, trivial⟩ (ih8 m61 hm61 ((v1 + 1)) σ55 c60 (sg_F_t (sg_F_t (sg_F_t (sg_F_t (sg_F_r [83, 85, 86, 87, 12077, 14077, 15077, 16077] σ) (sg_F_m (L := [83, 85, 86, 87, 12077, 14077, 15077, 16077]) hF3 rfl)) (sg_F_m (L := [83, 85, 86, 87, 12077, 14077, 15077, 16077]) hF31 rfl)) (sg_F_m (L := [83, 85, 86, 87, 12077, 14077, 15077, 16077]) hF40 rfl)) (sg_F_m (L := [83, 85, 86, 87, 12077, 14077, 15077, 16077]) hF56 rfl)) w)
          have lp48 : ∀ (n52 : Nat) (v37 : Int) (v38 : Int) (σ39 : sg_S), sg_R v37 → sg_R v38 → sg_F [85, 86, 87, 14077, 16077] σ30 σ39 → I41 n52 v37 v38 σ39 → wx z 4 73 63 [(0, .inr (.inr (.ref 61))), (1, .inl (a1)), (2, .inl (a2)), (3, .inl (v1)), (4, .inl (v32)), (5, .inl (v37)), (6, .inl ((v_lStart σ (a1) (v1)))), (7, .inl (v38))] [] σ39 (fun v σ' => v = none ∧ sg_F [64, 78, 79, 80, 81, 82, 83, 85, 86, 87, 8061, 11061, 11077, 12077, 13077, 14077, 15077, 16077, 17077, 18077, 19077] σ σ' ∧ Q σ') := by
            intro n52
            induction n52 using Nat.strongRecOn with
            | _ n52 ih46 =>
              intro v37 v38 σ39 r44 r45 hF40 w
              have w := w50 n52 v37 v38 σ39 r44 r45 hF40 w
              refine wk_b tt_73 2 (pc' := 67) (ls' := [(0, .inr (.inr (.ref 61))), (1, .inl (a1)), (2, .inl (a2)), (3, .inl (v1)), (4, .inl (v32)), (5, .inl (v37)), (6, .inl ((v_lStart σ (a1) (v1)))), (7, .inl (v38))]) (st' := [.inl (v32), .inl (v38)]) (σ' := σ39) rfl ?_
              refine wk_if2 tt_73 (tgt := 136) rfl rfl r45 r33 (fun (h62 : v32 ≤ v38) => ?_) (fun (h62 : v38 < v32) => ?_)
              ·
                have w := w.1 h62
                exact wk_ls [(0, .inr (.inr (.ref 61))), (1, .inl (a1)), (2, .inl (a2)), (3, .inl (v1)), (5, .inl (v37))] rfl ⟨rfl, rfl, rfl, rfl, rfl, trivial⟩ (ex53 (v37) σ39 r44 (sg_F_t (sg_F_r [85, 86, 87, 14077, 16077] σ30) (sg_F_m (L := [85, 86, 87, 14077, 16077]) hF40 rfl)) w)
              ·
                have w := w.2 h62
                refine wk_b tt_73 5 (pc' := 79) (ls' := [(0, .inr (.inr (.ref 61))), (1, .inl (a1)), (2, .inl (a2)), (3, .inl (v1)), (4, .inl (v32)), (5, .inl (v37)), (6, .inl ((v_lStart σ (a1) (v1)))), (7, .inl (v38))]) (st' := [.inl (a2), .inr (.inr (.ref 77)), .inr (.inr (.ref 77))]) (σ' := σ39) rfl ?_
                obtain ⟨c63, w⟩ := w
                have c63 : p_lItems σ39 (a2) := by
                  rw [pF_lItems hF40 rfl, pF_lItems hF31 rfl, pF_lItems hF3 rfl]; exact c63
                refine wk_callp tt_73 rfl rfl rfl rfl rfl tt_106 rfl (by decide) (w_lItems z σ39 (a2) ra2 c63) ?_
                rw [vF_lItems hF40 rfl, vF_lItems hF31 rfl, vF_lItems hF3 rfl]
                have r64 := vr_lItems σ  (a2) ra2 (by have q := c63; rw [pF_lItems hF40 rfl, pF_lItems hF31 rfl, pF_lItems hF3 rfl] at q; exact q)
                refine wk_b tt_73 4 (pc' := 88) (ls' := [(0, .inr (.inr (.ref 61))), (1, .inl (a1)), (2, .inl (a2)), (3, .inl (v1)), (4, .inl (v32)), (5, .inl (v37)), (6, .inl ((v_lStart σ (a1) (v1)))), (7, .inl (v38))]) (st' := [.inl (v1), .inl (a2), .inr (.inr (.ref 77)), .inl ((v_lItems σ (a2))), .inr (.inr (.ref 77))]) (σ' := σ39) rfl ?_
                obtain ⟨c65, w⟩ := w
                have c65 : p_lStart σ39 (a2) (v1) := by
                  rw [pF_lStart hF40 rfl rfl, pF_lStart hF31 rfl rfl, pF_lStart hF3 rfl rfl]; exact c65
                refine wk_callp tt_73 rfl rfl rfl rfl rfl tt_114 rfl (by decide) (w_lStart z σ39 (a2) (v1) ra2 r7 c65) ?_
                rw [vF_lStart hF40 rfl rfl, vF_lStart hF31 rfl rfl, vF_lStart hF3 rfl rfl]
                have r66 := vr_lStart σ  (a2) (v1) ra2 r7 (by have q := c65; rw [pF_lStart hF40 rfl rfl, pF_lStart hF31 rfl rfl, pF_lStart hF3 rfl rfl] at q; exact q)
                obtain ⟨c67, w⟩ := w
                refine wk_b tt_73 2 (pc' := 94) (ls' := [(0, .inr (.inr (.ref 61))), (1, .inl (a1)), (2, .inl (a2)), (3, .inl (v1)), (4, .inl (v32)), (5, .inl (v37)), (6, .inl ((v_lStart σ (a1) (v1)))), (7, .inl (v38))]) (st' := [.inl (((v_lStart σ (a2) (v1)) + v38)), .inl ((v_lItems σ (a2))), .inr (.inr (.ref 77))]) (σ' := σ39) rfl ?_
                obtain ⟨c68, w⟩ := w
                have c68 : p_lCell σ39 ((v_lItems σ (a2))) (((v_lStart σ (a2) (v1)) + v38)) := by
                  rw [pF_lCell hF40 rfl rfl, pF_lCell hF31 rfl rfl, pF_lCell hF3 rfl rfl]; exact c68
                refine wk_callp tt_73 rfl rfl rfl rfl rfl tt_100 rfl (by decide) (w_lCell z σ39 ((v_lItems σ (a2))) (((v_lStart σ (a2) (v1)) + v38)) r64 c67 c68) ?_
                rw [vF_lCell hF40 rfl rfl, vF_lCell hF31 rfl rfl, vF_lCell hF3 rfl rfl]
                have r69 := vr_lCell σ  ((v_lItems σ (a2))) (((v_lStart σ (a2) (v1)) + v38)) r64 c67 (by have q := c68; rw [pF_lCell hF40 rfl rfl, pF_lCell hF31 rfl rfl, pF_lCell hF3 rfl rfl] at q; exact q)
                obtain ⟨P72, w, w77⟩ := w
                have jn71 : ∀ (v75 : Int) (σ73 : sg_S), sg_R v75 → sg_F [85, 86, 87, 14077, 16077] σ39 σ73 → P72 v75 σ73 → wx z 4 73 130 [(0, .inr (.inr (.ref 61))), (1, .inl (a1)), (2, .inl (a2)), (3, .inl (v1)), (4, .inl (v32)), (5, .inl (v75)), (6, .inl ((v_lStart σ (a1) (v1)))), (7, .inl (v38))] [] σ73 (fun v σ' => v = none ∧ sg_F [64, 78, 79, 80, 81, 82, 83, 85, 86, 87, 8061, 11061, 11077, 12077, 13077, 14077, 15077, 16077, 17077, 18077, 19077] σ σ' ∧ Q σ') := by
                  intro v75 σ73 r76 hF74 w
                  have w := w77 v75 σ73 r76 hF74 w
                  obtain ⟨c78, w⟩ := w
                  refine wk_b tt_73 2 (pc' := 63) (ls' := [(7, .inl ((v38 + 1))), (0, .inr (.inr (.ref 61))), (1, .inl (a1)), (2, .inl (a2)), (3, .inl (v1)), (4, .inl (v32)), (5, .inl (v75)), (6, .inl ((v_lStart σ (a1) (v1))))]) (st' := []) (σ' := σ73) rfl ?_
                  obtain ⟨m79, hm79, w⟩ := w
                  exact wk_ls [(0, .inr (.inr (.ref 61))), (1, .inl (a1)), (2, .inl (a2)), (3, .inl (v1)), (4, .inl (v32)), (5, .inl (v75)), (6, .inl ((v_lStart σ (a1) (v1)))), (7, .inl ((v38 + 1)))] rfl ⟨rfl, rfl, rfl, rfl, rfl, rfl, rfl, rfl, trivial⟩ (ih46 m79 hm79 (v75) ((v38 + 1)) σ73 r76 c78 (sg_F_t (sg_F_t (sg_F_r [85, 86, 87, 14077, 16077] σ30) (sg_F_m (L := [85, 86, 87, 14077, 16077]) hF40 rfl)) (sg_F_m (L := [85, 86, 87, 14077, 16077]) hF74 rfl)) w)
                refine wk_if tt_73 (tgt := 130) rfl rfl r69 (fun (h70 : (v_lCell σ ((v_lItems σ (a2))) (((v_lStart σ (a2) (v1)) + v38))) = 0) => ?_) (fun (h70 : ¬ (v_lCell σ ((v_lItems σ (a2))) (((v_lStart σ (a2) (v1)) + v38))) = 0) => ?_)
                ·
                  have w := w.1 h70
                  exact wk_ls [(0, .inr (.inr (.ref 61))), (1, .inl (a1)), (2, .inl (a2)), (3, .inl (v1)), (4, .inl (v32)), (5, .inl (v37)), (6, .inl ((v_lStart σ (a1) (v1)))), (7, .inl (v38))] rfl ⟨rfl, rfl, rfl, rfl, rfl, rfl, rfl, rfl, trivial⟩ (jn71 (v37) σ39 r44 (sg_F_r [85, 86, 87, 14077, 16077] σ39) w)
                ·
                  have w := w.2 h70
                  obtain ⟨c80, w⟩ := w
                  refine wk_b tt_73 6 (pc' := 112) (ls' := [(5, .inl ((v37 + 1))), (0, .inr (.inr (.ref 61))), (1, .inl (a1)), (2, .inl (a2)), (3, .inl (v1)), (4, .inl (v32)), (6, .inl ((v_lStart σ (a1) (v1)))), (7, .inl (v38))]) (st' := [.inl (a1), .inr (.inr (.ref 77)), .inr (.inr (.ref 77))]) (σ' := σ39) rfl ?_
                  obtain ⟨c81, w⟩ := w
                  have c81 : p_lItems σ39 (a1) := by
                    rw [pF_lItems hF40 rfl, pF_lItems hF31 rfl, pF_lItems hF3 rfl]; exact c81
                  refine wk_callp tt_73 rfl rfl rfl rfl rfl tt_106 rfl (by decide) (w_lItems z σ39 (a1) ra1 c81) ?_
                  rw [vF_lItems hF40 rfl, vF_lItems hF31 rfl, vF_lItems hF3 rfl]
                  have r82 := vr_lItems σ  (a1) ra1 (by have q := c81; rw [pF_lItems hF40 rfl, pF_lItems hF31 rfl, pF_lItems hF3 rfl] at q; exact q)
                  obtain ⟨c83, w⟩ := w
                  obtain ⟨c84, w⟩ := w
                  refine wk_b tt_73 8 (pc' := 127) (ls' := [(5, .inl ((v37 + 1))), (0, .inr (.inr (.ref 61))), (1, .inl (a1)), (2, .inl (a2)), (3, .inl (v1)), (4, .inl (v32)), (6, .inl ((v_lStart σ (a1) (v1)))), (7, .inl (v38))]) (st' := [.inl ((((v_lStart σ (a1) (v1)) + v38) + 1)), .inl (((v_lStart σ (a1) (v1)) + v38)), .inl ((v_lItems σ (a1))), .inr (.inr (.ref 77))]) (σ' := σ39) rfl ?_
                  refine wk_call tt_73 rfl rfl rfl rfl rfl tt_109 rfl (by decide) (w_lPick z σ39 ((v_lItems σ (a1))) (((v_lStart σ (a1) (v1)) + v38)) ((((v_lStart σ (a1) (v1)) + v38) + 1)) _ r82 c83 c84 w) (fun u90 σ86 hq88 => ?_)
                  obtain ⟨rfl, hF87, w⟩ := hq88
                  have w := w hF87
                  exact wk_ls [(0, .inr (.inr (.ref 61))), (1, .inl (a1)), (2, .inl (a2)), (3, .inl (v1)), (4, .inl (v32)), (5, .inl ((v37 + 1))), (6, .inl ((v_lStart σ (a1) (v1)))), (7, .inl (v38))] rfl ⟨rfl, rfl, rfl, rfl, rfl, rfl, rfl, rfl, trivial⟩ (jn71 ((v37 + 1)) σ86 c80 (sg_F_t (sg_F_r [85, 86, 87, 14077, 16077] σ39) (sg_F_m (L := [85, 86, 87, 14077, 16077]) hF87 rfl)) w)
          exact wk_ls [(0, .inr (.inr (.ref 61))), (1, .inl (a1)), (2, .inl (a2)), (3, .inl (v1)), (4, .inl (v32)), (5, .inl (0)), (6, .inl ((v_lStart σ (a1) (v1)))), (7, .inl (0))] rfl ⟨rfl, rfl, rfl, rfl, rfl, rfl, rfl, rfl, trivial⟩ (lp48 μ42 (0) (0) σ30 (by decide) (by decide) (sg_F_r _ _) w49)
        refine wk_if2 tt_73 (tgt := 49) rfl rfl r24 r26 (fun (h27 : (v_lCell σ (a1) (v1)) = (v_lCell σ (a2) (v1))) => ?_) (fun (h27 : ¬ (v_lCell σ (a1) (v1)) = (v_lCell σ (a2) (v1))) => ?_)
        ·
          have w := w.1 h27
          exact wk_ls [(0, .inr (.inr (.ref 61))), (1, .inl (a1)), (2, .inl (a2)), (3, .inl (v1)), (4, .inl ((v_lCell σ (a1) (v1)))), (5, .inl (0))] rfl ⟨rfl, rfl, rfl, rfl, rfl, rfl, trivial⟩ (jn28 ((v_lCell σ (a1) (v1))) σ2 r24 (sg_F_r [15077] σ2) w)
        ·
          have w := w.2 h27
          refine wk_b tt_73 3 (pc' := 43) (ls' := [(5, .inl (0)), (4, .inl ((v_lCell σ (a1) (v1)))), (0, .inr (.inr (.ref 61))), (1, .inl (a1)), (2, .inl (a2)), (3, .inl (v1))]) (st' := [.inl (3), .inr (.inr (.ref 77))]) (σ' := σ2) rfl ?_
          refine wk_call tt_73 rfl rfl rfl rfl rfl tt_108 rfl (by decide) (w_lMiss z σ2 (3) _ (by decide) w) (fun u96 σ92 hq94 => ?_)
          obtain ⟨rfl, hF93, w⟩ := hq94
          have w := w hF93
          refine wk_b tt_73 2 (pc' := 49) (ls' := [(4, .inl (0)), (5, .inl (0)), (0, .inr (.inr (.ref 61))), (1, .inl (a1)), (2, .inl (a2)), (3, .inl (v1))]) (st' := []) (σ' := σ92) rfl ?_
          exact wk_ls [(0, .inr (.inr (.ref 61))), (1, .inl (a1)), (2, .inl (a2)), (3, .inl (v1)), (4, .inl (0)), (5, .inl (0))] rfl ⟨rfl, rfl, rfl, rfl, rfl, rfl, trivial⟩ (jn28 (0) σ92 (by decide) (sg_F_t (sg_F_r [15077] σ2) (sg_F_m (L := [15077]) hF93 rfl)) w)
  exact wk_ls [(0, .inr (.inr (.ref 61))), (1, .inl (a1)), (2, .inl (a2)), (3, .inl (0))] rfl ⟨rfl, rfl, rfl, rfl, trivial⟩ (lp10 μ5 (0) σ (by decide) (sg_F_r _ _) w11)
-- NestedVectors$FlatRun.permute
def V_fPermute (σ : sg_S) (a1 : Int) (a2 : Int) (Q : sg_S → Prop) : Prop := (∃ (I4 : Nat → Int → sg_S → Prop) (X6 : sg_S → Prop), (∃ n, I4 n (0) σ) ∧ (∀ (n14 : Nat) (v1 : Int) (σ2 : sg_S), sg_R v1 → sg_F [75, 76, 83, 85, 86, 87, 12077, 14077, 15077, 16077] σ σ2 → I4 n14 v1 σ2 → (((sg_g σ 61 23) ≤ v1 → X6 σ2) ∧ (v1 < (sg_g σ 61 23) → V_fOrdered σ2 (a1) (a2) (v1) (fun q23 σ24 => sg_R q23 → sg_F [75, 76, 15077] σ2 σ24 → p_lStart σ (a1) (v1) ∧ V_lFirst σ24 (q23) (fun σ32 => sg_F [83, 12077, 16077] σ24 σ32 → (∃ (I40 : Nat → Int → sg_S → Prop) (X42 : sg_S → Prop), (∃ n, I40 n (0) σ32) ∧ (∀ (n50 : Nat) (v37 : Int) (σ38 : sg_S), sg_R v37 → sg_F [85, 86, 87, 14077, 16077] σ32 σ38 → I40 n50 v37 σ38 → ((q23 ≤ v37 → X42 σ38) ∧ (v37 < q23 → p_lItems σ (a1) ∧ sg_R ((v_lStart σ (a1) (v1)) + (sx_at σ24 76 200 (v37))) ∧ sg_R (((v_lStart σ (a1) (v1)) + (sx_at σ24 76 200 (v37))) + 1) ∧ V_lPick σ38 ((v_lItems σ (a1))) (((v_lStart σ (a1) (v1)) + (sx_at σ24 76 200 (v37)))) ((((v_lStart σ (a1) (v1)) + (sx_at σ24 76 200 (v37))) + 1)) (fun σ60 => sg_F [85, 86, 87, 14077, 16077] σ38 σ60 → sg_R (v37 + 1) ∧ (∃ m, m < n50 ∧ I40 m ((v37 + 1)) σ60))))) ∧ (∀ (σ38 : sg_S), sg_F [85, 86, 87, 14077, 16077] σ32 σ38 → X42 σ38 → sg_R (v1 + 1) ∧ (∃ m, m < n14 ∧ I4 m ((v1 + 1)) σ38)))))))) ∧ (∀ (σ2 : sg_S), sg_F [75, 76, 83, 85, 86, 87, 12077, 14077, 15077, 16077] σ σ2 → X6 σ2 → V_fGive σ2 (1) (fun σ17 => sg_F [64, 78, 79, 80, 81, 82, 85, 86, 87, 8061, 11061, 11077, 12077, 13077, 14077, 15077, 16077, 17077, 18077, 19077] σ2 σ17 → Q σ17)))
set_option maxHeartbeats 4000000 in
set_option maxRecDepth 8000 in
theorem w_fPermute (z : Value) (σ : sg_S) (a1 : Int) (a2 : Int) (Q : sg_S → Prop) (ra1 : sg_R a1) (ra2 : sg_R a2) (w : V_fPermute σ a1 a2 Q) : wx z 4 74 0 [(0, .inr (.inr (.ref 61))), (1, .inl (a1)), (2, .inl (a2))] [] σ (fun v σ' => v = none ∧ sg_F [64, 75, 76, 78, 79, 80, 81, 82, 83, 85, 86, 87, 8061, 11061, 11077, 12077, 13077, 14077, 15077, 16077, 17077, 18077, 19077] σ σ' ∧ Q σ') := by
  unfold V_fPermute at w
  refine wk_b tt_74 2 (pc' := 2) (ls' := [(3, .inl (0)), (0, .inr (.inr (.ref 61))), (1, .inl (a1)), (2, .inl (a2))]) (st' := []) (σ' := σ) rfl ?_
  obtain ⟨I4, X6, ⟨μ5, w11⟩, w12, w13⟩ := w
  have ex15 : ∀ (σ2 : sg_S), sg_F [75, 76, 83, 85, 86, 87, 12077, 14077, 15077, 16077] σ σ2 → X6 σ2 → wx z 4 74 102 [(0, .inr (.inr (.ref 61)))] [] σ2 (fun v σ' => v = none ∧ sg_F [64, 75, 76, 78, 79, 80, 81, 82, 83, 85, 86, 87, 8061, 11061, 11077, 12077, 13077, 14077, 15077, 16077, 17077, 18077, 19077] σ σ' ∧ Q σ') := by
    intro σ2 hF3 w
    have w := w13 σ2 hF3 w
    refine wk_b tt_74 2 (pc' := 104) (ls' := [(0, .inr (.inr (.ref 61)))]) (st' := [.inl (1), .inr (.inr (.ref 61))]) (σ' := σ2) rfl ?_
    refine wk_call tt_74 rfl rfl rfl rfl rfl tt_65 rfl (by decide) (w_fGive z σ2 (1) _ (by decide) w) (fun u21 σ17 hq19 => ?_)
    obtain ⟨rfl, hF18, w⟩ := hq19
    have w := w hF18
    exact wk_rV tt_74 rfl rfl ⟨rfl, (sg_F_t (sg_F_t (sg_F_r [64, 75, 76, 78, 79, 80, 81, 82, 83, 85, 86, 87, 8061, 11061, 11077, 12077, 13077, 14077, 15077, 16077, 17077, 18077, 19077] σ) (sg_F_m (L := [64, 75, 76, 78, 79, 80, 81, 82, 83, 85, 86, 87, 8061, 11061, 11077, 12077, 13077, 14077, 15077, 16077, 17077, 18077, 19077]) hF3 rfl)) (sg_F_m (L := [64, 75, 76, 78, 79, 80, 81, 82, 83, 85, 86, 87, 8061, 11061, 11077, 12077, 13077, 14077, 15077, 16077, 17077, 18077, 19077]) hF18 rfl)), w⟩
  have lp10 : ∀ (n14 : Nat) (v1 : Int) (σ2 : sg_S), sg_R v1 → sg_F [75, 76, 83, 85, 86, 87, 12077, 14077, 15077, 16077] σ σ2 → I4 n14 v1 σ2 → wx z 4 74 2 [(0, .inr (.inr (.ref 61))), (1, .inl (a1)), (2, .inl (a2)), (3, .inl (v1))] [] σ2 (fun v σ' => v = none ∧ sg_F [64, 75, 76, 78, 79, 80, 81, 82, 83, 85, 86, 87, 8061, 11061, 11077, 12077, 13077, 14077, 15077, 16077, 17077, 18077, 19077] σ σ' ∧ Q σ') := by
    intro n14
    induction n14 using Nat.strongRecOn with
    | _ n14 ih8 =>
      intro v1 σ2 r7 hF3 w
      have w := w12 n14 v1 σ2 r7 hF3 w
      refine wk_b tt_74 3 (pc' := 7) (ls' := [(0, .inr (.inr (.ref 61))), (1, .inl (a1)), (2, .inl (a2)), (3, .inl (v1))]) (st' := [.inl ((sg_g σ2 61 23)), .inl (v1)]) (σ' := σ2) rfl ?_
      rw [show (sg_g σ2 61 23) = (sg_g σ 61 23) from by rw [sg_F_ga hF3 rfl]]
      refine wk_if2 tt_74 (tgt := 102) rfl rfl r7 (sg_Rg _ _ _) (fun (h22 : (sg_g σ 61 23) ≤ v1) => ?_) (fun (h22 : v1 < (sg_g σ 61 23)) => ?_)
      ·
        have w := w.1 h22
        exact wk_ls [(0, .inr (.inr (.ref 61)))] rfl ⟨rfl, trivial⟩ (ex15  σ2  (sg_F_t (sg_F_r [75, 76, 83, 85, 86, 87, 12077, 14077, 15077, 16077] σ) (sg_F_m (L := [75, 76, 83, 85, 86, 87, 12077, 14077, 15077, 16077]) hF3 rfl)) w)
      ·
        have w := w.2 h22
        refine wk_b tt_74 4 (pc' := 14) (ls' := [(0, .inr (.inr (.ref 61))), (1, .inl (a1)), (2, .inl (a2)), (3, .inl (v1))]) (st' := [.inl (v1), .inl (a2), .inl (a1), .inr (.inr (.ref 61))]) (σ' := σ2) rfl ?_
        refine wk_call tt_74 rfl rfl rfl rfl rfl tt_72 rfl (by decide) (w_fOrdered z σ2 (a1) (a2) (v1) _ ra1 ra2 r7 w) (fun u28 σ24 hq26 => ?_)
        obtain ⟨q23, rfl, r27, hF25, w⟩ := hq26
        have w := w r27 hF25
        refine wk_b tt_74 5 (pc' := 25) (ls' := [(4, .inl (q23)), (0, .inr (.inr (.ref 61))), (1, .inl (a1)), (2, .inl (a2)), (3, .inl (v1))]) (st' := [.inl (v1), .inl (a1), .inr (.inr (.ref 77))]) (σ' := σ24) rfl ?_
        obtain ⟨c29, w⟩ := w
        have c29 : p_lStart σ24 (a1) (v1) := by
          rw [pF_lStart hF25 rfl rfl, pF_lStart hF3 rfl rfl]; exact c29
        refine wk_callp tt_74 rfl rfl rfl rfl rfl tt_114 rfl (by decide) (w_lStart z σ24 (a1) (v1) ra1 r7 c29) ?_
        rw [vF_lStart hF25 rfl rfl, vF_lStart hF3 rfl rfl]
        have r30 := vr_lStart σ  (a1) (v1) ra1 r7 (by have q := c29; rw [pF_lStart hF25 rfl rfl, pF_lStart hF3 rfl rfl] at q; exact q)
        refine wk_b tt_74 4 (pc' := 36) (ls' := [(5, .inl ((v_lStart σ (a1) (v1)))), (4, .inl (q23)), (0, .inr (.inr (.ref 61))), (1, .inl (a1)), (2, .inl (a2)), (3, .inl (v1))]) (st' := [.inl (q23), .inr (.inr (.ref 77))]) (σ' := σ24) rfl ?_
        refine wk_call tt_74 rfl rfl rfl rfl rfl tt_105 rfl (by decide) (w_lFirst z σ24 (q23) _ r27 w) (fun u36 σ32 hq34 => ?_)
        obtain ⟨rfl, hF33, w⟩ := hq34
        have w := w hF33
        refine wk_b tt_74 2 (pc' := 42) (ls' := [(6, .inl (0)), (5, .inl ((v_lStart σ (a1) (v1)))), (4, .inl (q23)), (0, .inr (.inr (.ref 61))), (1, .inl (a1)), (2, .inl (a2)), (3, .inl (v1))]) (st' := []) (σ' := σ32) rfl ?_
        obtain ⟨I40, X42, ⟨μ41, w47⟩, w48, w49⟩ := w
        have ex51 : ∀ (σ38 : sg_S), sg_F [85, 86, 87, 14077, 16077] σ32 σ38 → X42 σ38 → wx z 4 74 96 [(0, .inr (.inr (.ref 61))), (1, .inl (a1)), (2, .inl (a2)), (3, .inl (v1))] [] σ38 (fun v σ' => v = none ∧ sg_F [64, 75, 76, 78, 79, 80, 81, 82, 83, 85, 86, 87, 8061, 11061, 11077, 12077, 13077, 14077, 15077, 16077, 17077, 18077, 19077] σ σ' ∧ Q σ') := by
          intro σ38 hF39 w
          have w := w49 σ38 hF39 w
          obtain ⟨c52, w⟩ := w
          refine wk_b tt_74 2 (pc' := 2) (ls' := [(3, .inl ((v1 + 1))), (0, .inr (.inr (.ref 61))), (1, .inl (a1)), (2, .inl (a2))]) (st' := []) (σ' := σ38) rfl ?_
          obtain ⟨m53, hm53, w⟩ := w
          exact wk_ls [(0, .inr (.inr (.ref 61))), (1, .inl (a1)), (2, .inl (a2)), (3, .inl ((v1 + 1)))] rfl ⟨rfl, rfl, rfl, rfl, trivial⟩ (ih8 m53 hm53 ((v1 + 1)) σ38 c52 (sg_F_t (sg_F_t (sg_F_t (sg_F_t (sg_F_r [75, 76, 83, 85, 86, 87, 12077, 14077, 15077, 16077] σ) (sg_F_m (L := [75, 76, 83, 85, 86, 87, 12077, 14077, 15077, 16077]) hF3 rfl)) (sg_F_m (L := [75, 76, 83, 85, 86, 87, 12077, 14077, 15077, 16077]) hF25 rfl)) (sg_F_m (L := [75, 76, 83, 85, 86, 87, 12077, 14077, 15077, 16077]) hF33 rfl)) (sg_F_m (L := [75, 76, 83, 85, 86, 87, 12077, 14077, 15077, 16077]) hF39 rfl)) w)
        have lp46 : ∀ (n50 : Nat) (v37 : Int) (σ38 : sg_S), sg_R v37 → sg_F [85, 86, 87, 14077, 16077] σ32 σ38 → I40 n50 v37 σ38 → wx z 4 74 42 [(0, .inr (.inr (.ref 61))), (1, .inl (a1)), (2, .inl (a2)), (3, .inl (v1)), (4, .inl (q23)), (5, .inl ((v_lStart σ (a1) (v1)))), (6, .inl (v37))] [] σ38 (fun v σ' => v = none ∧ sg_F [64, 75, 76, 78, 79, 80, 81, 82, 83, 85, 86, 87, 8061, 11061, 11077, 12077, 13077, 14077, 15077, 16077, 17077, 18077, 19077] σ σ' ∧ Q σ') := by
          intro n50
          induction n50 using Nat.strongRecOn with
          | _ n50 ih44 =>
            intro v37 σ38 r43 hF39 w
            have w := w48 n50 v37 σ38 r43 hF39 w
            refine wk_b tt_74 2 (pc' := 46) (ls' := [(0, .inr (.inr (.ref 61))), (1, .inl (a1)), (2, .inl (a2)), (3, .inl (v1)), (4, .inl (q23)), (5, .inl ((v_lStart σ (a1) (v1)))), (6, .inl (v37))]) (st' := [.inl (q23), .inl (v37)]) (σ' := σ38) rfl ?_
            refine wk_if2 tt_74 (tgt := 96) rfl rfl r43 r27 (fun (h54 : q23 ≤ v37) => ?_) (fun (h54 : v37 < q23) => ?_)
            ·
              have w := w.1 h54
              exact wk_ls [(0, .inr (.inr (.ref 61))), (1, .inl (a1)), (2, .inl (a2)), (3, .inl (v1))] rfl ⟨rfl, rfl, rfl, rfl, trivial⟩ (ex51  σ38  (sg_F_t (sg_F_r [85, 86, 87, 14077, 16077] σ32) (sg_F_m (L := [85, 86, 87, 14077, 16077]) hF39 rfl)) w)
            ·
              have w := w.2 h54
              refine wk_b tt_74 5 (pc' := 58) (ls' := [(0, .inr (.inr (.ref 61))), (1, .inl (a1)), (2, .inl (a2)), (3, .inl (v1)), (4, .inl (q23)), (5, .inl ((v_lStart σ (a1) (v1)))), (6, .inl (v37))]) (st' := [.inl (a1), .inr (.inr (.ref 77)), .inr (.inr (.ref 77))]) (σ' := σ38) rfl ?_
              obtain ⟨c55, w⟩ := w
              have c55 : p_lItems σ38 (a1) := by
                rw [pF_lItems hF39 rfl, pF_lItems hF33 rfl, pF_lItems hF25 rfl, pF_lItems hF3 rfl]; exact c55
              refine wk_callp tt_74 rfl rfl rfl rfl rfl tt_106 rfl (by decide) (w_lItems z σ38 (a1) ra1 c55) ?_
              rw [vF_lItems hF39 rfl, vF_lItems hF33 rfl, vF_lItems hF25 rfl, vF_lItems hF3 rfl]
              have r56 := vr_lItems σ  (a1) ra1 (by have q := c55; rw [pF_lItems hF39 rfl, pF_lItems hF33 rfl, pF_lItems hF25 rfl, pF_lItems hF3 rfl] at q; exact q)
              refine wk_b tt_74 4 (pc' := 69) (ls' := [(0, .inr (.inr (.ref 61))), (1, .inl (a1)), (2, .inl (a2)), (3, .inl (v1)), (4, .inl (q23)), (5, .inl ((v_lStart σ (a1) (v1)))), (6, .inl (v37))]) (st' := [.inl (v37), .inr (.inr (.ref 76)), .inl ((v_lStart σ (a1) (v1))), .inl ((v_lItems σ (a1))), .inr (.inr (.ref 77))]) (σ' := σ38) rfl ?_
              refine wk_callp tt_74 rfl rfl rfl rfl rfl tt_5 rfl (by decide) (at_i0 z σ38 76 200 (v37) rfl (by decide) r43) ?_
              show wx z 4 74 72 [(0, .inr (.inr (.ref 61))), (1, .inl (a1)), (2, .inl (a2)), (3, .inl (v1)), (4, .inl (q23)), (5, .inl ((v_lStart σ (a1) (v1)))), (6, .inl (v37))] [.inl ((sx_at σ38 76 200 (v37))), .inl ((v_lStart σ (a1) (v1))), .inl ((v_lItems σ (a1))), .inr (.inr (.ref 77))] σ38 (fun v σ' => v = none ∧ sg_F [64, 75, 76, 78, 79, 80, 81, 82, 83, 85, 86, 87, 8061, 11061, 11077, 12077, 13077, 14077, 15077, 16077, 17077, 18077, 19077] σ σ' ∧ Q σ')
              rw [sx_F (a := 76) (n := 200) (i := (v37)) hF39 rfl, sx_F (a := 76) (n := 200) (i := (v37)) hF33 rfl]
              obtain ⟨c57, w⟩ := w
              refine wk_b tt_74 5 (pc' := 81) (ls' := [(0, .inr (.inr (.ref 61))), (1, .inl (a1)), (2, .inl (a2)), (3, .inl (v1)), (4, .inl (q23)), (5, .inl ((v_lStart σ (a1) (v1)))), (6, .inl (v37))]) (st' := [.inl (v37), .inr (.inr (.ref 76)), .inl ((v_lStart σ (a1) (v1))), .inl (((v_lStart σ (a1) (v1)) + (sx_at σ24 76 200 (v37)))), .inl ((v_lItems σ (a1))), .inr (.inr (.ref 77))]) (σ' := σ38) rfl ?_
              refine wk_callp tt_74 rfl rfl rfl rfl rfl tt_5 rfl (by decide) (at_i0 z σ38 76 200 (v37) rfl (by decide) r43) ?_
              show wx z 4 74 84 [(0, .inr (.inr (.ref 61))), (1, .inl (a1)), (2, .inl (a2)), (3, .inl (v1)), (4, .inl (q23)), (5, .inl ((v_lStart σ (a1) (v1)))), (6, .inl (v37))] [.inl ((sx_at σ38 76 200 (v37))), .inl ((v_lStart σ (a1) (v1))), .inl (((v_lStart σ (a1) (v1)) + (sx_at σ24 76 200 (v37)))), .inl ((v_lItems σ (a1))), .inr (.inr (.ref 77))] σ38 (fun v σ' => v = none ∧ sg_F [64, 75, 76, 78, 79, 80, 81, 82, 83, 85, 86, 87, 8061, 11061, 11077, 12077, 13077, 14077, 15077, 16077, 17077, 18077, 19077] σ σ' ∧ Q σ')
              rw [sx_F (a := 76) (n := 200) (i := (v37)) hF39 rfl, sx_F (a := 76) (n := 200) (i := (v37)) hF33 rfl]
              obtain ⟨c58, w⟩ := w
              refine wk_b tt_74 3 (pc' := 87) (ls' := [(0, .inr (.inr (.ref 61))), (1, .inl (a1)), (2, .inl (a2)), (3, .inl (v1)), (4, .inl (q23)), (5, .inl ((v_lStart σ (a1) (v1)))), (6, .inl (v37))]) (st' := [.inl ((((v_lStart σ (a1) (v1)) + (sx_at σ24 76 200 (v37))) + 1)), .inl (((v_lStart σ (a1) (v1)) + (sx_at σ24 76 200 (v37)))), .inl ((v_lItems σ (a1))), .inr (.inr (.ref 77))]) (σ' := σ38) rfl ?_
              refine wk_call tt_74 rfl rfl rfl rfl rfl tt_109 rfl (by decide) (w_lPick z σ38 ((v_lItems σ (a1))) (((v_lStart σ (a1) (v1)) + (sx_at σ24 76 200 (v37)))) ((((v_lStart σ (a1) (v1)) + (sx_at σ24 76 200 (v37))) + 1)) _ r56 c57 c58 w) (fun u64 σ60 hq62 => ?_)
              obtain ⟨rfl, hF61, w⟩ := hq62
              have w := w hF61
              obtain ⟨c65, w⟩ := w
              refine wk_b tt_74 2 (pc' := 42) (ls' := [(6, .inl ((v37 + 1))), (0, .inr (.inr (.ref 61))), (1, .inl (a1)), (2, .inl (a2)), (3, .inl (v1)), (4, .inl (q23)), (5, .inl ((v_lStart σ (a1) (v1))))]) (st' := []) (σ' := σ60) rfl ?_
              obtain ⟨m66, hm66, w⟩ := w
              exact wk_ls [(0, .inr (.inr (.ref 61))), (1, .inl (a1)), (2, .inl (a2)), (3, .inl (v1)), (4, .inl (q23)), (5, .inl ((v_lStart σ (a1) (v1)))), (6, .inl ((v37 + 1)))] rfl ⟨rfl, rfl, rfl, rfl, rfl, rfl, rfl, trivial⟩ (ih44 m66 hm66 ((v37 + 1)) σ60 c65 (sg_F_t (sg_F_t (sg_F_r [85, 86, 87, 14077, 16077] σ32) (sg_F_m (L := [85, 86, 87, 14077, 16077]) hF39 rfl)) (sg_F_m (L := [85, 86, 87, 14077, 16077]) hF61 rfl)) w)
        exact wk_ls [(0, .inr (.inr (.ref 61))), (1, .inl (a1)), (2, .inl (a2)), (3, .inl (v1)), (4, .inl (q23)), (5, .inl ((v_lStart σ (a1) (v1)))), (6, .inl (0))] rfl ⟨rfl, rfl, rfl, rfl, rfl, rfl, rfl, trivial⟩ (lp46 μ41 (0) σ32 (by decide) (sg_F_r _ _) w47)
  exact wk_ls [(0, .inr (.inr (.ref 61))), (1, .inl (a1)), (2, .inl (a2)), (3, .inl (0))] rfl ⟨rfl, rfl, rfl, rfl, trivial⟩ (lp10 μ5 (0) σ (by decide) (sg_F_r _ _) w11)
-- NestedVectors$FlatRun.prepare
def V_fPrepare (σ : sg_S) (Q : sg_S → Prop) : Prop := V_lClear σ  (fun σ2 => sg_F [11077, 12077, 13077, 14077, 15077, 16077, 17077, 18077, 19077] σ σ2 → ∀ σ7, σ7 = (sg_w σ2 61 22 (0)) → ∀ σ10, σ10 = (sg_w σ7 61 23 (1)) → ∀ σ13, σ13 = (sg_w σ10 61 24 (0)) → Q σ13)
set_option maxHeartbeats 4000000 in
set_option maxRecDepth 8000 in
theorem w_fPrepare (z : Value) (σ : sg_S) (Q : sg_S → Prop)  (w : V_fPrepare σ  Q) : wx z 2 75 0 [(0, .inr (.inr (.ref 61)))] [] σ (fun v σ' => v = none ∧ sg_F [11077, 12077, 13077, 14077, 15077, 16077, 17077, 18077, 19077, 23061, 24061, 25061] σ σ' ∧ Q σ') := by
  unfold V_fPrepare at w
  refine wk_b tt_75 2 (pc' := 4) (ls' := [(0, .inr (.inr (.ref 61)))]) (st' := [.inr (.inr (.ref 77))]) (σ' := σ) rfl ?_
  refine wk_call tt_75 rfl rfl rfl rfl rfl tt_101 rfl (by decide) (w_lClear z σ  _  w) (fun u6 σ2 hq4 => ?_)
  obtain ⟨rfl, hF3, w⟩ := hq4
  have w := w hF3
  refine wk_b tt_75 3 (pc' := 12) (ls' := [(0, .inr (.inr (.ref 61)))]) (st' := []) (σ' := (sg_w σ2 61 22 (0))) rfl ?_
  generalize hs8 : (sg_w σ2 61 22 (0)) = σ7
  have w := w σ7 hs8.symm
  have hF9 : sg_F [23061] σ2 σ7 := by rw [← hs8]; exact sg_F_w (sg_F_r _ _) rfl _
  refine wk_b tt_75 3 (pc' := 17) (ls' := [(0, .inr (.inr (.ref 61)))]) (st' := []) (σ' := (sg_w σ7 61 23 (1))) rfl ?_
  generalize hs11 : (sg_w σ7 61 23 (1)) = σ10
  have w := w σ10 hs11.symm
  have hF12 : sg_F [24061] σ7 σ10 := by rw [← hs11]; exact sg_F_w (sg_F_r _ _) rfl _
  refine wk_b tt_75 3 (pc' := 22) (ls' := [(0, .inr (.inr (.ref 61)))]) (st' := []) (σ' := (sg_w σ10 61 24 (0))) rfl ?_
  generalize hs14 : (sg_w σ10 61 24 (0)) = σ13
  have w := w σ13 hs14.symm
  have hF15 : sg_F [25061] σ10 σ13 := by rw [← hs14]; exact sg_F_w (sg_F_r _ _) rfl _
  exact wk_rV tt_75 rfl rfl ⟨rfl, (sg_F_t (sg_F_t (sg_F_t (sg_F_t (sg_F_r [11077, 12077, 13077, 14077, 15077, 16077, 17077, 18077, 19077, 23061, 24061, 25061] σ) (sg_F_m (L := [11077, 12077, 13077, 14077, 15077, 16077, 17077, 18077, 19077, 23061, 24061, 25061]) hF3 rfl)) (sg_F_m (L := [11077, 12077, 13077, 14077, 15077, 16077, 17077, 18077, 19077, 23061, 24061, 25061]) hF9 rfl)) (sg_F_m (L := [11077, 12077, 13077, 14077, 15077, 16077, 17077, 18077, 19077, 23061, 24061, 25061]) hF12 rfl)) (sg_F_m (L := [11077, 12077, 13077, 14077, 15077, 16077, 17077, 18077, 19077, 23061, 24061, 25061]) hF15 rfl)), w⟩
