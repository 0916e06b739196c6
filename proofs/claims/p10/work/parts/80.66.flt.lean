/-! What the methods of the flat run ask for (7). -/
-- NestedVectors.fold
def V_xFold (σ : sg_S) (a0 : Int) (a1 : Int) (a2 : Int) (Q : Int → sg_S → Prop) : Prop := ((¬ a0 = 269 → ((¬ a0 = 270 → ∀ v3 : Int, v3 = (if a2 < a1 then a2 else a1) → sg_R v3 → Q (v3) σ) ∧ (a0 = 270 → ∀ v6 : Int, v6 = (if a1 < a2 then a2 else a1) → sg_R v6 → Q (v6) σ))) ∧ (a0 = 269 → Q ((sg_n (a1 + a2))) σ))
set_option maxHeartbeats 4000000 in
set_option maxRecDepth 8000 in
theorem w_xFold (z : Value) (σ : sg_S) (a0 : Int) (a1 : Int) (a2 : Int) (Q : Int → sg_S → Prop) (ra0 : sg_R a0) (ra1 : sg_R a1) (ra2 : sg_R a2) (w : V_xFold σ a0 a1 a2 Q) : wx z 1 16 0 [(0, .inl (a0)), (1, .inl (a1)), (2, .inl (a2))] [] σ (fun v σ' => ∃ q, v = some (.inl q) ∧ sg_R q ∧ σ = σ' ∧ Q q σ') := by
  unfold V_xFold at w
  refine wk_b tt_16 2 (pc' := 4) (ls' := [(0, .inl (a0)), (1, .inl (a1)), (2, .inl (a2))]) (st' := [.inl (269), .inl (a0)]) (σ' := σ) rfl ?_
  refine wk_if2 tt_16 (tgt := 13) rfl rfl ra0 (by decide) (fun (h1 : ¬ a0 = 269) => ?_) (fun (h1 : a0 = 269) => ?_)
  ·
    have w := w.1 h1
    refine wk_b tt_16 2 (pc' := 17) (ls' := [(0, .inl (a0)), (1, .inl (a1)), (2, .inl (a2))]) (st' := [.inl (270), .inl (a0)]) (σ' := σ) rfl ?_
    refine wk_if2 tt_16 (tgt := 28) rfl rfl ra0 (by decide) (fun (h2 : ¬ a0 = 270) => ?_) (fun (h2 : a0 = 270) => ?_)
    ·
      have w := w.1 h2
      refine wk_b tt_16 2 (pc' := 30) (ls' := [(0, .inl (a0)), (1, .inl (a1)), (2, .inl (a2))]) (st' := [.inl (a2), .inl (a1)]) (σ' := σ) rfl ?_
      refine wk_min (k0 := 0) tt_16 rfl ra1 ra2 rfl ?_
      obtain ⟨v3, e4⟩ : ∃ q, q = (if a2 < a1 then a2 else a1) := ⟨_, rfl⟩
      have r5 : sg_R v3 := by rw [e4]; split <;> first | exact ra1 | exact ra2
      rw [← e4]
      have w := w v3 e4 r5
      exact wk_rI tt_16 rfl rfl ⟨_, rfl, r5, rfl, w⟩
    ·
      have w := w.2 h2
      refine wk_b tt_16 2 (pc' := 22) (ls' := [(0, .inl (a0)), (1, .inl (a1)), (2, .inl (a2))]) (st' := [.inl (a2), .inl (a1)]) (σ' := σ) rfl ?_
      refine wk_max (k0 := 0) tt_16 rfl ra1 ra2 rfl ?_
      obtain ⟨v6, e7⟩ : ∃ q, q = (if a1 < a2 then a2 else a1) := ⟨_, rfl⟩
      have r8 : sg_R v6 := by rw [e7]; split <;> first | exact ra1 | exact ra2
      rw [← e7]
      have w := w v6 e7 r8
      refine wk_b tt_16 1 (pc' := 33) (ls' := [(0, .inl (a0)), (1, .inl (a1)), (2, .inl (a2))]) (st' := [.inl (v6)]) (σ' := σ) rfl ?_
      exact wk_rI tt_16 rfl rfl ⟨_, rfl, r8, rfl, w⟩
  ·
    have w := w.2 h1
    refine wk_b tt_16 3 (pc' := 10) (ls' := [(0, .inl (a0)), (1, .inl (a1)), (2, .inl (a2))]) (st' := [.inl ((a1 + a2))]) (σ' := σ) rfl ?_
    refine wk_n ?_
    refine wk_b tt_16 1 (pc' := 33) (ls' := [(0, .inl (a0)), (1, .inl (a1)), (2, .inl (a2))]) (st' := [.inl ((sg_n (a1 + a2)))]) (σ' := σ) rfl ?_
    exact wk_rI tt_16 rfl rfl ⟨_, rfl, (sg_Rn _), rfl, w⟩
-- NestedVectors$FlatRun.reduce
def V_fReduce (σ : sg_S) (a1 : Int) (a2 : Int) (Q : sg_S → Prop) : Prop := p_lItems σ (a2) ∧ (∃ (I6 : Nat → Int → sg_S → Prop) (X8 : sg_S → Prop), (∃ n, I6 n (0) σ) ∧ (∀ (n16 : Nat) (v3 : Int) (σ4 : sg_S), sg_R v3 → sg_F [83, 12077, 15077, 16077] σ σ4 → I6 n16 v3 σ4 → (((sg_g σ 61 23) ≤ v3 → X8 σ4) ∧ (v3 < (sg_g σ 61 23) → p_lStart σ (a2) (v3) ∧ p_lEnd σ (a2) (v3) ∧ (∃ P31 : sg_S → Prop, ((¬ (v_lStart σ (a2) (v3)) = (v_lEnd σ (a2) (v3)) → P31 σ4) ∧ ((v_lStart σ (a2) (v3)) = (v_lEnd σ (a2) (v3)) → ((a1 = 269 → P31 σ4) ∧ (¬ a1 = 269 → V_lMiss σ4 (4) (fun σ81 => sg_F [15077] σ4 σ81 → P31 σ81))))) ∧ (∀ (σ32 : sg_S), sg_F [15077] σ4 σ32 → P31 σ32 → ((¬ (v_lStart σ (a2) (v3)) = (v_lEnd σ (a2) (v3)) → p_lCell σ ((v_lItems σ (a2))) ((v_lStart σ (a2) (v3))) ∧ True) ∧ ((v_lStart σ (a2) (v3)) = (v_lEnd σ (a2) (v3)) → True)) ∧ ∀ v37 : Int, v37 = (if ¬ (v_lStart σ (a2) (v3)) = (v_lEnd σ (a2) (v3)) then (v_lCell σ ((v_lItems σ (a2))) ((v_lStart σ (a2) (v3)))) else (0 : Int)) → sg_R v37 → sg_R ((v_lStart σ (a2) (v3)) + 1) ∧ (∃ (I45 : Nat → Int → Int → Prop) (X47 : Int → Prop), (∃ n, I45 n (v37) (((v_lStart σ (a2) (v3)) + 1))) ∧ (∀ (n56 : Nat) (v41 : Int) (v42 : Int), sg_R v41 → sg_R v42 → I45 n56 v41 v42 → (((v_lEnd σ (a2) (v3)) ≤ v42 → X47 (v41)) ∧ (v42 < (v_lEnd σ (a2) (v3)) → p_lCell σ ((v_lItems σ (a2))) (v42) ∧ V_xFold σ32 (a1) (v41) ((v_lCell σ ((v_lItems σ (a2))) (v42))) (fun q69 _ => sg_R q69 → sg_R (v42 + 1) ∧ (∃ m, m < n56 ∧ I45 m (q69) ((v42 + 1))))))) ∧ (∀ (v41 : Int), sg_R v41 → X47 v41 → V_lFirst σ32 (v41) (fun σ59 => sg_F [83, 12077, 16077] σ32 σ59 → sg_R (v3 + 1) ∧ (∃ m, m < n16 ∧ I6 m ((v3 + 1)) σ59))))))))) ∧ (∀ (σ4 : sg_S), sg_F [83, 12077, 15077, 16077] σ σ4 → X8 σ4 → V_fGive σ4 (1) (fun σ19 => sg_F [64, 78, 79, 80, 81, 82, 85, 86, 87, 8061, 11061, 11077, 12077, 13077, 14077, 15077, 16077, 17077, 18077, 19077] σ4 σ19 → Q σ19)))
set_option maxHeartbeats 4000000 in
set_option maxRecDepth 8000 in
theorem w_fReduce (z : Value) (σ : sg_S) (a1 : Int) (a2 : Int) (Q : sg_S → Prop) (ra1 : sg_R a1) (ra2 : sg_R a2) (w : V_fReduce σ a1 a2 Q) : wx z 4 76 0 [(0, .inr (.inr (.ref 61))), (1, .inl (a1)), (2, .inl (a2))] [] σ (fun v σ' => v = none ∧ sg_F [64, 78, 79, 80, 81, 82, 83, 85, 86, 87, 8061, 11061, 11077, 12077, 13077, 14077, 15077, 16077, 17077, 18077, 19077] σ σ' ∧ Q σ') := by
  unfold V_fReduce at w
  refine wk_b tt_76 3 (pc' := 5) (ls' := [(0, .inr (.inr (.ref 61))), (1, .inl (a1)), (2, .inl (a2))]) (st' := [.inl (a2), .inr (.inr (.ref 77))]) (σ' := σ) rfl ?_
  obtain ⟨c1, w⟩ := w
  refine wk_callp tt_76 rfl rfl rfl rfl rfl tt_106 rfl (by decide) (w_lItems z σ (a2) ra2 c1) ?_
  have r2 := vr_lItems σ  (a2) ra2 c1
  refine wk_b tt_76 3 (pc' := 12) (ls' := [(4, .inl (0)), (3, .inl ((v_lItems σ (a2)))), (0, .inr (.inr (.ref 61))), (1, .inl (a1)), (2, .inl (a2))]) (st' := []) (σ' := σ) rfl ?_
  obtain ⟨I6, X8, ⟨μ7, w13⟩, w14, w15⟩ := w
  have ex17 : ∀ (σ4 : sg_S), sg_F [83, 12077, 15077, 16077] σ σ4 → X8 σ4 → wx z 4 76 142 [(0, .inr (.inr (.ref 61)))] [] σ4 (fun v σ' => v = none ∧ sg_F [64, 78, 79, 80, 81, 82, 83, 85, 86, 87, 8061, 11061, 11077, 12077, 13077, 14077, 15077, 16077, 17077, 18077, 19077] σ σ' ∧ Q σ') := by
    intro σ4 hF5 w
    have w := w15 σ4 hF5 w
    refine wk_b tt_76 2 (pc' := 144) (ls' := [(0, .inr (.inr (.ref 61)))]) (st' := [.inl (1), .inr (.inr (.ref 61))]) (σ' := σ4) rfl ?_
    refine wk_call tt_76 rfl rfl rfl rfl rfl tt_65 rfl (by decide) (w_fGive z σ4 (1) _ (by decide) w) (fun u23 σ19 hq21 => ?_)
    obtain ⟨rfl, hF20, w⟩ := hq21
    have w := w hF20
    exact wk_rV tt_76 rfl rfl ⟨rfl, (sg_F_t (sg_F_t (sg_F_r [64, 78, 79, 80, 81, 82, 83, 85, 86, 87, 8061, 11061, 11077, 12077, 13077, 14077, 15077, 16077, 17077, 18077, 19077] σ) (sg_F_m (L := [64, 78, 79, 80, 81, 82, 83, 85, 86, 87, 8061, 11061, 11077, 12077, 13077, 14077, 15077, 16077, 17077, 18077, 19077]) hF5 rfl)) (sg_F_m (L := [64, 78, 79, 80, 81, 82, 83, 85, 86, 87, 8061, 11061, 11077, 12077, 13077, 14077, 15077, 16077, 17077, 18077, 19077]) hF20 rfl)), w⟩
  have lp12 : ∀ (n16 : Nat) (v3 : Int) (σ4 : sg_S), sg_R v3 → sg_F [83, 12077, 15077, 16077] σ σ4 → I6 n16 v3 σ4 → wx z 4 76 12 [(0, .inr (.inr (.ref 61))), (1, .inl (a1)), (2, .inl (a2)), (3, .inl ((v_lItems σ (a2)))), (4, .inl (v3))] [] σ4 (fun v σ' => v = none ∧ sg_F [64, 78, 79, 80, 81, 82, 83, 85, 86, 87, 8061, 11061, 11077, 12077, 13077, 14077, 15077, 16077, 17077, 18077, 19077] σ σ' ∧ Q σ') := by
    intro n16
    induction n16 using Nat.strongRecOn with
    | _ n16 ih10 =>
      intro v3 σ4 r9 hF5 w
      have w := w14 n16 v3 σ4 r9 hF5 w
      refine wk_b tt_76 3 (pc' := 18) (ls' := [(0, .inr (.inr (.ref 61))), (1, .inl (a1)), (2, .inl (a2)), (3, .inl ((v_lItems σ (a2)))), (4, .inl (v3))]) (st' := [.inl ((sg_g σ4 61 23)), .inl (v3)]) (σ' := σ4) rfl ?_
      rw [show (sg_g σ4 61 23) = (sg_g σ 61 23) from by rw [sg_F_ga hF5 rfl]]
      refine wk_if2 tt_76 (tgt := 142) rfl rfl r9 (sg_Rg _ _ _) (fun (h24 : (sg_g σ 61 23) ≤ v3) => ?_) (fun (h24 : v3 < (sg_g σ 61 23)) => ?_)
      ·
        have w := w.1 h24
        exact wk_ls [(0, .inr (.inr (.ref 61)))] rfl ⟨rfl, trivial⟩ (ex17  σ4  (sg_F_t (sg_F_r [83, 12077, 15077, 16077] σ) (sg_F_m (L := [83, 12077, 15077, 16077]) hF5 rfl)) w)
      ·
        have w := w.2 h24
        refine wk_b tt_76 4 (pc' := 28) (ls' := [(0, .inr (.inr (.ref 61))), (1, .inl (a1)), (2, .inl (a2)), (3, .inl ((v_lItems σ (a2)))), (4, .inl (v3))]) (st' := [.inl (v3), .inl (a2), .inr (.inr (.ref 77))]) (σ' := σ4) rfl ?_
        obtain ⟨c25, w⟩ := w
        have c25 : p_lStart σ4 (a2) (v3) := by
          rw [pF_lStart hF5 rfl rfl]; exact c25
        refine wk_callp tt_76 rfl rfl rfl rfl rfl tt_114 rfl (by decide) (w_lStart z σ4 (a2) (v3) ra2 r9 c25) ?_
        rw [vF_lStart hF5 rfl rfl]
        have r26 := vr_lStart σ  (a2) (v3) ra2 r9 (by have q := c25; rw [pF_lStart hF5 rfl rfl] at q; exact q)
        refine wk_b tt_76 5 (pc' := 40) (ls' := [(5, .inl ((v_lStart σ (a2) (v3)))), (0, .inr (.inr (.ref 61))), (1, .inl (a1)), (2, .inl (a2)), (3, .inl ((v_lItems σ (a2)))), (4, .inl (v3))]) (st' := [.inl (v3), .inl (a2), .inr (.inr (.ref 77))]) (σ' := σ4) rfl ?_
        obtain ⟨c27, w⟩ := w
        have c27 : p_lEnd σ4 (a2) (v3) := by
          rw [pF_lEnd hF5 rfl rfl rfl]; exact c27
        refine wk_callp tt_76 rfl rfl rfl rfl rfl tt_104 rfl (by decide) (w_lEnd z σ4 (a2) (v3) ra2 r9 c27) ?_
        rw [vF_lEnd hF5 rfl rfl rfl]
        have r28 := vr_lEnd σ  (a2) (v3) ra2 r9 (by have q := c27; rw [pF_lEnd hF5 rfl rfl rfl] at q; exact q)
        refine wk_b tt_76 3 (pc' := 49) (ls' := [(6, .inl ((v_lEnd σ (a2) (v3)))), (5, .inl ((v_lStart σ (a2) (v3)))), (0, .inr (.inr (.ref 61))), (1, .inl (a1)), (2, .inl (a2)), (3, .inl ((v_lItems σ (a2)))), (4, .inl (v3))]) (st' := [.inl ((v_lEnd σ (a2) (v3))), .inl ((v_lStart σ (a2) (v3)))]) (σ' := σ4) rfl ?_
        obtain ⟨P31, w, w34⟩ := w
        have jn30 : ∀ (σ32 : sg_S), sg_F [15077] σ4 σ32 → P31 σ32 → wx z 4 76 67 [(0, .inr (.inr (.ref 61))), (1, .inl (a1)), (2, .inl (a2)), (3, .inl ((v_lItems σ (a2)))), (4, .inl (v3)), (5, .inl ((v_lStart σ (a2) (v3)))), (6, .inl ((v_lEnd σ (a2) (v3))))] [] σ32 (fun v σ' => v = none ∧ sg_F [64, 78, 79, 80, 81, 82, 83, 85, 86, 87, 8061, 11061, 11077, 12077, 13077, 14077, 15077, 16077, 17077, 18077, 19077] σ σ' ∧ Q σ') := by
          intro σ32 hF33 w
          have w := w34 σ32 hF33 w
          refine wk_b tt_76 2 (pc' := 71) (ls' := [(0, .inr (.inr (.ref 61))), (1, .inl (a1)), (2, .inl (a2)), (3, .inl ((v_lItems σ (a2)))), (4, .inl (v3)), (5, .inl ((v_lStart σ (a2) (v3)))), (6, .inl ((v_lEnd σ (a2) (v3))))]) (st' := [.inl ((v_lEnd σ (a2) (v3))), .inl ((v_lStart σ (a2) (v3)))]) (σ' := σ32) rfl ?_
          obtain ⟨wp, w⟩ := w
          have jn36 : ∀ v37 : Int, v37 = (if ¬ (v_lStart σ (a2) (v3)) = (v_lEnd σ (a2) (v3)) then (v_lCell σ ((v_lItems σ (a2))) ((v_lStart σ (a2) (v3)))) else (0 : Int)) → sg_R v37 → wx z 4 76 88 [(0, .inr (.inr (.ref 61))), (1, .inl (a1)), (2, .inl (a2)), (3, .inl ((v_lItems σ (a2)))), (4, .inl (v3)), (5, .inl ((v_lStart σ (a2) (v3)))), (6, .inl ((v_lEnd σ (a2) (v3))))] [.inl (v37)] σ32 (fun v σ' => v = none ∧ sg_F [64, 78, 79, 80, 81, 82, 83, 85, 86, 87, 8061, 11061, 11077, 12077, 13077, 14077, 15077, 16077, 17077, 18077, 19077] σ σ' ∧ Q σ') := by
            intro v37 e39 r38
            have w := w v37 e39 r38
            obtain ⟨c40, w⟩ := w
            refine wk_b tt_76 5 (pc' := 96) (ls' := [(8, .inl (((v_lStart σ (a2) (v3)) + 1))), (7, .inl (v37)), (0, .inr (.inr (.ref 61))), (1, .inl (a1)), (2, .inl (a2)), (3, .inl ((v_lItems σ (a2)))), (4, .inl (v3)), (5, .inl ((v_lStart σ (a2) (v3)))), (6, .inl ((v_lEnd σ (a2) (v3))))]) (st' := []) (σ' := σ32) rfl ?_
            obtain ⟨I45, X47, ⟨μ46, w53⟩, w54, w55⟩ := w
            have ex57 : ∀ (v41 : Int), sg_R v41 → X47 v41 → wx z 4 76 127 [(0, .inr (.inr (.ref 61))), (1, .inl (a1)), (2, .inl (a2)), (3, .inl ((v_lItems σ (a2)))), (4, .inl (v3)), (7, .inl (v41))] [] σ32 (fun v σ' => v = none ∧ sg_F [64, 78, 79, 80, 81, 82, 83, 85, 86, 87, 8061, 11061, 11077, 12077, 13077, 14077, 15077, 16077, 17077, 18077, 19077] σ σ' ∧ Q σ') := by
              intro v41 r48 w
              have w := w55 v41 r48 w
              refine wk_b tt_76 3 (pc' := 133) (ls' := [(0, .inr (.inr (.ref 61))), (1, .inl (a1)), (2, .inl (a2)), (3, .inl ((v_lItems σ (a2)))), (4, .inl (v3)), (7, .inl (v41))]) (st' := [.inl (v41), .inr (.inr (.ref 77))]) (σ' := σ32) rfl ?_
              refine wk_call tt_76 rfl rfl rfl rfl rfl tt_105 rfl (by decide) (w_lFirst z σ32 (v41) _ r48 w) (fun u63 σ59 hq61 => ?_)
              obtain ⟨rfl, hF60, w⟩ := hq61
              have w := w hF60
              obtain ⟨c64, w⟩ := w
              refine wk_b tt_76 2 (pc' := 12) (ls' := [(4, .inl ((v3 + 1))), (0, .inr (.inr (.ref 61))), (1, .inl (a1)), (2, .inl (a2)), (3, .inl ((v_lItems σ (a2)))), (7, .inl (v41))]) (st' := []) (σ' := σ59) rfl ?_
              obtain ⟨m65, hm65, w⟩ := w
              exact wk_ls [(0, .inr (.inr (.ref 61))), (1, .inl (a1)), (2, .inl (a2)), (3, .inl ((v_lItems σ (a2)))), (4, .inl ((v3 + 1)))] rfl ⟨rfl, rfl, rfl, rfl, rfl, trivial⟩ (ih10 m65 hm65 ((v3 + 1)) σ59 c64 (sg_F_t (sg_F_t (sg_F_t (sg_F_r [83, 12077, 15077, 16077] σ) (sg_F_m (L := [83, 12077, 15077, 16077]) hF5 rfl)) (sg_F_m (L := [83, 12077, 15077, 16077]) hF33 rfl)) (sg_F_m (L := [83, 12077, 15077, 16077]) hF60 rfl)) w)
            have lp52 : ∀ (n56 : Nat) (v41 : Int) (v42 : Int), sg_R v41 → sg_R v42 → I45 n56 v41 v42 → wx z 4 76 96 [(0, .inr (.inr (.ref 61))), (1, .inl (a1)), (2, .inl (a2)), (3, .inl ((v_lItems σ (a2)))), (4, .inl (v3)), (6, .inl ((v_lEnd σ (a2) (v3)))), (7, .inl (v41)), (8, .inl (v42))] [] σ32 (fun v σ' => v = none ∧ sg_F [64, 78, 79, 80, 81, 82, 83, 85, 86, 87, 8061, 11061, 11077, 12077, 13077, 14077, 15077, 16077, 17077, 18077, 19077] σ σ' ∧ Q σ') := by
              intro n56
              induction n56 using Nat.strongRecOn with
              | _ n56 ih50 =>
                intro v41 v42 r48 r49 w
                have w := w54 n56 v41 v42 r48 r49 w
                refine wk_b tt_76 2 (pc' := 100) (ls' := [(0, .inr (.inr (.ref 61))), (1, .inl (a1)), (2, .inl (a2)), (3, .inl ((v_lItems σ (a2)))), (4, .inl (v3)), (6, .inl ((v_lEnd σ (a2) (v3)))), (7, .inl (v41)), (8, .inl (v42))]) (st' := [.inl ((v_lEnd σ (a2) (v3))), .inl (v42)]) (σ' := σ32) rfl ?_
                refine wk_if2 tt_76 (tgt := 127) rfl rfl r49 r28 (fun (h66 : (v_lEnd σ (a2) (v3)) ≤ v42) => ?_) (fun (h66 : v42 < (v_lEnd σ (a2) (v3))) => ?_)
                ·
                  have w := w.1 h66
                  exact wk_ls [(0, .inr (.inr (.ref 61))), (1, .inl (a1)), (2, .inl (a2)), (3, .inl ((v_lItems σ (a2)))), (4, .inl (v3)), (7, .inl (v41))] rfl ⟨rfl, rfl, rfl, rfl, rfl, rfl, trivial⟩ (ex57 (v41)  r48  w)
                ·
                  have w := w.2 h66
                  refine wk_b tt_76 6 (pc' := 113) (ls' := [(0, .inr (.inr (.ref 61))), (1, .inl (a1)), (2, .inl (a2)), (3, .inl ((v_lItems σ (a2)))), (4, .inl (v3)), (6, .inl ((v_lEnd σ (a2) (v3)))), (7, .inl (v41)), (8, .inl (v42))]) (st' := [.inl (v42), .inl ((v_lItems σ (a2))), .inr (.inr (.ref 77)), .inl (v41), .inl (a1)]) (σ' := σ32) rfl ?_
                  obtain ⟨c67, w⟩ := w
                  have c67 : p_lCell σ32 ((v_lItems σ (a2))) (v42) := by
                    rw [pF_lCell hF33 rfl rfl, pF_lCell hF5 rfl rfl]; exact c67
                  refine wk_callp tt_76 rfl rfl rfl rfl rfl tt_100 rfl (by decide) (w_lCell z σ32 ((v_lItems σ (a2))) (v42) r2 r49 c67) ?_
                  rw [vF_lCell hF33 rfl rfl, vF_lCell hF5 rfl rfl]
                  have r68 := vr_lCell σ  ((v_lItems σ (a2))) (v42) r2 r49 (by have q := c67; rw [pF_lCell hF33 rfl rfl, pF_lCell hF5 rfl rfl] at q; exact q)
                  refine wk_call tt_76 rfl rfl rfl rfl rfl tt_16 rfl (by decide) (w_xFold z σ32 (a1) (v41) ((v_lCell σ ((v_lItems σ (a2))) (v42))) _ ra1 r48 r68 w) (fun u74 σ70 hq72 => ?_)
                  obtain ⟨q69, rfl, r73, rfl, w⟩ := hq72
                  have w := w r73
                  obtain ⟨c75, w⟩ := w
                  refine wk_b tt_76 3 (pc' := 96) (ls' := [(8, .inl ((v42 + 1))), (7, .inl (q69)), (0, .inr (.inr (.ref 61))), (1, .inl (a1)), (2, .inl (a2)), (3, .inl ((v_lItems σ (a2)))), (4, .inl (v3)), (6, .inl ((v_lEnd σ (a2) (v3))))]) (st' := []) (σ' := σ32) rfl ?_
                  obtain ⟨m76, hm76, w⟩ := w
                  exact wk_ls [(0, .inr (.inr (.ref 61))), (1, .inl (a1)), (2, .inl (a2)), (3, .inl ((v_lItems σ (a2)))), (4, .inl (v3)), (6, .inl ((v_lEnd σ (a2) (v3)))), (7, .inl (q69)), (8, .inl ((v42 + 1)))] rfl ⟨rfl, rfl, rfl, rfl, rfl, rfl, rfl, rfl, trivial⟩ (ih50 m76 hm76 (q69) ((v42 + 1))  r73 c75  w)
            exact wk_ls [(0, .inr (.inr (.ref 61))), (1, .inl (a1)), (2, .inl (a2)), (3, .inl ((v_lItems σ (a2)))), (4, .inl (v3)), (6, .inl ((v_lEnd σ (a2) (v3)))), (7, .inl (v37)), (8, .inl (((v_lStart σ (a2) (v3)) + 1)))] rfl ⟨rfl, rfl, rfl, rfl, rfl, rfl, rfl, rfl, trivial⟩ (lp52 μ46 (v37) (((v_lStart σ (a2) (v3)) + 1))  r38 c40  w53)
          have w := wp
          refine wk_if2 tt_76 (tgt := 78) rfl rfl r26 r28 (fun (h35 : ¬ (v_lStart σ (a2) (v3)) = (v_lEnd σ (a2) (v3))) => ?_) (fun (h35 : (v_lStart σ (a2) (v3)) = (v_lEnd σ (a2) (v3))) => ?_)
          ·
            have w := w.1 h35
            refine wk_b tt_76 4 (pc' := 85) (ls' := [(0, .inr (.inr (.ref 61))), (1, .inl (a1)), (2, .inl (a2)), (3, .inl ((v_lItems σ (a2)))), (4, .inl (v3)), (5, .inl ((v_lStart σ (a2) (v3)))), (6, .inl ((v_lEnd σ (a2) (v3))))]) (st' := [.inl ((v_lStart σ (a2) (v3))), .inl ((v_lItems σ (a2))), .inr (.inr (.ref 77))]) (σ' := σ32) rfl ?_
            obtain ⟨c77, w⟩ := w
            have c77 : p_lCell σ32 ((v_lItems σ (a2))) ((v_lStart σ (a2) (v3))) := by
              rw [pF_lCell hF33 rfl rfl, pF_lCell hF5 rfl rfl]; exact c77
            refine wk_callp tt_76 rfl rfl rfl rfl rfl tt_100 rfl (by decide) (w_lCell z σ32 ((v_lItems σ (a2))) ((v_lStart σ (a2) (v3))) r2 r26 c77) ?_
            rw [vF_lCell hF33 rfl rfl, vF_lCell hF5 rfl rfl]
            have r78 := vr_lCell σ  ((v_lItems σ (a2))) ((v_lStart σ (a2) (v3))) r2 r26 (by have q := c77; rw [pF_lCell hF33 rfl rfl, pF_lCell hF5 rfl rfl] at q; exact q)
            exact wk_ls [(0, .inr (.inr (.ref 61))), (1, .inl (a1)), (2, .inl (a2)), (3, .inl ((v_lItems σ (a2)))), (4, .inl (v3)), (5, .inl ((v_lStart σ (a2) (v3)))), (6, .inl ((v_lEnd σ (a2) (v3))))] rfl ⟨rfl, rfl, rfl, rfl, rfl, rfl, rfl, trivial⟩ (jn36 ((v_lCell σ ((v_lItems σ (a2))) ((v_lStart σ (a2) (v3))))) (by simp only [if_pos h35]) r78)
          ·
            have w := w.2 h35
            refine wk_b tt_76 2 (pc' := 88) (ls' := [(0, .inr (.inr (.ref 61))), (1, .inl (a1)), (2, .inl (a2)), (3, .inl ((v_lItems σ (a2)))), (4, .inl (v3)), (5, .inl ((v_lStart σ (a2) (v3)))), (6, .inl ((v_lEnd σ (a2) (v3))))]) (st' := [.inl (0)]) (σ' := σ32) rfl ?_
            exact wk_ls [(0, .inr (.inr (.ref 61))), (1, .inl (a1)), (2, .inl (a2)), (3, .inl ((v_lItems σ (a2)))), (4, .inl (v3)), (5, .inl ((v_lStart σ (a2) (v3)))), (6, .inl ((v_lEnd σ (a2) (v3))))] rfl ⟨rfl, rfl, rfl, rfl, rfl, rfl, rfl, trivial⟩ (jn36 (0) (by simp only [if_neg (show ¬ (¬ (v_lStart σ (a2) (v3)) = (v_lEnd σ (a2) (v3))) by omega)]) (by decide))
        refine wk_if2 tt_76 (tgt := 67) rfl rfl r26 r28 (fun (h29 : ¬ (v_lStart σ (a2) (v3)) = (v_lEnd σ (a2) (v3))) => ?_) (fun (h29 : (v_lStart σ (a2) (v3)) = (v_lEnd σ (a2) (v3))) => ?_)
        ·
          have w := w.1 h29
          exact wk_ls [(0, .inr (.inr (.ref 61))), (1, .inl (a1)), (2, .inl (a2)), (3, .inl ((v_lItems σ (a2)))), (4, .inl (v3)), (5, .inl ((v_lStart σ (a2) (v3)))), (6, .inl ((v_lEnd σ (a2) (v3))))] rfl ⟨rfl, rfl, rfl, rfl, rfl, rfl, rfl, trivial⟩ (jn30 σ4 (sg_F_r [15077] σ4) w)
        ·
          have w := w.2 h29
          refine wk_b tt_76 2 (pc' := 56) (ls' := [(6, .inl ((v_lEnd σ (a2) (v3)))), (5, .inl ((v_lStart σ (a2) (v3)))), (0, .inr (.inr (.ref 61))), (1, .inl (a1)), (2, .inl (a2)), (3, .inl ((v_lItems σ (a2)))), (4, .inl (v3))]) (st' := [.inl (269), .inl (a1)]) (σ' := σ4) rfl ?_
          refine wk_if2 tt_76 (tgt := 67) rfl rfl ra1 (by decide) (fun (h79 : a1 = 269) => ?_) (fun (h79 : ¬ a1 = 269) => ?_)
          ·
            have w := w.1 h79
            exact wk_ls [(0, .inr (.inr (.ref 61))), (1, .inl (a1)), (2, .inl (a2)), (3, .inl ((v_lItems σ (a2)))), (4, .inl (v3)), (5, .inl ((v_lStart σ (a2) (v3)))), (6, .inl ((v_lEnd σ (a2) (v3))))] rfl ⟨rfl, rfl, rfl, rfl, rfl, rfl, rfl, trivial⟩ (jn30 σ4 (sg_F_r [15077] σ4) w)
          ·
            have w := w.2 h79
            refine wk_b tt_76 3 (pc' := 64) (ls' := [(6, .inl ((v_lEnd σ (a2) (v3)))), (5, .inl ((v_lStart σ (a2) (v3)))), (0, .inr (.inr (.ref 61))), (1, .inl (a1)), (2, .inl (a2)), (3, .inl ((v_lItems σ (a2)))), (4, .inl (v3))]) (st' := [.inl (4), .inr (.inr (.ref 77))]) (σ' := σ4) rfl ?_
            refine wk_call tt_76 rfl rfl rfl rfl rfl tt_108 rfl (by decide) (w_lMiss z σ4 (4) _ (by decide) w) (fun u85 σ81 hq83 => ?_)
            obtain ⟨rfl, hF82, w⟩ := hq83
            have w := w hF82
            exact wk_ls [(0, .inr (.inr (.ref 61))), (1, .inl (a1)), (2, .inl (a2)), (3, .inl ((v_lItems σ (a2)))), (4, .inl (v3)), (5, .inl ((v_lStart σ (a2) (v3)))), (6, .inl ((v_lEnd σ (a2) (v3))))] rfl ⟨rfl, rfl, rfl, rfl, rfl, rfl, rfl, trivial⟩ (jn30 σ81 (sg_F_t (sg_F_r [15077] σ4) (sg_F_m (L := [15077]) hF82 rfl)) w)
  exact wk_ls [(0, .inr (.inr (.ref 61))), (1, .inl (a1)), (2, .inl (a2)), (3, .inl ((v_lItems σ (a2)))), (4, .inl (0))] rfl ⟨rfl, rfl, rfl, rfl, rfl, trivial⟩ (lp12 μ7 (0) σ (by decide) (sg_F_r _ _) w13)
-- NestedVectors$FlatRun.repeat
def V_fRepeat (σ : sg_S) (a1 : Int) (a2 : Int) (Q : sg_S → Prop) : Prop := (∃ (I4 : Nat → Int → sg_S → Prop) (X6 : sg_S → Prop), (∃ n, I4 n (0) σ) ∧ (∀ (n14 : Nat) (v1 : Int) (σ2 : sg_S), sg_R v1 → sg_F [83, 85, 86, 87, 12077, 14077, 15077, 16077] σ σ2 → I4 n14 v1 σ2 → (((sg_g σ 61 23) ≤ v1 → X6 σ2) ∧ (v1 < (sg_g σ 61 23) → ((¬ (sg_g σ2 77 15) = 0 → X6 σ2) ∧ ((sg_g σ2 77 15) = 0 → V_fSizeIn σ2 (a2) (v1) (fun q24 σ25 => sg_R q24 → sg_F [15077] σ2 σ25 → V_lFirst σ25 (q24) (fun σ31 => sg_F [83, 12077, 16077] σ25 σ31 → (∃ (I39 : Nat → Int → sg_S → Prop) (X41 : sg_S → Prop), (∃ n, I39 n (0) σ31) ∧ (∀ (n49 : Nat) (v36 : Int) (σ37 : sg_S), sg_R v36 → sg_F [85, 86, 87, 14077, 16077] σ31 σ37 → I39 n49 v36 σ37 → ((q24 ≤ v36 → X41 σ37) ∧ (v36 < q24 → sg_R (v1 + 1) ∧ V_lPick σ37 (a1) (v1) ((v1 + 1)) (fun σ56 => sg_F [85, 86, 87, 14077, 16077] σ37 σ56 → sg_R (v36 + 1) ∧ (∃ m, m < n49 ∧ I39 m ((v36 + 1)) σ56))))) ∧ (∀ (σ37 : sg_S), sg_F [85, 86, 87, 14077, 16077] σ31 σ37 → X41 σ37 → sg_R (v1 + 1) ∧ (∃ m, m < n14 ∧ I4 m ((v1 + 1)) σ37)))))))))) ∧ (∀ (σ2 : sg_S), sg_F [83, 85, 86, 87, 12077, 14077, 15077, 16077] σ σ2 → X6 σ2 → V_fGive σ2 (1) (fun σ17 => sg_F [64, 78, 79, 80, 81, 82, 85, 86, 87, 8061, 11061, 11077, 12077, 13077, 14077, 15077, 16077, 17077, 18077, 19077] σ2 σ17 → Q σ17)))
set_option maxHeartbeats 4000000 in
set_option maxRecDepth 8000 in
theorem w_fRepeat (z : Value) (σ : sg_S) (a1 : Int) (a2 : Int) (Q : sg_S → Prop) (ra1 : sg_R a1) (ra2 : sg_R a2) (w : V_fRepeat σ a1 a2 Q) : wx z 4 77 0 [(0, .inr (.inr (.ref 61))), (1, .inl (a1)), (2, .inl (a2))] [] σ (fun v σ' => v = none ∧ sg_F [64, 78, 79, 80, 81, 82, 83, 85, 86, 87, 8061, 11061, 11077, 12077, 13077, 14077, 15077, 16077, 17077, 18077, 19077] σ σ' ∧ Q σ') := by
  unfold V_fRepeat at w
  refine wk_b tt_77 2 (pc' := 2) (ls' := [(3, .inl (0)), (0, .inr (.inr (.ref 61))), (1, .inl (a1)), (2, .inl (a2))]) (st' := []) (σ' := σ) rfl ?_
  obtain ⟨I4, X6, ⟨μ5, w11⟩, w12, w13⟩ := w
  have ex15 : ∀ (σ2 : sg_S), sg_F [83, 85, 86, 87, 12077, 14077, 15077, 16077] σ σ2 → X6 σ2 → wx z 4 77 71 [(0, .inr (.inr (.ref 61)))] [] σ2 (fun v σ' => v = none ∧ sg_F [64, 78, 79, 80, 81, 82, 83, 85, 86, 87, 8061, 11061, 11077, 12077, 13077, 14077, 15077, 16077, 17077, 18077, 19077] σ σ' ∧ Q σ') := by
    intro σ2 hF3 w
    have w := w13 σ2 hF3 w
    refine wk_b tt_77 2 (pc' := 73) (ls' := [(0, .inr (.inr (.ref 61)))]) (st' := [.inl (1), .inr (.inr (.ref 61))]) (σ' := σ2) rfl ?_
    refine wk_call tt_77 rfl rfl rfl rfl rfl tt_65 rfl (by decide) (w_fGive z σ2 (1) _ (by decide) w) (fun u21 σ17 hq19 => ?_)
    obtain ⟨rfl, hF18, w⟩ := hq19
    have w := w hF18
    exact wk_rV tt_77 rfl rfl ⟨rfl, (sg_F_t (sg_F_t (sg_F_r [64, 78, 79, 80, 81, 82, 83, 85, 86, 87, 8061, 11061, 11077, 12077, 13077, 14077, 15077, 16077, 17077, 18077, 19077] σ) (sg_F_m (L := [64, 78, 79, 80, 81, 82, 83, 85, 86, 87, 8061, 11061, 11077, 12077, 13077, 14077, 15077, 16077, 17077, 18077, 19077]) hF3 rfl)) (sg_F_m (L := [64, 78, 79, 80, 81, 82, 83, 85, 86, 87, 8061, 11061, 11077, 12077, 13077, 14077, 15077, 16077, 17077, 18077, 19077]) hF18 rfl)), w⟩
  have lp10 : ∀ (n14 : Nat) (v1 : Int) (σ2 : sg_S), sg_R v1 → sg_F [83, 85, 86, 87, 12077, 14077, 15077, 16077] σ σ2 → I4 n14 v1 σ2 → wx z 4 77 2 [(0, .inr (.inr (.ref 61))), (1, .inl (a1)), (2, .inl (a2)), (3, .inl (v1))] [] σ2 (fun v σ' => v = none ∧ sg_F [64, 78, 79, 80, 81, 82, 83, 85, 86, 87, 8061, 11061, 11077, 12077, 13077, 14077, 15077, 16077, 17077, 18077, 19077] σ σ' ∧ Q σ') := by
    intro n14
    induction n14 using Nat.strongRecOn with
    | _ n14 ih8 =>
      intro v1 σ2 r7 hF3 w
      have w := w12 n14 v1 σ2 r7 hF3 w
      refine wk_b tt_77 3 (pc' := 7) (ls' := [(0, .inr (.inr (.ref 61))), (1, .inl (a1)), (2, .inl (a2)), (3, .inl (v1))]) (st' := [.inl ((sg_g σ2 61 23)), .inl (v1)]) (σ' := σ2) rfl ?_
      rw [show (sg_g σ2 61 23) = (sg_g σ 61 23) from by rw [sg_F_ga hF3 rfl]]
      refine wk_if2 tt_77 (tgt := 71) rfl rfl r7 (sg_Rg _ _ _) (fun (h22 : (sg_g σ 61 23) ≤ v1) => ?_) (fun (h22 : v1 < (sg_g σ 61 23)) => ?_)
      ·
        have w := w.1 h22
        exact wk_ls [(0, .inr (.inr (.ref 61)))] rfl ⟨rfl, trivial⟩ (ex15  σ2  (sg_F_t (sg_F_r [83, 85, 86, 87, 12077, 14077, 15077, 16077] σ) (sg_F_m (L := [83, 85, 86, 87, 12077, 14077, 15077, 16077]) hF3 rfl)) w)
      ·
        have w := w.2 h22
        refine wk_b tt_77 3 (pc' := 17) (ls' := [(0, .inr (.inr (.ref 61))), (1, .inl (a1)), (2, .inl (a2)), (3, .inl (v1))]) (st' := [.inl ((sg_g σ2 77 15))]) (σ' := σ2) rfl ?_
        refine wk_if tt_77 (tgt := 71) rfl rfl (sg_Rg _ _ _) (fun (h23 : ¬ (sg_g σ2 77 15) = 0) => ?_) (fun (h23 : (sg_g σ2 77 15) = 0) => ?_)
        ·
          have w := w.1 h23
          exact wk_ls [(0, .inr (.inr (.ref 61)))] rfl ⟨rfl, trivial⟩ (ex15  σ2  (sg_F_t (sg_F_r [83, 85, 86, 87, 12077, 14077, 15077, 16077] σ) (sg_F_m (L := [83, 85, 86, 87, 12077, 14077, 15077, 16077]) hF3 rfl)) w)
        ·
          have w := w.2 h23
          refine wk_b tt_77 3 (pc' := 23) (ls' := [(0, .inr (.inr (.ref 61))), (1, .inl (a1)), (2, .inl (a2)), (3, .inl (v1))]) (st' := [.inl (v1), .inl (a2), .inr (.inr (.ref 61))]) (σ' := σ2) rfl ?_
          refine wk_call tt_77 rfl rfl rfl rfl rfl tt_85 rfl (by decide) (w_fSizeIn z σ2 (a2) (v1) _ ra2 r7 w) (fun u29 σ25 hq27 => ?_)
          obtain ⟨q24, rfl, r28, hF26, w⟩ := hq27
          have w := w r28 hF26
          refine wk_b tt_77 4 (pc' := 34) (ls' := [(4, .inl (q24)), (0, .inr (.inr (.ref 61))), (1, .inl (a1)), (2, .inl (a2)), (3, .inl (v1))]) (st' := [.inl (q24), .inr (.inr (.ref 77))]) (σ' := σ25) rfl ?_
          refine wk_call tt_77 rfl rfl rfl rfl rfl tt_105 rfl (by decide) (w_lFirst z σ25 (q24) _ r28 w) (fun u35 σ31 hq33 => ?_)
          obtain ⟨rfl, hF32, w⟩ := hq33
          have w := w hF32
          refine wk_b tt_77 2 (pc' := 40) (ls' := [(5, .inl (0)), (4, .inl (q24)), (0, .inr (.inr (.ref 61))), (1, .inl (a1)), (2, .inl (a2)), (3, .inl (v1))]) (st' := []) (σ' := σ31) rfl ?_
          obtain ⟨I39, X41, ⟨μ40, w46⟩, w47, w48⟩ := w
          have ex50 : ∀ (σ37 : sg_S), sg_F [85, 86, 87, 14077, 16077] σ31 σ37 → X41 σ37 → wx z 4 77 65 [(0, .inr (.inr (.ref 61))), (1, .inl (a1)), (2, .inl (a2)), (3, .inl (v1))] [] σ37 (fun v σ' => v = none ∧ sg_F [64, 78, 79, 80, 81, 82, 83, 85, 86, 87, 8061, 11061, 11077, 12077, 13077, 14077, 15077, 16077, 17077, 18077, 19077] σ σ' ∧ Q σ') := by
            intro σ37 hF38 w
            have w := w48 σ37 hF38 w
            obtain ⟨c51, w⟩ := w
            refine wk_b tt_77 2 (pc' := 2) (ls' := [(3, .inl ((v1 + 1))), (0, .inr (.inr (.ref 61))), (1, .inl (a1)), (2, .inl (a2))]) (st' := []) (σ' := σ37) rfl ?_
            obtain ⟨m52, hm52, w⟩ := w
            exact wk_ls [(0, .inr (.inr (.ref 61))), (1, .inl (a1)), (2, .inl (a2)), (3, .inl ((v1 + 1)))] rfl ⟨rfl, rfl, rfl, rfl, trivial⟩ (ih8 m52 hm52 ((v1 + 1)) σ37 c51 (sg_F_t (sg_F_t (sg_F_t (sg_F_t (sg_F_r [83, 85, 86, 87, 12077, 14077, 15077, 16077] σ) (sg_F_m (L := [83, 85, 86, 87, 12077, 14077, 15077, 16077]) hF3 rfl)) (sg_F_m (L := [83, 85, 86, 87, 12077, 14077, 15077, 16077]) hF26 rfl)) (sg_F_m (L := [83, 85, 86, 87, 12077, 14077, 15077, 16077]) hF32 rfl)) (sg_F_m (L := [83, 85, 86, 87, 12077, 14077, 15077, 16077]) hF38 rfl)) w)
          have lp45 : ∀ (n49 : Nat) (v36 : Int) (σ37 : sg_S), sg_R v36 → sg_F [85, 86, 87, 14077, 16077] σ31 σ37 → I39 n49 v36 σ37 → wx z 4 77 40 [(0, .inr (.inr (.ref 61))), (1, .inl (a1)), (2, .inl (a2)), (3, .inl (v1)), (4, .inl (q24)), (5, .inl (v36))] [] σ37 (fun v σ' => v = none ∧ sg_F [64, 78, 79, 80, 81, 82, 83, 85, 86, 87, 8061, 11061, 11077, 12077, 13077, 14077, 15077, 16077, 17077, 18077, 19077] σ σ' ∧ Q σ') := by
            intro n49
            induction n49 using Nat.strongRecOn with
            | _ n49 ih43 =>
              intro v36 σ37 r42 hF38 w
              have w := w47 n49 v36 σ37 r42 hF38 w
              refine wk_b tt_77 2 (pc' := 44) (ls' := [(0, .inr (.inr (.ref 61))), (1, .inl (a1)), (2, .inl (a2)), (3, .inl (v1)), (4, .inl (q24)), (5, .inl (v36))]) (st' := [.inl (q24), .inl (v36)]) (σ' := σ37) rfl ?_
              refine wk_if2 tt_77 (tgt := 65) rfl rfl r42 r28 (fun (h53 : q24 ≤ v36) => ?_) (fun (h53 : v36 < q24) => ?_)
              ·
                have w := w.1 h53
                exact wk_ls [(0, .inr (.inr (.ref 61))), (1, .inl (a1)), (2, .inl (a2)), (3, .inl (v1))] rfl ⟨rfl, rfl, rfl, rfl, trivial⟩ (ex50  σ37  (sg_F_t (sg_F_r [85, 86, 87, 14077, 16077] σ31) (sg_F_m (L := [85, 86, 87, 14077, 16077]) hF38 rfl)) w)
              ·
                have w := w.2 h53
                obtain ⟨c54, w⟩ := w
                refine wk_b tt_77 7 (pc' := 56) (ls' := [(0, .inr (.inr (.ref 61))), (1, .inl (a1)), (2, .inl (a2)), (3, .inl (v1)), (4, .inl (q24)), (5, .inl (v36))]) (st' := [.inl ((v1 + 1)), .inl (v1), .inl (a1), .inr (.inr (.ref 77))]) (σ' := σ37) rfl ?_
                refine wk_call tt_77 rfl rfl rfl rfl rfl tt_109 rfl (by decide) (w_lPick z σ37 (a1) (v1) ((v1 + 1)) _ ra1 r7 c54 w) (fun u60 σ56 hq58 => ?_)
                obtain ⟨rfl, hF57, w⟩ := hq58
                have w := w hF57
                obtain ⟨c61, w⟩ := w
                refine wk_b tt_77 2 (pc' := 40) (ls' := [(5, .inl ((v36 + 1))), (0, .inr (.inr (.ref 61))), (1, .inl (a1)), (2, .inl (a2)), (3, .inl (v1)), (4, .inl (q24))]) (st' := []) (σ' := σ56) rfl ?_
                obtain ⟨m62, hm62, w⟩ := w
                exact wk_ls [(0, .inr (.inr (.ref 61))), (1, .inl (a1)), (2, .inl (a2)), (3, .inl (v1)), (4, .inl (q24)), (5, .inl ((v36 + 1)))] rfl ⟨rfl, rfl, rfl, rfl, rfl, rfl, trivial⟩ (ih43 m62 hm62 ((v36 + 1)) σ56 c61 (sg_F_t (sg_F_t (sg_F_r [85, 86, 87, 14077, 16077] σ31) (sg_F_m (L := [85, 86, 87, 14077, 16077]) hF38 rfl)) (sg_F_m (L := [85, 86, 87, 14077, 16077]) hF57 rfl)) w)
          exact wk_ls [(0, .inr (.inr (.ref 61))), (1, .inl (a1)), (2, .inl (a2)), (3, .inl (v1)), (4, .inl (q24)), (5, .inl (0))] rfl ⟨rfl, rfl, rfl, rfl, rfl, rfl, trivial⟩ (lp45 μ40 (0) σ31 (by decide) (sg_F_r _ _) w46)
  exact wk_ls [(0, .inr (.inr (.ref 61))), (1, .inl (a1)), (2, .inl (a2)), (3, .inl (0))] rfl ⟨rfl, rfl, rfl, rfl, trivial⟩ (lp10 μ5 (0) σ (by decide) (sg_F_r _ _) w11)
-- NestedVectors$FlatRun.reverse
def V_fReverse (σ : sg_S) (a1 : Int) (Q : sg_S → Prop) : Prop := (∃ (I4 : Nat → Int → sg_S → Prop) (X6 : sg_S → Prop), (∃ n, I4 n (0) σ) ∧ (∀ (n14 : Nat) (v1 : Int) (σ2 : sg_S), sg_R v1 → sg_F [83, 85, 86, 87, 12077, 14077, 16077] σ σ2 → I4 n14 v1 σ2 → (((sg_g σ 61 23) ≤ v1 → X6 σ2) ∧ (v1 < (sg_g σ 61 23) → p_lStart σ (a1) (v1) ∧ p_lCell σ (a1) (v1) ∧ V_lFirst σ2 ((v_lCell σ (a1) (v1))) (fun σ28 => sg_F [83, 12077, 16077] σ2 σ28 → p_lEnd σ (a1) (v1) ∧ sg_R ((v_lEnd σ (a1) (v1)) - 1) ∧ (∃ (I39 : Nat → Int → sg_S → Prop) (X41 : sg_S → Prop), (∃ n, I39 n (((v_lEnd σ (a1) (v1)) - 1)) σ28) ∧ (∀ (n49 : Nat) (v36 : Int) (σ37 : sg_S), sg_R v36 → sg_F [85, 86, 87, 14077, 16077] σ28 σ37 → I39 n49 v36 σ37 → ((v36 < (v_lStart σ (a1) (v1)) → X41 σ37) ∧ ((v_lStart σ (a1) (v1)) ≤ v36 → p_lItems σ (a1) ∧ sg_R (v36 + 1) ∧ V_lPick σ37 ((v_lItems σ (a1))) (v36) ((v36 + 1)) (fun σ58 => sg_F [85, 86, 87, 14077, 16077] σ37 σ58 → sg_R (v36 + (-1)) ∧ (∃ m, m < n49 ∧ I39 m ((v36 + (-1))) σ58))))) ∧ (∀ (σ37 : sg_S), sg_F [85, 86, 87, 14077, 16077] σ28 σ37 → X41 σ37 → sg_R (v1 + 1) ∧ (∃ m, m < n14 ∧ I4 m ((v1 + 1)) σ37))))))) ∧ (∀ (σ2 : sg_S), sg_F [83, 85, 86, 87, 12077, 14077, 16077] σ σ2 → X6 σ2 → V_fGive σ2 (1) (fun σ17 => sg_F [64, 78, 79, 80, 81, 82, 85, 86, 87, 8061, 11061, 11077, 12077, 13077, 14077, 15077, 16077, 17077, 18077, 19077] σ2 σ17 → Q σ17)))
set_option maxHeartbeats 4000000 in
set_option maxRecDepth 8000 in
theorem w_fReverse (z : Value) (σ : sg_S) (a1 : Int) (Q : sg_S → Prop) (ra1 : sg_R a1) (w : V_fReverse σ a1 Q) : wx z 4 79 0 [(0, .inr (.inr (.ref 61))), (1, .inl (a1))] [] σ (fun v σ' => v = none ∧ sg_F [64, 78, 79, 80, 81, 82, 83, 85, 86, 87, 8061, 11061, 11077, 12077, 13077, 14077, 15077, 16077, 17077, 18077, 19077] σ σ' ∧ Q σ') := by
  unfold V_fReverse at w
  refine wk_b tt_79 2 (pc' := 2) (ls' := [(2, .inl (0)), (0, .inr (.inr (.ref 61))), (1, .inl (a1))]) (st' := []) (σ' := σ) rfl ?_
  obtain ⟨I4, X6, ⟨μ5, w11⟩, w12, w13⟩ := w
  have ex15 : ∀ (σ2 : sg_S), sg_F [83, 85, 86, 87, 12077, 14077, 16077] σ σ2 → X6 σ2 → wx z 4 79 88 [(0, .inr (.inr (.ref 61)))] [] σ2 (fun v σ' => v = none ∧ sg_F [64, 78, 79, 80, 81, 82, 83, 85, 86, 87, 8061, 11061, 11077, 12077, 13077, 14077, 15077, 16077, 17077, 18077, 19077] σ σ' ∧ Q σ') := by
    intro σ2 hF3 w
    have w := w13 σ2 hF3 w
    refine wk_b tt_79 2 (pc' := 90) (ls' := [(0, .inr (.inr (.ref 61)))]) (st' := [.inl (1), .inr (.inr (.ref 61))]) (σ' := σ2) rfl ?_
    refine wk_call tt_79 rfl rfl rfl rfl rfl tt_65 rfl (by decide) (w_fGive z σ2 (1) _ (by decide) w) (fun u21 σ17 hq19 => ?_)
    obtain ⟨rfl, hF18, w⟩ := hq19
    have w := w hF18
    exact wk_rV tt_79 rfl rfl ⟨rfl, (sg_F_t (sg_F_t (sg_F_r [64, 78, 79, 80, 81, 82, 83, 85, 86, 87, 8061, 11061, 11077, 12077, 13077, 14077, 15077, 16077, 17077, 18077, 19077] σ) (sg_F_m (L := [64, 78, 79, 80, 81, 82, 83, 85, 86, 87, 8061, 11061, 11077, 12077, 13077, 14077, 15077, 16077, 17077, 18077, 19077]) hF3 rfl)) (sg_F_m (L := [64, 78, 79, 80, 81, 82, 83, 85, 86, 87, 8061, 11061, 11077, 12077, 13077, 14077, 15077, 16077, 17077, 18077, 19077]) hF18 rfl)), w⟩
  have lp10 : ∀ (n14 : Nat) (v1 : Int) (σ2 : sg_S), sg_R v1 → sg_F [83, 85, 86, 87, 12077, 14077, 16077] σ σ2 → I4 n14 v1 σ2 → wx z 4 79 2 [(0, .inr (.inr (.ref 61))), (1, .inl (a1)), (2, .inl (v1))] [] σ2 (fun v σ' => v = none ∧ sg_F [64, 78, 79, 80, 81, 82, 83, 85, 86, 87, 8061, 11061, 11077, 12077, 13077, 14077, 15077, 16077, 17077, 18077, 19077] σ σ' ∧ Q σ') := by
    intro n14
    induction n14 using Nat.strongRecOn with
    | _ n14 ih8 =>
      intro v1 σ2 r7 hF3 w
      have w := w12 n14 v1 σ2 r7 hF3 w
      refine wk_b tt_79 3 (pc' := 7) (ls' := [(0, .inr (.inr (.ref 61))), (1, .inl (a1)), (2, .inl (v1))]) (st' := [.inl ((sg_g σ2 61 23)), .inl (v1)]) (σ' := σ2) rfl ?_
      rw [show (sg_g σ2 61 23) = (sg_g σ 61 23) from by rw [sg_F_ga hF3 rfl]]
      refine wk_if2 tt_79 (tgt := 88) rfl rfl r7 (sg_Rg _ _ _) (fun (h22 : (sg_g σ 61 23) ≤ v1) => ?_) (fun (h22 : v1 < (sg_g σ 61 23)) => ?_)
      ·
        have w := w.1 h22
        exact wk_ls [(0, .inr (.inr (.ref 61)))] rfl ⟨rfl, trivial⟩ (ex15  σ2  (sg_F_t (sg_F_r [83, 85, 86, 87, 12077, 14077, 16077] σ) (sg_F_m (L := [83, 85, 86, 87, 12077, 14077, 16077]) hF3 rfl)) w)
      ·
        have w := w.2 h22
        refine wk_b tt_79 4 (pc' := 16) (ls' := [(0, .inr (.inr (.ref 61))), (1, .inl (a1)), (2, .inl (v1))]) (st' := [.inl (v1), .inl (a1), .inr (.inr (.ref 77))]) (σ' := σ2) rfl ?_
        obtain ⟨c23, w⟩ := w
        have c23 : p_lStart σ2 (a1) (v1) := by
          rw [pF_lStart hF3 rfl rfl]; exact c23
        refine wk_callp tt_79 rfl rfl rfl rfl rfl tt_114 rfl (by decide) (w_lStart z σ2 (a1) (v1) ra1 r7 c23) ?_
        rw [vF_lStart hF3 rfl rfl]
        have r24 := vr_lStart σ  (a1) (v1) ra1 r7 (by have q := c23; rw [pF_lStart hF3 rfl rfl] at q; exact q)
        refine wk_b tt_79 7 (pc' := 30) (ls' := [(3, .inl ((v_lStart σ (a1) (v1)))), (0, .inr (.inr (.ref 61))), (1, .inl (a1)), (2, .inl (v1))]) (st' := [.inl (v1), .inl (a1), .inr (.inr (.ref 77)), .inr (.inr (.ref 77))]) (σ' := σ2) rfl ?_
        obtain ⟨c25, w⟩ := w
        have c25 : p_lCell σ2 (a1) (v1) := by
          rw [pF_lCell hF3 rfl rfl]; exact c25
        refine wk_callp tt_79 rfl rfl rfl rfl rfl tt_100 rfl (by decide) (w_lCell z σ2 (a1) (v1) ra1 r7 c25) ?_
        rw [vF_lCell hF3 rfl rfl]
        have r26 := vr_lCell σ  (a1) (v1) ra1 r7 (by have q := c25; rw [pF_lCell hF3 rfl rfl] at q; exact q)
        refine wk_call tt_79 rfl rfl rfl rfl rfl tt_105 rfl (by decide) (w_lFirst z σ2 ((v_lCell σ (a1) (v1))) _ r26 w) (fun u32 σ28 hq30 => ?_)
        obtain ⟨rfl, hF29, w⟩ := hq30
        have w := w hF29
        refine wk_b tt_79 4 (pc' := 42) (ls' := [(3, .inl ((v_lStart σ (a1) (v1)))), (0, .inr (.inr (.ref 61))), (1, .inl (a1)), (2, .inl (v1))]) (st' := [.inl (v1), .inl (a1), .inr (.inr (.ref 77))]) (σ' := σ28) rfl ?_
        obtain ⟨c33, w⟩ := w
        have c33 : p_lEnd σ28 (a1) (v1) := by
          rw [pF_lEnd hF29 rfl rfl rfl, pF_lEnd hF3 rfl rfl rfl]; exact c33
        refine wk_callp tt_79 rfl rfl rfl rfl rfl tt_104 rfl (by decide) (w_lEnd z σ28 (a1) (v1) ra1 r7 c33) ?_
        rw [vF_lEnd hF29 rfl rfl rfl, vF_lEnd hF3 rfl rfl rfl]
        have r34 := vr_lEnd σ  (a1) (v1) ra1 r7 (by have q := c33; rw [pF_lEnd hF29 rfl rfl rfl, pF_lEnd hF3 rfl rfl rfl] at q; exact q)
        obtain ⟨c35, w⟩ := w
        refine wk_b tt_79 3 (pc' := 49) (ls' := [(4, .inl (((v_lEnd σ (a1) (v1)) - 1))), (3, .inl ((v_lStart σ (a1) (v1)))), (0, .inr (.inr (.ref 61))), (1, .inl (a1)), (2, .inl (v1))]) (st' := []) (σ' := σ28) rfl ?_
        obtain ⟨I39, X41, ⟨μ40, w46⟩, w47, w48⟩ := w
        have ex50 : ∀ (σ37 : sg_S), sg_F [85, 86, 87, 14077, 16077] σ28 σ37 → X41 σ37 → wx z 4 79 82 [(0, .inr (.inr (.ref 61))), (1, .inl (a1)), (2, .inl (v1))] [] σ37 (fun v σ' => v = none ∧ sg_F [64, 78, 79, 80, 81, 82, 83, 85, 86, 87, 8061, 11061, 11077, 12077, 13077, 14077, 15077, 16077, 17077, 18077, 19077] σ σ' ∧ Q σ') := by
          intro σ37 hF38 w
          have w := w48 σ37 hF38 w
          obtain ⟨c51, w⟩ := w
          refine wk_b tt_79 2 (pc' := 2) (ls' := [(2, .inl ((v1 + 1))), (0, .inr (.inr (.ref 61))), (1, .inl (a1))]) (st' := []) (σ' := σ37) rfl ?_
          obtain ⟨m52, hm52, w⟩ := w
          exact wk_ls [(0, .inr (.inr (.ref 61))), (1, .inl (a1)), (2, .inl ((v1 + 1)))] rfl ⟨rfl, rfl, rfl, trivial⟩ (ih8 m52 hm52 ((v1 + 1)) σ37 c51 (sg_F_t (sg_F_t (sg_F_t (sg_F_r [83, 85, 86, 87, 12077, 14077, 16077] σ) (sg_F_m (L := [83, 85, 86, 87, 12077, 14077, 16077]) hF3 rfl)) (sg_F_m (L := [83, 85, 86, 87, 12077, 14077, 16077]) hF29 rfl)) (sg_F_m (L := [83, 85, 86, 87, 12077, 14077, 16077]) hF38 rfl)) w)
        have lp45 : ∀ (n49 : Nat) (v36 : Int) (σ37 : sg_S), sg_R v36 → sg_F [85, 86, 87, 14077, 16077] σ28 σ37 → I39 n49 v36 σ37 → wx z 4 79 49 [(0, .inr (.inr (.ref 61))), (1, .inl (a1)), (2, .inl (v1)), (3, .inl ((v_lStart σ (a1) (v1)))), (4, .inl (v36))] [] σ37 (fun v σ' => v = none ∧ sg_F [64, 78, 79, 80, 81, 82, 83, 85, 86, 87, 8061, 11061, 11077, 12077, 13077, 14077, 15077, 16077, 17077, 18077, 19077] σ σ' ∧ Q σ') := by
          intro n49
          induction n49 using Nat.strongRecOn with
          | _ n49 ih43 =>
            intro v36 σ37 r42 hF38 w
            have w := w47 n49 v36 σ37 r42 hF38 w
            refine wk_b tt_79 2 (pc' := 52) (ls' := [(0, .inr (.inr (.ref 61))), (1, .inl (a1)), (2, .inl (v1)), (3, .inl ((v_lStart σ (a1) (v1)))), (4, .inl (v36))]) (st' := [.inl ((v_lStart σ (a1) (v1))), .inl (v36)]) (σ' := σ37) rfl ?_
            refine wk_if2 tt_79 (tgt := 82) rfl rfl r42 r24 (fun (h53 : v36 < (v_lStart σ (a1) (v1))) => ?_) (fun (h53 : (v_lStart σ (a1) (v1)) ≤ v36) => ?_)
            ·
              have w := w.1 h53
              exact wk_ls [(0, .inr (.inr (.ref 61))), (1, .inl (a1)), (2, .inl (v1))] rfl ⟨rfl, rfl, rfl, trivial⟩ (ex50  σ37  (sg_F_t (sg_F_r [85, 86, 87, 14077, 16077] σ28) (sg_F_m (L := [85, 86, 87, 14077, 16077]) hF38 rfl)) w)
            ·
              have w := w.2 h53
              refine wk_b tt_79 5 (pc' := 64) (ls' := [(0, .inr (.inr (.ref 61))), (1, .inl (a1)), (2, .inl (v1)), (3, .inl ((v_lStart σ (a1) (v1)))), (4, .inl (v36))]) (st' := [.inl (a1), .inr (.inr (.ref 77)), .inr (.inr (.ref 77))]) (σ' := σ37) rfl ?_
              obtain ⟨c54, w⟩ := w
              have c54 : p_lItems σ37 (a1) := by
                rw [pF_lItems hF38 rfl, pF_lItems hF29 rfl, pF_lItems hF3 rfl]; exact c54
              refine wk_callp tt_79 rfl rfl rfl rfl rfl tt_106 rfl (by decide) (w_lItems z σ37 (a1) ra1 c54) ?_
              rw [vF_lItems hF38 rfl, vF_lItems hF29 rfl, vF_lItems hF3 rfl]
              have r55 := vr_lItems σ  (a1) ra1 (by have q := c54; rw [pF_lItems hF38 rfl, pF_lItems hF29 rfl, pF_lItems hF3 rfl] at q; exact q)
              obtain ⟨c56, w⟩ := w
              refine wk_b tt_79 4 (pc' := 73) (ls' := [(0, .inr (.inr (.ref 61))), (1, .inl (a1)), (2, .inl (v1)), (3, .inl ((v_lStart σ (a1) (v1)))), (4, .inl (v36))]) (st' := [.inl ((v36 + 1)), .inl (v36), .inl ((v_lItems σ (a1))), .inr (.inr (.ref 77))]) (σ' := σ37) rfl ?_
              refine wk_call tt_79 rfl rfl rfl rfl rfl tt_109 rfl (by decide) (w_lPick z σ37 ((v_lItems σ (a1))) (v36) ((v36 + 1)) _ r55 r42 c56 w) (fun u62 σ58 hq60 => ?_)
              obtain ⟨rfl, hF59, w⟩ := hq60
              have w := w hF59
              obtain ⟨c63, w⟩ := w
              refine wk_b tt_79 2 (pc' := 49) (ls' := [(4, .inl ((v36 + (-1)))), (0, .inr (.inr (.ref 61))), (1, .inl (a1)), (2, .inl (v1)), (3, .inl ((v_lStart σ (a1) (v1))))]) (st' := []) (σ' := σ58) rfl ?_
              obtain ⟨m64, hm64, w⟩ := w
              exact wk_ls [(0, .inr (.inr (.ref 61))), (1, .inl (a1)), (2, .inl (v1)), (3, .inl ((v_lStart σ (a1) (v1)))), (4, .inl ((v36 + (-1))))] rfl ⟨rfl, rfl, rfl, rfl, rfl, trivial⟩ (ih43 m64 hm64 ((v36 + (-1))) σ58 c63 (sg_F_t (sg_F_t (sg_F_r [85, 86, 87, 14077, 16077] σ28) (sg_F_m (L := [85, 86, 87, 14077, 16077]) hF38 rfl)) (sg_F_m (L := [85, 86, 87, 14077, 16077]) hF59 rfl)) w)
        exact wk_ls [(0, .inr (.inr (.ref 61))), (1, .inl (a1)), (2, .inl (v1)), (3, .inl ((v_lStart σ (a1) (v1)))), (4, .inl (((v_lEnd σ (a1) (v1)) - 1)))] rfl ⟨rfl, rfl, rfl, rfl, rfl, trivial⟩ (lp45 μ40 (((v_lEnd σ (a1) (v1)) - 1)) σ28 c35 (sg_F_r _ _) w46)
  exact wk_ls [(0, .inr (.inr (.ref 61))), (1, .inl (a1)), (2, .inl (0))] rfl ⟨rfl, rfl, rfl, trivial⟩ (lp10 μ5 (0) σ (by decide) (sg_F_r _ _) w11)
-- NestedVectors$FlatRun.row
def V_fRow (σ : sg_S) (a1 : Int) (Q : sg_S → Prop) : Prop := sg_R ((sg_g σ 61 7) - a1) ∧ ∀ σ2, σ2 = (sg_w σ 61 7 (((sg_g σ 61 7) - a1))) → (∃ (I8 : Nat → Int → sg_S → Prop) (X10 : sg_S → Prop), (∃ n, I8 n (0) σ2) ∧ (∀ (n18 : Nat) (v5 : Int) (σ6 : sg_S), sg_R v5 → sg_F [83, 85, 86, 87, 12077, 14077, 16077] σ2 σ6 → I8 n18 v5 σ6 → (((sg_g σ 61 23) ≤ v5 → X10 σ6) ∧ (v5 < (sg_g σ 61 23) → ((¬ (sg_g σ6 77 15) = 0 → X10 σ6) ∧ ((sg_g σ6 77 15) = 0 → V_lFirst σ6 (a1) (fun σ29 => sg_F [83, 12077, 16077] σ6 σ29 → (∃ (I37 : Nat → Int → sg_S → Prop) (X39 : sg_S → Prop), (∃ n, I37 n (0) σ29) ∧ (∀ (n47 : Nat) (v34 : Int) (σ35 : sg_S), sg_R v34 → sg_F [85, 86, 87, 14077, 16077] σ29 σ35 → I37 n47 v34 σ35 → ((a1 ≤ v34 → X39 σ35) ∧ (v34 < a1 → sg_R (((sg_g σ 61 7) - a1) + v34) ∧ sg_R (v5 + 1) ∧ V_lPick σ35 ((sx_at σ 64 400 ((((sg_g σ 61 7) - a1) + v34)))) (v5) ((v5 + 1)) (fun σ55 => sg_F [85, 86, 87, 14077, 16077] σ35 σ55 → sg_R (v34 + 1) ∧ (∃ m, m < n47 ∧ I37 m ((v34 + 1)) σ55))))) ∧ (∀ (σ35 : sg_S), sg_F [85, 86, 87, 14077, 16077] σ29 σ35 → X39 σ35 → sg_R (v5 + 1) ∧ (∃ m, m < n18 ∧ I8 m ((v5 + 1)) σ35))))))))) ∧ (∀ (σ6 : sg_S), sg_F [83, 85, 86, 87, 12077, 14077, 16077] σ2 σ6 → X10 σ6 → V_fGive σ6 (1) (fun σ21 => sg_F [64, 78, 79, 80, 81, 82, 85, 86, 87, 8061, 11061, 11077, 12077, 13077, 14077, 15077, 16077, 17077, 18077, 19077] σ6 σ21 → Q σ21)))
set_option maxHeartbeats 4000000 in
set_option maxRecDepth 8000 in
theorem w_fRow (z : Value) (σ : sg_S) (a1 : Int) (Q : sg_S → Prop) (ra1 : sg_R a1) (w : V_fRow σ a1 Q) : wx z 4 80 0 [(0, .inr (.inr (.ref 61))), (1, .inl (a1))] [] σ (fun v σ' => v = none ∧ sg_F [64, 78, 79, 80, 81, 82, 83, 85, 86, 87, 8061, 11061, 11077, 12077, 13077, 14077, 15077, 16077, 17077, 18077, 19077] σ σ' ∧ Q σ') := by
  unfold V_fRow at w
  obtain ⟨c1, w⟩ := w
  refine wk_b tt_80 6 (pc' := 10) (ls' := [(0, .inr (.inr (.ref 61))), (1, .inl (a1))]) (st' := []) (σ' := (sg_w σ 61 7 (((sg_g σ 61 7) - a1)))) rfl ?_
  generalize hs3 : (sg_w σ 61 7 (((sg_g σ 61 7) - a1))) = σ2
  have w := w σ2 hs3.symm
  have hF4 : sg_F [8061] σ σ2 := by rw [← hs3]; exact sg_F_w (sg_F_r _ _) rfl _
  refine wk_b tt_80 2 (pc' := 12) (ls' := [(2, .inl (0)), (0, .inr (.inr (.ref 61))), (1, .inl (a1))]) (st' := []) (σ' := σ2) rfl ?_
  obtain ⟨I8, X10, ⟨μ9, w15⟩, w16, w17⟩ := w
  have ex19 : ∀ (σ6 : sg_S), sg_F [83, 85, 86, 87, 12077, 14077, 16077] σ2 σ6 → X10 σ6 → wx z 4 80 81 [(0, .inr (.inr (.ref 61)))] [] σ6 (fun v σ' => v = none ∧ sg_F [64, 78, 79, 80, 81, 82, 83, 85, 86, 87, 8061, 11061, 11077, 12077, 13077, 14077, 15077, 16077, 17077, 18077, 19077] σ σ' ∧ Q σ') := by
    intro σ6 hF7 w
    have w := w17 σ6 hF7 w
    refine wk_b tt_80 2 (pc' := 83) (ls' := [(0, .inr (.inr (.ref 61)))]) (st' := [.inl (1), .inr (.inr (.ref 61))]) (σ' := σ6) rfl ?_
    refine wk_call tt_80 rfl rfl rfl rfl rfl tt_65 rfl (by decide) (w_fGive z σ6 (1) _ (by decide) w) (fun u25 σ21 hq23 => ?_)
    obtain ⟨rfl, hF22, w⟩ := hq23
    have w := w hF22
    exact wk_rV tt_80 rfl rfl ⟨rfl, (sg_F_t (sg_F_t (sg_F_t (sg_F_r [64, 78, 79, 80, 81, 82, 83, 85, 86, 87, 8061, 11061, 11077, 12077, 13077, 14077, 15077, 16077, 17077, 18077, 19077] σ) (sg_F_m (L := [64, 78, 79, 80, 81, 82, 83, 85, 86, 87, 8061, 11061, 11077, 12077, 13077, 14077, 15077, 16077, 17077, 18077, 19077]) hF4 rfl)) (sg_F_m (L := [64, 78, 79, 80, 81, 82, 83, 85, 86, 87, 8061, 11061, 11077, 12077, 13077, 14077, 15077, 16077, 17077, 18077, 19077]) hF7 rfl)) (sg_F_m (L := [64, 78, 79, 80, 81, 82, 83, 85, 86, 87, 8061, 11061, 11077, 12077, 13077, 14077, 15077, 16077, 17077, 18077, 19077]) hF22 rfl)), w⟩
  have lp14 : ∀ (n18 : Nat) (v5 : Int) (σ6 : sg_S), sg_R v5 → sg_F [83, 85, 86, 87, 12077, 14077, 16077] σ2 σ6 → I8 n18 v5 σ6 → wx z 4 80 12 [(0, .inr (.inr (.ref 61))), (1, .inl (a1)), (2, .inl (v5))] [] σ6 (fun v σ' => v = none ∧ sg_F [64, 78, 79, 80, 81, 82, 83, 85, 86, 87, 8061, 11061, 11077, 12077, 13077, 14077, 15077, 16077, 17077, 18077, 19077] σ σ' ∧ Q σ') := by
    intro n18
    induction n18 using Nat.strongRecOn with
    | _ n18 ih12 =>
      intro v5 σ6 r11 hF7 w
      have w := w16 n18 v5 σ6 r11 hF7 w
      refine wk_b tt_80 3 (pc' := 17) (ls' := [(0, .inr (.inr (.ref 61))), (1, .inl (a1)), (2, .inl (v5))]) (st' := [.inl ((sg_g σ6 61 23)), .inl (v5)]) (σ' := σ6) rfl ?_
      rw [show (sg_g σ6 61 23) = (sg_g σ 61 23) from by rw [sg_F_ga hF7 rfl, sg_F_g hF4 rfl]]
      refine wk_if2 tt_80 (tgt := 81) rfl rfl r11 (sg_Rg _ _ _) (fun (h26 : (sg_g σ 61 23) ≤ v5) => ?_) (fun (h26 : v5 < (sg_g σ 61 23)) => ?_)
      ·
        have w := w.1 h26
        exact wk_ls [(0, .inr (.inr (.ref 61)))] rfl ⟨rfl, trivial⟩ (ex19  σ6  (sg_F_t (sg_F_r [83, 85, 86, 87, 12077, 14077, 16077] σ2) (sg_F_m (L := [83, 85, 86, 87, 12077, 14077, 16077]) hF7 rfl)) w)
      ·
        have w := w.2 h26
        refine wk_b tt_80 3 (pc' := 27) (ls' := [(0, .inr (.inr (.ref 61))), (1, .inl (a1)), (2, .inl (v5))]) (st' := [.inl ((sg_g σ6 77 15))]) (σ' := σ6) rfl ?_
        refine wk_if tt_80 (tgt := 81) rfl rfl (sg_Rg _ _ _) (fun (h27 : ¬ (sg_g σ6 77 15) = 0) => ?_) (fun (h27 : (sg_g σ6 77 15) = 0) => ?_)
        ·
          have w := w.1 h27
          exact wk_ls [(0, .inr (.inr (.ref 61)))] rfl ⟨rfl, trivial⟩ (ex19  σ6  (sg_F_t (sg_F_r [83, 85, 86, 87, 12077, 14077, 16077] σ2) (sg_F_m (L := [83, 85, 86, 87, 12077, 14077, 16077]) hF7 rfl)) w)
        ·
          have w := w.2 h27
          refine wk_b tt_80 3 (pc' := 35) (ls' := [(0, .inr (.inr (.ref 61))), (1, .inl (a1)), (2, .inl (v5))]) (st' := [.inl (a1), .inr (.inr (.ref 77))]) (σ' := σ6) rfl ?_
          refine wk_call tt_80 rfl rfl rfl rfl rfl tt_105 rfl (by decide) (w_lFirst z σ6 (a1) _ ra1 w) (fun u33 σ29 hq31 => ?_)
          obtain ⟨rfl, hF30, w⟩ := hq31
          have w := w hF30
          refine wk_b tt_80 2 (pc' := 40) (ls' := [(3, .inl (0)), (0, .inr (.inr (.ref 61))), (1, .inl (a1)), (2, .inl (v5))]) (st' := []) (σ' := σ29) rfl ?_
          obtain ⟨I37, X39, ⟨μ38, w44⟩, w45, w46⟩ := w
          have ex48 : ∀ (σ35 : sg_S), sg_F [85, 86, 87, 14077, 16077] σ29 σ35 → X39 σ35 → wx z 4 80 75 [(0, .inr (.inr (.ref 61))), (1, .inl (a1)), (2, .inl (v5))] [] σ35 (fun v σ' => v = none ∧ sg_F [64, 78, 79, 80, 81, 82, 83, 85, 86, 87, 8061, 11061, 11077, 12077, 13077, 14077, 15077, 16077, 17077, 18077, 19077] σ σ' ∧ Q σ') := by
            intro σ35 hF36 w
            have w := w46 σ35 hF36 w
            obtain ⟨c49, w⟩ := w
            refine wk_b tt_80 2 (pc' := 12) (ls' := [(2, .inl ((v5 + 1))), (0, .inr (.inr (.ref 61))), (1, .inl (a1))]) (st' := []) (σ' := σ35) rfl ?_
            obtain ⟨m50, hm50, w⟩ := w
            exact wk_ls [(0, .inr (.inr (.ref 61))), (1, .inl (a1)), (2, .inl ((v5 + 1)))] rfl ⟨rfl, rfl, rfl, trivial⟩ (ih12 m50 hm50 ((v5 + 1)) σ35 c49 (sg_F_t (sg_F_t (sg_F_t (sg_F_r [83, 85, 86, 87, 12077, 14077, 16077] σ2) (sg_F_m (L := [83, 85, 86, 87, 12077, 14077, 16077]) hF7 rfl)) (sg_F_m (L := [83, 85, 86, 87, 12077, 14077, 16077]) hF30 rfl)) (sg_F_m (L := [83, 85, 86, 87, 12077, 14077, 16077]) hF36 rfl)) w)
          have lp43 : ∀ (n47 : Nat) (v34 : Int) (σ35 : sg_S), sg_R v34 → sg_F [85, 86, 87, 14077, 16077] σ29 σ35 → I37 n47 v34 σ35 → wx z 4 80 40 [(0, .inr (.inr (.ref 61))), (1, .inl (a1)), (2, .inl (v5)), (3, .inl (v34))] [] σ35 (fun v σ' => v = none ∧ sg_F [64, 78, 79, 80, 81, 82, 83, 85, 86, 87, 8061, 11061, 11077, 12077, 13077, 14077, 15077, 16077, 17077, 18077, 19077] σ σ' ∧ Q σ') := by
            intro n47
            induction n47 using Nat.strongRecOn with
            | _ n47 ih41 =>
              intro v34 σ35 r40 hF36 w
              have w := w45 n47 v34 σ35 r40 hF36 w
              refine wk_b tt_80 2 (pc' := 42) (ls' := [(0, .inr (.inr (.ref 61))), (1, .inl (a1)), (2, .inl (v5)), (3, .inl (v34))]) (st' := [.inl (a1), .inl (v34)]) (σ' := σ35) rfl ?_
              refine wk_if2 tt_80 (tgt := 75) rfl rfl r40 ra1 (fun (h51 : a1 ≤ v34) => ?_) (fun (h51 : v34 < a1) => ?_)
              ·
                have w := w.1 h51
                exact wk_ls [(0, .inr (.inr (.ref 61))), (1, .inl (a1)), (2, .inl (v5))] rfl ⟨rfl, rfl, rfl, trivial⟩ (ex48  σ35  (sg_F_t (sg_F_r [85, 86, 87, 14077, 16077] σ29) (sg_F_m (L := [85, 86, 87, 14077, 16077]) hF36 rfl)) w)
              ·
                have w := w.2 h51
                obtain ⟨c52, w⟩ := w
                refine wk_b tt_80 8 (pc' := 59) (ls' := [(0, .inr (.inr (.ref 61))), (1, .inl (a1)), (2, .inl (v5)), (3, .inl (v34))]) (st' := [.inl (((sg_g σ35 61 7) + v34)), .inr (.inr (.ref 64)), .inr (.inr (.ref 77))]) (σ' := σ35) rfl ?_
                rw [show (sg_g σ35 61 7) = ((sg_g σ 61 7) - a1) from by rw [sg_F_ga hF36 rfl, sg_F_ga hF30 rfl, sg_F_ga hF7 rfl, (show sg_g σ2 61 7 = ((sg_g σ 61 7) - a1) from by rw [← hs3]; exact sg_gw_e _ _ _ _ c1)]]
                refine wk_callp tt_80 rfl rfl rfl rfl rfl tt_5 rfl (by decide) (at_i0 z σ35 64 400 ((((sg_g σ 61 7) - a1) + v34)) rfl (by decide) c52) ?_
                show wx z 4 80 62 [(0, .inr (.inr (.ref 61))), (1, .inl (a1)), (2, .inl (v5)), (3, .inl (v34))] [.inl ((sx_at σ35 64 400 ((((sg_g σ 61 7) - a1) + v34)))), .inr (.inr (.ref 77))] σ35 (fun v σ' => v = none ∧ sg_F [64, 78, 79, 80, 81, 82, 83, 85, 86, 87, 8061, 11061, 11077, 12077, 13077, 14077, 15077, 16077, 17077, 18077, 19077] σ σ' ∧ Q σ')
                rw [sx_F (a := 64) (n := 400) (i := ((((sg_g σ 61 7) - a1) + v34))) hF36 rfl, sx_F (a := 64) (n := 400) (i := ((((sg_g σ 61 7) - a1) + v34))) hF30 rfl, sx_F (a := 64) (n := 400) (i := ((((sg_g σ 61 7) - a1) + v34))) hF7 rfl, sx_F (a := 64) (n := 400) (i := ((((sg_g σ 61 7) - a1) + v34))) hF4 rfl]
                obtain ⟨c53, w⟩ := w
                refine wk_b tt_80 4 (pc' := 66) (ls' := [(0, .inr (.inr (.ref 61))), (1, .inl (a1)), (2, .inl (v5)), (3, .inl (v34))]) (st' := [.inl ((v5 + 1)), .inl (v5), .inl ((sx_at σ 64 400 ((((sg_g σ 61 7) - a1) + v34)))), .inr (.inr (.ref 77))]) (σ' := σ35) rfl ?_
                refine wk_call tt_80 rfl rfl rfl rfl rfl tt_109 rfl (by decide) (w_lPick z σ35 ((sx_at σ 64 400 ((((sg_g σ 61 7) - a1) + v34)))) (v5) ((v5 + 1)) _ (sx_R ..) r11 c53 w) (fun u59 σ55 hq57 => ?_)
                obtain ⟨rfl, hF56, w⟩ := hq57
                have w := w hF56
                obtain ⟨c60, w⟩ := w
                refine wk_b tt_80 2 (pc' := 40) (ls' := [(3, .inl ((v34 + 1))), (0, .inr (.inr (.ref 61))), (1, .inl (a1)), (2, .inl (v5))]) (st' := []) (σ' := σ55) rfl ?_
                obtain ⟨m61, hm61, w⟩ := w
                exact wk_ls [(0, .inr (.inr (.ref 61))), (1, .inl (a1)), (2, .inl (v5)), (3, .inl ((v34 + 1)))] rfl ⟨rfl, rfl, rfl, rfl, trivial⟩ (ih41 m61 hm61 ((v34 + 1)) σ55 c60 (sg_F_t (sg_F_t (sg_F_r [85, 86, 87, 14077, 16077] σ29) (sg_F_m (L := [85, 86, 87, 14077, 16077]) hF36 rfl)) (sg_F_m (L := [85, 86, 87, 14077, 16077]) hF56 rfl)) w)
          exact wk_ls [(0, .inr (.inr (.ref 61))), (1, .inl (a1)), (2, .inl (v5)), (3, .inl (0))] rfl ⟨rfl, rfl, rfl, rfl, trivial⟩ (lp43 μ38 (0) σ29 (by decide) (sg_F_r _ _) w44)
  exact wk_ls [(0, .inr (.inr (.ref 61))), (1, .inl (a1)), (2, .inl (0))] rfl ⟨rfl, rfl, rfl, trivial⟩ (lp14 μ9 (0) σ2 (by decide) (sg_F_r _ _) w15)
-- NestedVectors$FlatRun.select
def V_fSelect (σ : sg_S) (a1 : Int) (a2 : Int) (Q : sg_S → Prop) : Prop := (∃ (I4 : Nat → Int → sg_S → Prop) (X6 : sg_S → Prop), (∃ n, I4 n (0) σ) ∧ (∀ (n14 : Nat) (v1 : Int) (σ2 : sg_S), sg_R v1 → sg_F [85, 86, 87, 14077, 15077, 16077] σ σ2 → I4 n14 v1 σ2 → (((sg_g σ 61 23) ≤ v1 → X6 σ2) ∧ (v1 < (sg_g σ 61 23) → p_lCell σ (a2) (v1) ∧ (∃ P27 : sg_S → Prop, (((v_lCell σ (a2) (v1)) < 0 → V_lMiss σ2 (2) (fun σ34 => sg_F [15077] σ2 σ34 → V_lPick σ34 ((-1)) (0) (1) (fun σ40 => sg_F [85, 86, 87, 14077, 16077] σ34 σ40 → P27 σ40))) ∧ (0 ≤ (v_lCell σ (a2) (v1)) → p_lCell σ (a1) (v1) ∧ (((v_lCell σ (a2) (v1)) < (v_lCell σ (a1) (v1)) → p_lStart σ (a1) (v1) ∧ sg_R ((v_lStart σ (a1) (v1)) + (v_lCell σ (a2) (v1))) ∧ p_lItems σ (a1) ∧ sg_R (((v_lStart σ (a1) (v1)) + (v_lCell σ (a2) (v1))) + 1) ∧ V_lPick σ2 ((v_lItems σ (a1))) (((v_lStart σ (a1) (v1)) + (v_lCell σ (a2) (v1)))) ((((v_lStart σ (a1) (v1)) + (v_lCell σ (a2) (v1))) + 1)) (fun σ55 => sg_F [85, 86, 87, 14077, 16077] σ2 σ55 → P27 σ55)) ∧ ((v_lCell σ (a1) (v1)) ≤ (v_lCell σ (a2) (v1)) → V_lMiss σ2 (2) (fun σ61 => sg_F [15077] σ2 σ61 → V_lPick σ61 ((-1)) (0) (1) (fun σ67 => sg_F [85, 86, 87, 14077, 16077] σ61 σ67 → P27 σ67)))))) ∧ (∀ (σ28 : sg_S), sg_F [85, 86, 87, 14077, 15077, 16077] σ2 σ28 → P27 σ28 → sg_R (v1 + 1) ∧ (∃ m, m < n14 ∧ I4 m ((v1 + 1)) σ28)))))) ∧ (∀ (σ2 : sg_S), sg_F [85, 86, 87, 14077, 15077, 16077] σ σ2 → X6 σ2 → V_fGive σ2 (0) (fun σ17 => sg_F [64, 78, 79, 80, 81, 82, 85, 86, 87, 8061, 11061, 11077, 12077, 13077, 14077, 15077, 16077, 17077, 18077, 19077] σ2 σ17 → Q σ17)))
set_option maxHeartbeats 4000000 in
set_option maxRecDepth 8000 in
theorem w_fSelect (z : Value) (σ : sg_S) (a1 : Int) (a2 : Int) (Q : sg_S → Prop) (ra1 : sg_R a1) (ra2 : sg_R a2) (w : V_fSelect σ a1 a2 Q) : wx z 4 82 0 [(0, .inr (.inr (.ref 61))), (1, .inl (a1)), (2, .inl (a2))] [] σ (fun v σ' => v = none ∧ sg_F [64, 78, 79, 80, 81, 82, 85, 86, 87, 8061, 11061, 11077, 12077, 13077, 14077, 15077, 16077, 17077, 18077, 19077] σ σ' ∧ Q σ') := by
  unfold V_fSelect at w
  refine wk_b tt_82 2 (pc' := 2) (ls' := [(3, .inl (0)), (0, .inr (.inr (.ref 61))), (1, .inl (a1)), (2, .inl (a2))]) (st' := []) (σ' := σ) rfl ?_
  obtain ⟨I4, X6, ⟨μ5, w11⟩, w12, w13⟩ := w
  have ex15 : ∀ (σ2 : sg_S), sg_F [85, 86, 87, 14077, 15077, 16077] σ σ2 → X6 σ2 → wx z 4 82 102 [(0, .inr (.inr (.ref 61)))] [] σ2 (fun v σ' => v = none ∧ sg_F [64, 78, 79, 80, 81, 82, 85, 86, 87, 8061, 11061, 11077, 12077, 13077, 14077, 15077, 16077, 17077, 18077, 19077] σ σ' ∧ Q σ') := by
    intro σ2 hF3 w
    have w := w13 σ2 hF3 w
    refine wk_b tt_82 2 (pc' := 104) (ls' := [(0, .inr (.inr (.ref 61)))]) (st' := [.inl (0), .inr (.inr (.ref 61))]) (σ' := σ2) rfl ?_
    refine wk_call tt_82 rfl rfl rfl rfl rfl tt_65 rfl (by decide) (w_fGive z σ2 (0) _ (by decide) w) (fun u21 σ17 hq19 => ?_)
    obtain ⟨rfl, hF18, w⟩ := hq19
    have w := w hF18
    exact wk_rV tt_82 rfl rfl ⟨rfl, (sg_F_t (sg_F_t (sg_F_r [64, 78, 79, 80, 81, 82, 85, 86, 87, 8061, 11061, 11077, 12077, 13077, 14077, 15077, 16077, 17077, 18077, 19077] σ) (sg_F_m (L := [64, 78, 79, 80, 81, 82, 85, 86, 87, 8061, 11061, 11077, 12077, 13077, 14077, 15077, 16077, 17077, 18077, 19077]) hF3 rfl)) (sg_F_m (L := [64, 78, 79, 80, 81, 82, 85, 86, 87, 8061, 11061, 11077, 12077, 13077, 14077, 15077, 16077, 17077, 18077, 19077]) hF18 rfl)), w⟩
  have lp10 : ∀ (n14 : Nat) (v1 : Int) (σ2 : sg_S), sg_R v1 → sg_F [85, 86, 87, 14077, 15077, 16077] σ σ2 → I4 n14 v1 σ2 → wx z 4 82 2 [(0, .inr (.inr (.ref 61))), (1, .inl (a1)), (2, .inl (a2)), (3, .inl (v1))] [] σ2 (fun v σ' => v = none ∧ sg_F [64, 78, 79, 80, 81, 82, 85, 86, 87, 8061, 11061, 11077, 12077, 13077, 14077, 15077, 16077, 17077, 18077, 19077] σ σ' ∧ Q σ') := by
    intro n14
    induction n14 using Nat.strongRecOn with
    | _ n14 ih8 =>
      intro v1 σ2 r7 hF3 w
      have w := w12 n14 v1 σ2 r7 hF3 w
      refine wk_b tt_82 3 (pc' := 7) (ls' := [(0, .inr (.inr (.ref 61))), (1, .inl (a1)), (2, .inl (a2)), (3, .inl (v1))]) (st' := [.inl ((sg_g σ2 61 23)), .inl (v1)]) (σ' := σ2) rfl ?_
      rw [show (sg_g σ2 61 23) = (sg_g σ 61 23) from by rw [sg_F_ga hF3 rfl]]
      refine wk_if2 tt_82 (tgt := 102) rfl rfl r7 (sg_Rg _ _ _) (fun (h22 : (sg_g σ 61 23) ≤ v1) => ?_) (fun (h22 : v1 < (sg_g σ 61 23)) => ?_)
      ·
        have w := w.1 h22
        exact wk_ls [(0, .inr (.inr (.ref 61)))] rfl ⟨rfl, trivial⟩ (ex15  σ2  (sg_F_t (sg_F_r [85, 86, 87, 14077, 15077, 16077] σ) (sg_F_m (L := [85, 86, 87, 14077, 15077, 16077]) hF3 rfl)) w)
      ·
        have w := w.2 h22
        refine wk_b tt_82 4 (pc' := 16) (ls' := [(0, .inr (.inr (.ref 61))), (1, .inl (a1)), (2, .inl (a2)), (3, .inl (v1))]) (st' := [.inl (v1), .inl (a2), .inr (.inr (.ref 77))]) (σ' := σ2) rfl ?_
        obtain ⟨c23, w⟩ := w
        have c23 : p_lCell σ2 (a2) (v1) := by
          rw [pF_lCell hF3 rfl rfl]; exact c23
        refine wk_callp tt_82 rfl rfl rfl rfl rfl tt_100 rfl (by decide) (w_lCell z σ2 (a2) (v1) ra2 r7 c23) ?_
        rw [vF_lCell hF3 rfl rfl]
        have r24 := vr_lCell σ  (a2) (v1) ra2 r7 (by have q := c23; rw [pF_lCell hF3 rfl rfl] at q; exact q)
        refine wk_b tt_82 2 (pc' := 23) (ls' := [(4, .inl ((v_lCell σ (a2) (v1)))), (0, .inr (.inr (.ref 61))), (1, .inl (a1)), (2, .inl (a2)), (3, .inl (v1))]) (st' := [.inl ((v_lCell σ (a2) (v1)))]) (σ' := σ2) rfl ?_
        obtain ⟨P27, w, w30⟩ := w
        have jn26 : ∀ (σ28 : sg_S), sg_F [85, 86, 87, 14077, 15077, 16077] σ2 σ28 → P27 σ28 → wx z 4 82 96 [(0, .inr (.inr (.ref 61))), (1, .inl (a1)), (2, .inl (a2)), (3, .inl (v1))] [] σ28 (fun v σ' => v = none ∧ sg_F [64, 78, 79, 80, 81, 82, 85, 86, 87, 8061, 11061, 11077, 12077, 13077, 14077, 15077, 16077, 17077, 18077, 19077] σ σ' ∧ Q σ') := by
          intro σ28 hF29 w
          have w := w30 σ28 hF29 w
          obtain ⟨c31, w⟩ := w
          refine wk_b tt_82 2 (pc' := 2) (ls' := [(3, .inl ((v1 + 1))), (0, .inr (.inr (.ref 61))), (1, .inl (a1)), (2, .inl (a2))]) (st' := []) (σ' := σ28) rfl ?_
          obtain ⟨m32, hm32, w⟩ := w
          exact wk_ls [(0, .inr (.inr (.ref 61))), (1, .inl (a1)), (2, .inl (a2)), (3, .inl ((v1 + 1)))] rfl ⟨rfl, rfl, rfl, rfl, trivial⟩ (ih8 m32 hm32 ((v1 + 1)) σ28 c31 (sg_F_t (sg_F_t (sg_F_r [85, 86, 87, 14077, 15077, 16077] σ) (sg_F_m (L := [85, 86, 87, 14077, 15077, 16077]) hF3 rfl)) (sg_F_m (L := [85, 86, 87, 14077, 15077, 16077]) hF29 rfl)) w)
        refine wk_if tt_82 (tgt := 40) rfl rfl r24 (fun (h25 : (v_lCell σ (a2) (v1)) < 0) => ?_) (fun (h25 : 0 ≤ (v_lCell σ (a2) (v1))) => ?_)
        ·
          have w := w.1 h25
          refine wk_b tt_82 3 (pc' := 45) (ls' := [(4, .inl ((v_lCell σ (a2) (v1)))), (0, .inr (.inr (.ref 61))), (1, .inl (a1)), (2, .inl (a2)), (3, .inl (v1))]) (st' := [.inl (2), .inr (.inr (.ref 77))]) (σ' := σ2) rfl ?_
          refine wk_call tt_82 rfl rfl rfl rfl rfl tt_108 rfl (by decide) (w_lMiss z σ2 (2) _ (by decide) w) (fun u38 σ34 hq36 => ?_)
          obtain ⟨rfl, hF35, w⟩ := hq36
          have w := w hF35
          refine wk_b tt_82 5 (pc' := 55) (ls' := [(4, .inl ((v_lCell σ (a2) (v1)))), (0, .inr (.inr (.ref 61))), (1, .inl (a1)), (2, .inl (a2)), (3, .inl (v1))]) (st' := [.inl (1), .inl (0), .inl ((-1)), .inr (.inr (.ref 77))]) (σ' := σ34) rfl ?_
          refine wk_call tt_82 rfl rfl rfl rfl rfl tt_109 rfl (by decide) (w_lPick z σ34 ((-1)) (0) (1) _ (by decide) (by decide) (by decide) w) (fun u44 σ40 hq42 => ?_)
          obtain ⟨rfl, hF41, w⟩ := hq42
          have w := w hF41
          refine wk_b tt_82 1 (pc' := 96) (ls' := [(4, .inl ((v_lCell σ (a2) (v1)))), (0, .inr (.inr (.ref 61))), (1, .inl (a1)), (2, .inl (a2)), (3, .inl (v1))]) (st' := []) (σ' := σ40) rfl ?_
          exact wk_ls [(0, .inr (.inr (.ref 61))), (1, .inl (a1)), (2, .inl (a2)), (3, .inl (v1))] rfl ⟨rfl, rfl, rfl, rfl, trivial⟩ (jn26 σ40 (sg_F_t (sg_F_t (sg_F_r [85, 86, 87, 14077, 15077, 16077] σ2) (sg_F_m (L := [85, 86, 87, 14077, 15077, 16077]) hF35 rfl)) (sg_F_m (L := [85, 86, 87, 14077, 15077, 16077]) hF41 rfl)) w)
        ·
          have w := w.2 h25
          refine wk_b tt_82 5 (pc' := 34) (ls' := [(4, .inl ((v_lCell σ (a2) (v1)))), (0, .inr (.inr (.ref 61))), (1, .inl (a1)), (2, .inl (a2)), (3, .inl (v1))]) (st' := [.inl (v1), .inl (a1), .inr (.inr (.ref 77)), .inl ((v_lCell σ (a2) (v1)))]) (σ' := σ2) rfl ?_
          obtain ⟨c45, w⟩ := w
          have c45 : p_lCell σ2 (a1) (v1) := by
            rw [pF_lCell hF3 rfl rfl]; exact c45
          refine wk_callp tt_82 rfl rfl rfl rfl rfl tt_100 rfl (by decide) (w_lCell z σ2 (a1) (v1) ra1 r7 c45) ?_
          rw [vF_lCell hF3 rfl rfl]
          have r46 := vr_lCell σ  (a1) (v1) ra1 r7 (by have q := c45; rw [pF_lCell hF3 rfl rfl] at q; exact q)
          refine wk_if2 tt_82 (tgt := 61) rfl rfl r24 r46 (fun (h47 : (v_lCell σ (a2) (v1)) < (v_lCell σ (a1) (v1))) => ?_) (fun (h47 : (v_lCell σ (a1) (v1)) ≤ (v_lCell σ (a2) (v1))) => ?_)
          ·
            have w := w.1 h47
            refine wk_b tt_82 4 (pc' := 67) (ls' := [(4, .inl ((v_lCell σ (a2) (v1)))), (0, .inr (.inr (.ref 61))), (1, .inl (a1)), (2, .inl (a2)), (3, .inl (v1))]) (st' := [.inl (v1), .inl (a1), .inr (.inr (.ref 77))]) (σ' := σ2) rfl ?_
            obtain ⟨c48, w⟩ := w
            have c48 : p_lStart σ2 (a1) (v1) := by
              rw [pF_lStart hF3 rfl rfl]; exact c48
            refine wk_callp tt_82 rfl rfl rfl rfl rfl tt_114 rfl (by decide) (w_lStart z σ2 (a1) (v1) ra1 r7 c48) ?_
            rw [vF_lStart hF3 rfl rfl]
            have r49 := vr_lStart σ  (a1) (v1) ra1 r7 (by have q := c48; rw [pF_lStart hF3 rfl rfl] at q; exact q)
            obtain ⟨c50, w⟩ := w
            refine wk_b tt_82 8 (pc' := 84) (ls' := [(5, .inl (((v_lStart σ (a1) (v1)) + (v_lCell σ (a2) (v1))))), (4, .inl ((v_lCell σ (a2) (v1)))), (0, .inr (.inr (.ref 61))), (1, .inl (a1)), (2, .inl (a2)), (3, .inl (v1))]) (st' := [.inl (a1), .inr (.inr (.ref 77)), .inr (.inr (.ref 77))]) (σ' := σ2) rfl ?_
            obtain ⟨c51, w⟩ := w
            have c51 : p_lItems σ2 (a1) := by
              rw [pF_lItems hF3 rfl]; exact c51
            refine wk_callp tt_82 rfl rfl rfl rfl rfl tt_106 rfl (by decide) (w_lItems z σ2 (a1) ra1 c51) ?_
            rw [vF_lItems hF3 rfl]
            have r52 := vr_lItems σ  (a1) ra1 (by have q := c51; rw [pF_lItems hF3 rfl] at q; exact q)
            obtain ⟨c53, w⟩ := w
            refine wk_b tt_82 4 (pc' := 93) (ls' := [(5, .inl (((v_lStart σ (a1) (v1)) + (v_lCell σ (a2) (v1))))), (4, .inl ((v_lCell σ (a2) (v1)))), (0, .inr (.inr (.ref 61))), (1, .inl (a1)), (2, .inl (a2)), (3, .inl (v1))]) (st' := [.inl ((((v_lStart σ (a1) (v1)) + (v_lCell σ (a2) (v1))) + 1)), .inl (((v_lStart σ (a1) (v1)) + (v_lCell σ (a2) (v1)))), .inl ((v_lItems σ (a1))), .inr (.inr (.ref 77))]) (σ' := σ2) rfl ?_
            refine wk_call tt_82 rfl rfl rfl rfl rfl tt_109 rfl (by decide) (w_lPick z σ2 ((v_lItems σ (a1))) (((v_lStart σ (a1) (v1)) + (v_lCell σ (a2) (v1)))) ((((v_lStart σ (a1) (v1)) + (v_lCell σ (a2) (v1))) + 1)) _ r52 c50 c53 w) (fun u59 σ55 hq57 => ?_)
            obtain ⟨rfl, hF56, w⟩ := hq57
            have w := w hF56
            exact wk_ls [(0, .inr (.inr (.ref 61))), (1, .inl (a1)), (2, .inl (a2)), (3, .inl (v1))] rfl ⟨rfl, rfl, rfl, rfl, trivial⟩ (jn26 σ55 (sg_F_t (sg_F_r [85, 86, 87, 14077, 15077, 16077] σ2) (sg_F_m (L := [85, 86, 87, 14077, 15077, 16077]) hF56 rfl)) w)
          ·
            have w := w.2 h47
            refine wk_b tt_82 3 (pc' := 45) (ls' := [(4, .inl ((v_lCell σ (a2) (v1)))), (0, .inr (.inr (.ref 61))), (1, .inl (a1)), (2, .inl (a2)), (3, .inl (v1))]) (st' := [.inl (2), .inr (.inr (.ref 77))]) (σ' := σ2) rfl ?_
            refine wk_call tt_82 rfl rfl rfl rfl rfl tt_108 rfl (by decide) (w_lMiss z σ2 (2) _ (by decide) w) (fun u65 σ61 hq63 => ?_)
            obtain ⟨rfl, hF62, w⟩ := hq63
            have w := w hF62
            refine wk_b tt_82 5 (pc' := 55) (ls' := [(4, .inl ((v_lCell σ (a2) (v1)))), (0, .inr (.inr (.ref 61))), (1, .inl (a1)), (2, .inl (a2)), (3, .inl (v1))]) (st' := [.inl (1), .inl (0), .inl ((-1)), .inr (.inr (.ref 77))]) (σ' := σ61) rfl ?_
            refine wk_call tt_82 rfl rfl rfl rfl rfl tt_109 rfl (by decide) (w_lPick z σ61 ((-1)) (0) (1) _ (by decide) (by decide) (by decide) w) (fun u71 σ67 hq69 => ?_)
            obtain ⟨rfl, hF68, w⟩ := hq69
            have w := w hF68
            refine wk_b tt_82 1 (pc' := 96) (ls' := [(4, .inl ((v_lCell σ (a2) (v1)))), (0, .inr (.inr (.ref 61))), (1, .inl (a1)), (2, .inl (a2)), (3, .inl (v1))]) (st' := []) (σ' := σ67) rfl ?_
            exact wk_ls [(0, .inr (.inr (.ref 61))), (1, .inl (a1)), (2, .inl (a2)), (3, .inl (v1))] rfl ⟨rfl, rfl, rfl, rfl, trivial⟩ (jn26 σ67 (sg_F_t (sg_F_t (sg_F_r [85, 86, 87, 14077, 15077, 16077] σ2) (sg_F_m (L := [85, 86, 87, 14077, 15077, 16077]) hF62 rfl)) (sg_F_m (L := [85, 86, 87, 14077, 15077, 16077]) hF68 rfl)) w)
  exact wk_ls [(0, .inr (.inr (.ref 61))), (1, .inl (a1)), (2, .inl (a2)), (3, .inl (0))] rfl ⟨rfl, rfl, rfl, rfl, trivial⟩ (lp10 μ5 (0) σ (by decide) (sg_F_r _ _) w11)
-- NestedVectors$FlatRun.shorten
def V_fShorten (σ : sg_S) (a1 : Int) (a2 : Int) (Q : sg_S → Prop) : Prop := (∃ (I4 : Nat → Int → sg_S → Prop) (X6 : sg_S → Prop), (∃ n, I4 n (0) σ) ∧ (∀ (n14 : Nat) (v1 : Int) (σ2 : sg_S), sg_R v1 → sg_F [83, 12077, 16077] σ σ2 → I4 n14 v1 σ2 → (((sx_at σ 69 200 (a1)) ≤ v1 → X6 σ2) ∧ (v1 < (sx_at σ 69 200 (a1)) → p_lEnd σ ((sx_at σ 70 200 (a1))) (v1) ∧ p_lStart σ ((sx_at σ 70 200 (a1))) (v1) ∧ (∃ (I37 : Nat → Int → Int → Prop) (X39 : Int → Prop), (∃ n, I37 n (0) ((v_lStart σ ((sx_at σ 70 200 (a1))) (v1)))) ∧ (∀ (n48 : Nat) (v33 : Int) (v34 : Int), sg_R v33 → sg_R v34 → I37 n48 v33 v34 → (((v_lEnd σ ((sx_at σ 70 200 (a1))) (v1)) ≤ v34 → X39 (v33)) ∧ (v34 < (v_lEnd σ ((sx_at σ 70 200 (a1))) (v1)) → p_fChosen σ (a2) (v34) (1) ∧ ∀ v62 : Int, v62 = (if (v_fChosen σ (a2) (v34) (1)) = 0 then (0 : Int) else (1 : Int)) → sg_R v62 → sg_R (v33 + v62) ∧ sg_R (v34 + 1) ∧ (∃ m, m < n48 ∧ I37 m ((v33 + v62)) ((v34 + 1)))))) ∧ (∀ (v33 : Int), sg_R v33 → X39 v33 → V_lFirst σ2 (v33) (fun σ51 => sg_F [83, 12077, 16077] σ2 σ51 → sg_R (v1 + 1) ∧ (∃ m, m < n14 ∧ I4 m ((v1 + 1)) σ51))))))) ∧ (∀ (σ2 : sg_S), sg_F [83, 12077, 16077] σ σ2 → X6 σ2 → V_lSeal σ2 (0) (1) (fun q16 σ17 => sg_R q16 → sg_F [78, 79, 80, 81, 82, 85, 86, 87, 11077, 12077, 13077, 14077, 15077, 16077, 17077, 18077, 19077] σ2 σ17 → ∀ σ22, σ22 = (sx_put σ17 70 200 (a1) (q16)) → ∀ σ25, σ25 = (sg_w σ22 61 10 ((sg_g σ17 77 18))) → Q σ25)))
set_option maxHeartbeats 4000000 in
set_option maxRecDepth 8000 in
theorem w_fShorten (z : Value) (σ : sg_S) (a1 : Int) (a2 : Int) (Q : sg_S → Prop) (ra1 : sg_R a1) (ra2 : sg_R a2) (w : V_fShorten σ a1 a2 Q) : wx z 3 83 0 [(0, .inr (.inr (.ref 61))), (1, .inl (a1)), (2, .inl (a2))] [] σ (fun v σ' => v = none ∧ sg_F [70, 78, 79, 80, 81, 82, 83, 85, 86, 87, 11061, 11077, 12077, 13077, 14077, 15077, 16077, 17077, 18077, 19077] σ σ' ∧ Q σ') := by
  unfold V_fShorten at w
  refine wk_b tt_83 3 (pc' := 5) (ls' := [(0, .inr (.inr (.ref 61))), (1, .inl (a1)), (2, .inl (a2))]) (st' := [.inl (a1), .inr (.inr (.ref 70))]) (σ' := σ) rfl ?_
  refine wk_callp tt_83 rfl rfl rfl rfl rfl tt_5 rfl (by decide) (at_i0 z σ 70 200 (a1) rfl (by decide) ra1) ?_
  show wx z 3 83 8 [(0, .inr (.inr (.ref 61))), (1, .inl (a1)), (2, .inl (a2))] [.inl ((sx_at σ 70 200 (a1)))] σ (fun v σ' => v = none ∧ sg_F [70, 78, 79, 80, 81, 82, 83, 85, 86, 87, 11061, 11077, 12077, 13077, 14077, 15077, 16077, 17077, 18077, 19077] σ σ' ∧ Q σ')
  refine wk_b tt_83 3 (pc' := 12) (ls' := [(4, .inl (0)), (3, .inl ((sx_at σ 70 200 (a1)))), (0, .inr (.inr (.ref 61))), (1, .inl (a1)), (2, .inl (a2))]) (st' := []) (σ' := σ) rfl ?_
  obtain ⟨I4, X6, ⟨μ5, w11⟩, w12, w13⟩ := w
  have ex15 : ∀ (σ2 : sg_S), sg_F [83, 12077, 16077] σ σ2 → X6 σ2 → wx z 3 83 101 [(0, .inr (.inr (.ref 61))), (1, .inl (a1))] [] σ2 (fun v σ' => v = none ∧ sg_F [70, 78, 79, 80, 81, 82, 83, 85, 86, 87, 11061, 11077, 12077, 13077, 14077, 15077, 16077, 17077, 18077, 19077] σ σ' ∧ Q σ') := by
    intro σ2 hF3 w
    have w := w13 σ2 hF3 w
    refine wk_b tt_83 7 (pc' := 112) (ls' := [(0, .inr (.inr (.ref 61))), (1, .inl (a1))]) (st' := [.inl (1), .inl (0), .inr (.inr (.ref 77)), .inl (a1), .inr (.inr (.ref 70))]) (σ' := σ2) rfl ?_
    refine wk_call tt_83 rfl rfl rfl rfl rfl tt_111 rfl (by decide) (w_lSeal z σ2 (0) (1) _ (by decide) (by decide) w) (fun u21 σ17 hq19 => ?_)
    obtain ⟨q16, rfl, r20, hF18, w⟩ := hq19
    have w := w r20 hF18
    refine wk_callp tt_83 rfl rfl rfl rfl rfl tt_21 rfl (by decide) (pt_i0 z σ17 70 200 (a1) (q16) rfl (by decide) ra1) ?_
    show wx z 3 83 118 [(0, .inr (.inr (.ref 61))), (1, .inl (a1))] [] (sx_put σ17 70 200 (a1) (q16)) (fun v σ' => v = none ∧ sg_F [70, 78, 79, 80, 81, 82, 83, 85, 86, 87, 11061, 11077, 12077, 13077, 14077, 15077, 16077, 17077, 18077, 19077] σ σ' ∧ Q σ')
    generalize hs23 : (sx_put σ17 70 200 (a1) (q16)) = σ22
    have w := w σ22 hs23.symm
    have hF24 : sg_F [70] σ17 σ22 := by rw [← hs23]; exact sg_F_p (sg_F_r _ _) rfl _ _ _
    refine wk_b tt_83 5 (pc' := 129) (ls' := [(0, .inr (.inr (.ref 61))), (1, .inl (a1))]) (st' := []) (σ' := (sg_w σ22 61 10 ((sg_g σ22 77 18)))) rfl ?_
    rw [show (sg_g σ22 77 18) = (sg_g σ17 77 18) from by rw [sg_F_ga hF24 rfl]]
    generalize hs26 : (sg_w σ22 61 10 ((sg_g σ17 77 18))) = σ25
    have w := w σ25 hs26.symm
    have hF27 : sg_F [11061] σ22 σ25 := by rw [← hs26]; exact sg_F_w (sg_F_r _ _) rfl _
    exact wk_rV tt_83 rfl rfl ⟨rfl, (sg_F_t (sg_F_t (sg_F_t (sg_F_t (sg_F_r [70, 78, 79, 80, 81, 82, 83, 85, 86, 87, 11061, 11077, 12077, 13077, 14077, 15077, 16077, 17077, 18077, 19077] σ) (sg_F_m (L := [70, 78, 79, 80, 81, 82, 83, 85, 86, 87, 11061, 11077, 12077, 13077, 14077, 15077, 16077, 17077, 18077, 19077]) hF3 rfl)) (sg_F_m (L := [70, 78, 79, 80, 81, 82, 83, 85, 86, 87, 11061, 11077, 12077, 13077, 14077, 15077, 16077, 17077, 18077, 19077]) hF18 rfl)) (sg_F_m (L := [70, 78, 79, 80, 81, 82, 83, 85, 86, 87, 11061, 11077, 12077, 13077, 14077, 15077, 16077, 17077, 18077, 19077]) hF24 rfl)) (sg_F_m (L := [70, 78, 79, 80, 81, 82, 83, 85, 86, 87, 11061, 11077, 12077, 13077, 14077, 15077, 16077, 17077, 18077, 19077]) hF27 rfl)), w⟩
  have lp10 : ∀ (n14 : Nat) (v1 : Int) (σ2 : sg_S), sg_R v1 → sg_F [83, 12077, 16077] σ σ2 → I4 n14 v1 σ2 → wx z 3 83 12 [(0, .inr (.inr (.ref 61))), (1, .inl (a1)), (2, .inl (a2)), (3, .inl ((sx_at σ 70 200 (a1)))), (4, .inl (v1))] [] σ2 (fun v σ' => v = none ∧ sg_F [70, 78, 79, 80, 81, 82, 83, 85, 86, 87, 11061, 11077, 12077, 13077, 14077, 15077, 16077, 17077, 18077, 19077] σ σ' ∧ Q σ') := by
    intro n14
    induction n14 using Nat.strongRecOn with
    | _ n14 ih8 =>
      intro v1 σ2 r7 hF3 w
      have w := w12 n14 v1 σ2 r7 hF3 w
      refine wk_b tt_83 4 (pc' := 19) (ls' := [(0, .inr (.inr (.ref 61))), (1, .inl (a1)), (2, .inl (a2)), (3, .inl ((sx_at σ 70 200 (a1)))), (4, .inl (v1))]) (st' := [.inl (a1), .inr (.inr (.ref 69)), .inl (v1)]) (σ' := σ2) rfl ?_
      refine wk_callp tt_83 rfl rfl rfl rfl rfl tt_5 rfl (by decide) (at_i0 z σ2 69 200 (a1) rfl (by decide) ra1) ?_
      show wx z 3 83 22 [(0, .inr (.inr (.ref 61))), (1, .inl (a1)), (2, .inl (a2)), (3, .inl ((sx_at σ 70 200 (a1)))), (4, .inl (v1))] [.inl ((sx_at σ2 69 200 (a1))), .inl (v1)] σ2 (fun v σ' => v = none ∧ sg_F [70, 78, 79, 80, 81, 82, 83, 85, 86, 87, 11061, 11077, 12077, 13077, 14077, 15077, 16077, 17077, 18077, 19077] σ σ' ∧ Q σ')
      rw [sx_F (a := 69) (n := 200) (i := (a1)) hF3 rfl]
      refine wk_if2 tt_83 (tgt := 101) rfl rfl r7 (sx_R ..) (fun (h28 : (sx_at σ 69 200 (a1)) ≤ v1) => ?_) (fun (h28 : v1 < (sx_at σ 69 200 (a1))) => ?_)
      ·
        have w := w.1 h28
        exact wk_ls [(0, .inr (.inr (.ref 61))), (1, .inl (a1))] rfl ⟨rfl, rfl, trivial⟩ (ex15  σ2  (sg_F_t (sg_F_r [83, 12077, 16077] σ) (sg_F_m (L := [83, 12077, 16077]) hF3 rfl)) w)
      ·
        have w := w.2 h28
        refine wk_b tt_83 6 (pc' := 35) (ls' := [(5, .inl (0)), (0, .inr (.inr (.ref 61))), (1, .inl (a1)), (2, .inl (a2)), (3, .inl ((sx_at σ 70 200 (a1)))), (4, .inl (v1))]) (st' := [.inl (v1), .inl ((sx_at σ 70 200 (a1))), .inr (.inr (.ref 77))]) (σ' := σ2) rfl ?_
        obtain ⟨c29, w⟩ := w
        have c29 : p_lEnd σ2 ((sx_at σ 70 200 (a1))) (v1) := by
          rw [pF_lEnd hF3 rfl rfl rfl]; exact c29
        refine wk_callp tt_83 rfl rfl rfl rfl rfl tt_104 rfl (by decide) (w_lEnd z σ2 ((sx_at σ 70 200 (a1))) (v1) (sx_R ..) r7 c29) ?_
        rw [vF_lEnd hF3 rfl rfl rfl]
        have r30 := vr_lEnd σ  ((sx_at σ 70 200 (a1))) (v1) (sx_R ..) r7 (by have q := c29; rw [pF_lEnd hF3 rfl rfl rfl] at q; exact q)
        refine wk_b tt_83 5 (pc' := 47) (ls' := [(6, .inl ((v_lEnd σ ((sx_at σ 70 200 (a1))) (v1)))), (5, .inl (0)), (0, .inr (.inr (.ref 61))), (1, .inl (a1)), (2, .inl (a2)), (3, .inl ((sx_at σ 70 200 (a1)))), (4, .inl (v1))]) (st' := [.inl (v1), .inl ((sx_at σ 70 200 (a1))), .inr (.inr (.ref 77))]) (σ' := σ2) rfl ?_
        obtain ⟨c31, w⟩ := w
        have c31 : p_lStart σ2 ((sx_at σ 70 200 (a1))) (v1) := by
          rw [pF_lStart hF3 rfl rfl]; exact c31
        refine wk_callp tt_83 rfl rfl rfl rfl rfl tt_114 rfl (by decide) (w_lStart z σ2 ((sx_at σ 70 200 (a1))) (v1) (sx_R ..) r7 c31) ?_
        rw [vF_lStart hF3 rfl rfl]
        have r32 := vr_lStart σ  ((sx_at σ 70 200 (a1))) (v1) (sx_R ..) r7 (by have q := c31; rw [pF_lStart hF3 rfl rfl] at q; exact q)
        refine wk_b tt_83 1 (pc' := 52) (ls' := [(7, .inl ((v_lStart σ ((sx_at σ 70 200 (a1))) (v1)))), (6, .inl ((v_lEnd σ ((sx_at σ 70 200 (a1))) (v1)))), (5, .inl (0)), (0, .inr (.inr (.ref 61))), (1, .inl (a1)), (2, .inl (a2)), (3, .inl ((sx_at σ 70 200 (a1)))), (4, .inl (v1))]) (st' := []) (σ' := σ2) rfl ?_
        obtain ⟨I37, X39, ⟨μ38, w45⟩, w46, w47⟩ := w
        have ex49 : ∀ (v33 : Int), sg_R v33 → X39 v33 → wx z 3 83 86 [(0, .inr (.inr (.ref 61))), (1, .inl (a1)), (2, .inl (a2)), (3, .inl ((sx_at σ 70 200 (a1)))), (4, .inl (v1)), (5, .inl (v33))] [] σ2 (fun v σ' => v = none ∧ sg_F [70, 78, 79, 80, 81, 82, 83, 85, 86, 87, 11061, 11077, 12077, 13077, 14077, 15077, 16077, 17077, 18077, 19077] σ σ' ∧ Q σ') := by
          intro v33 r40 w
          have w := w47 v33 r40 w
          refine wk_b tt_83 3 (pc' := 92) (ls' := [(0, .inr (.inr (.ref 61))), (1, .inl (a1)), (2, .inl (a2)), (3, .inl ((sx_at σ 70 200 (a1)))), (4, .inl (v1)), (5, .inl (v33))]) (st' := [.inl (v33), .inr (.inr (.ref 77))]) (σ' := σ2) rfl ?_
          refine wk_call tt_83 rfl rfl rfl rfl rfl tt_105 rfl (by decide) (w_lFirst z σ2 (v33) _ r40 w) (fun u55 σ51 hq53 => ?_)
          obtain ⟨rfl, hF52, w⟩ := hq53
          have w := w hF52
          obtain ⟨c56, w⟩ := w
          refine wk_b tt_83 2 (pc' := 12) (ls' := [(4, .inl ((v1 + 1))), (0, .inr (.inr (.ref 61))), (1, .inl (a1)), (2, .inl (a2)), (3, .inl ((sx_at σ 70 200 (a1)))), (5, .inl (v33))]) (st' := []) (σ' := σ51) rfl ?_
          obtain ⟨m57, hm57, w⟩ := w
          exact wk_ls [(0, .inr (.inr (.ref 61))), (1, .inl (a1)), (2, .inl (a2)), (3, .inl ((sx_at σ 70 200 (a1)))), (4, .inl ((v1 + 1)))] rfl ⟨rfl, rfl, rfl, rfl, rfl, trivial⟩ (ih8 m57 hm57 ((v1 + 1)) σ51 c56 (sg_F_t (sg_F_t (sg_F_r [83, 12077, 16077] σ) (sg_F_m (L := [83, 12077, 16077]) hF3 rfl)) (sg_F_m (L := [83, 12077, 16077]) hF52 rfl)) w)
        have lp44 : ∀ (n48 : Nat) (v33 : Int) (v34 : Int), sg_R v33 → sg_R v34 → I37 n48 v33 v34 → wx z 3 83 52 [(0, .inr (.inr (.ref 61))), (1, .inl (a1)), (2, .inl (a2)), (3, .inl ((sx_at σ 70 200 (a1)))), (4, .inl (v1)), (5, .inl (v33)), (6, .inl ((v_lEnd σ ((sx_at σ 70 200 (a1))) (v1)))), (7, .inl (v34))] [] σ2 (fun v σ' => v = none ∧ sg_F [70, 78, 79, 80, 81, 82, 83, 85, 86, 87, 11061, 11077, 12077, 13077, 14077, 15077, 16077, 17077, 18077, 19077] σ σ' ∧ Q σ') := by
          intro n48
          induction n48 using Nat.strongRecOn with
          | _ n48 ih42 =>
            intro v33 v34 r40 r41 w
            have w := w46 n48 v33 v34 r40 r41 w
            refine wk_b tt_83 2 (pc' := 56) (ls' := [(0, .inr (.inr (.ref 61))), (1, .inl (a1)), (2, .inl (a2)), (3, .inl ((sx_at σ 70 200 (a1)))), (4, .inl (v1)), (5, .inl (v33)), (6, .inl ((v_lEnd σ ((sx_at σ 70 200 (a1))) (v1)))), (7, .inl (v34))]) (st' := [.inl ((v_lEnd σ ((sx_at σ 70 200 (a1))) (v1))), .inl (v34)]) (σ' := σ2) rfl ?_
            refine wk_if2 tt_83 (tgt := 86) rfl rfl r41 r30 (fun (h58 : (v_lEnd σ ((sx_at σ 70 200 (a1))) (v1)) ≤ v34) => ?_) (fun (h58 : v34 < (v_lEnd σ ((sx_at σ 70 200 (a1))) (v1))) => ?_)
            ·
              have w := w.1 h58
              exact wk_ls [(0, .inr (.inr (.ref 61))), (1, .inl (a1)), (2, .inl (a2)), (3, .inl ((sx_at σ 70 200 (a1)))), (4, .inl (v1)), (5, .inl (v33))] rfl ⟨rfl, rfl, rfl, rfl, rfl, rfl, trivial⟩ (ex49 (v33)  r40  w)
            ·
              have w := w.2 h58
              refine wk_b tt_83 5 (pc' := 66) (ls' := [(0, .inr (.inr (.ref 61))), (1, .inl (a1)), (2, .inl (a2)), (3, .inl ((sx_at σ 70 200 (a1)))), (4, .inl (v1)), (5, .inl (v33)), (6, .inl ((v_lEnd σ ((sx_at σ 70 200 (a1))) (v1)))), (7, .inl (v34))]) (st' := [.inl (1), .inl (v34), .inl (a2), .inr (.inr (.ref 61)), .inl (v33)]) (σ' := σ2) rfl ?_
              obtain ⟨c59, w⟩ := w
              have c59 : p_fChosen σ2 (a2) (v34) (1) := by
                rw [pF_fChosen hF3 rfl rfl]; exact c59
              refine wk_callp tt_83 rfl rfl rfl rfl rfl tt_55 rfl (by decide) (w_fChosen z σ2 (a2) (v34) (1) ra2 r41 (by decide) c59) ?_
              rw [vF_fChosen hF3 rfl rfl]
              have jn61 : ∀ v62 : Int, v62 = (if (v_fChosen σ (a2) (v34) (1)) = 0 then (0 : Int) else (1 : Int)) → sg_R v62 → wx z 3 83 77 [(0, .inr (.inr (.ref 61))), (1, .inl (a1)), (2, .inl (a2)), (3, .inl ((sx_at σ 70 200 (a1)))), (4, .inl (v1)), (6, .inl ((v_lEnd σ ((sx_at σ 70 200 (a1))) (v1)))), (7, .inl (v34))] [.inl (v62), .inl (v33)] σ2 (fun v σ' => v = none ∧ sg_F [70, 78, 79, 80, 81, 82, 83, 85, 86, 87, 11061, 11077, 12077, 13077, 14077, 15077, 16077, 17077, 18077, 19077] σ σ' ∧ Q σ') := by
                intro v62 e64 r63
                have w := w v62 e64 r63
                obtain ⟨c65, w⟩ := w
                obtain ⟨c66, w⟩ := w
                refine wk_b tt_83 4 (pc' := 52) (ls' := [(7, .inl ((v34 + 1))), (5, .inl ((v33 + v62))), (0, .inr (.inr (.ref 61))), (1, .inl (a1)), (2, .inl (a2)), (3, .inl ((sx_at σ 70 200 (a1)))), (4, .inl (v1)), (6, .inl ((v_lEnd σ ((sx_at σ 70 200 (a1))) (v1))))]) (st' := []) (σ' := σ2) rfl ?_
                obtain ⟨m67, hm67, w⟩ := w
                exact wk_ls [(0, .inr (.inr (.ref 61))), (1, .inl (a1)), (2, .inl (a2)), (3, .inl ((sx_at σ 70 200 (a1)))), (4, .inl (v1)), (5, .inl ((v33 + v62))), (6, .inl ((v_lEnd σ ((sx_at σ 70 200 (a1))) (v1)))), (7, .inl ((v34 + 1)))] rfl ⟨rfl, rfl, rfl, rfl, rfl, rfl, rfl, rfl, trivial⟩ (ih42 m67 hm67 ((v33 + v62)) ((v34 + 1))  c65 c66  w)
              refine wk_if tt_83 (tgt := 76) rfl rfl (sg_Rz (vz_fChosen ..)) (fun (h60 : (v_fChosen σ (a2) (v34) (1)) = 0) => ?_) (fun (h60 : ¬ (v_fChosen σ (a2) (v34) (1)) = 0) => ?_)
              ·
                clear w
                refine wk_b tt_83 1 (pc' := 77) (ls' := [(0, .inr (.inr (.ref 61))), (1, .inl (a1)), (2, .inl (a2)), (3, .inl ((sx_at σ 70 200 (a1)))), (4, .inl (v1)), (5, .inl (v33)), (6, .inl ((v_lEnd σ ((sx_at σ 70 200 (a1))) (v1)))), (7, .inl (v34))]) (st' := [.inl (0), .inl (v33)]) (σ' := σ2) rfl ?_
                exact wk_ls [(0, .inr (.inr (.ref 61))), (1, .inl (a1)), (2, .inl (a2)), (3, .inl ((sx_at σ 70 200 (a1)))), (4, .inl (v1)), (6, .inl ((v_lEnd σ ((sx_at σ 70 200 (a1))) (v1)))), (7, .inl (v34))] rfl ⟨rfl, rfl, rfl, rfl, rfl, rfl, rfl, trivial⟩ (jn61 (0) (by simp only [if_pos h60]) (by decide))
              ·
                clear w
                refine wk_b tt_83 2 (pc' := 77) (ls' := [(0, .inr (.inr (.ref 61))), (1, .inl (a1)), (2, .inl (a2)), (3, .inl ((sx_at σ 70 200 (a1)))), (4, .inl (v1)), (5, .inl (v33)), (6, .inl ((v_lEnd σ ((sx_at σ 70 200 (a1))) (v1)))), (7, .inl (v34))]) (st' := [.inl (1), .inl (v33)]) (σ' := σ2) rfl ?_
                exact wk_ls [(0, .inr (.inr (.ref 61))), (1, .inl (a1)), (2, .inl (a2)), (3, .inl ((sx_at σ 70 200 (a1)))), (4, .inl (v1)), (6, .inl ((v_lEnd σ ((sx_at σ 70 200 (a1))) (v1)))), (7, .inl (v34))] rfl ⟨rfl, rfl, rfl, rfl, rfl, rfl, rfl, trivial⟩ (jn61 (1) (by simp only [if_neg (show ¬ ((v_fChosen σ (a2) (v34) (1)) = 0) by omega)]) (by decide))
        exact wk_ls [(0, .inr (.inr (.ref 61))), (1, .inl (a1)), (2, .inl (a2)), (3, .inl ((sx_at σ 70 200 (a1)))), (4, .inl (v1)), (5, .inl (0)), (6, .inl ((v_lEnd σ ((sx_at σ 70 200 (a1))) (v1)))), (7, .inl ((v_lStart σ ((sx_at σ 70 200 (a1))) (v1))))] rfl ⟨rfl, rfl, rfl, rfl, rfl, rfl, rfl, rfl, trivial⟩ (lp44 μ38 (0) ((v_lStart σ ((sx_at σ 70 200 (a1))) (v1)))  (by decide) r32  w45)
  exact wk_ls [(0, .inr (.inr (.ref 61))), (1, .inl (a1)), (2, .inl (a2)), (3, .inl ((sx_at σ 70 200 (a1)))), (4, .inl (0))] rfl ⟨rfl, rfl, rfl, rfl, rfl, trivial⟩ (lp10 μ5 (0) σ (by decide) (sg_F_r _ _) w11)
