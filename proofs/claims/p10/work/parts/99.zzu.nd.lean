/-! What the methods of the nested run of the class ask for (3). -/
def V_nPermute (σ : sg_S) (a1 : Int) (a2 : Int) (Q : sg_S → Prop) : Prop := (((v_nLengthOf σ (a1)) = (v_nLengthOf σ (a2)) → V_nAddAll σ (a2) (fun σ5 => sg_F [54, 22045] σ σ5 → V_yInvert σ5 ((v_nLengthOf σ (a1))) (fun q10 σ11 => (q10 = 0 ∨ q10 = 1) → sg_F [55] σ5 σ11 → ((¬ q10 = 0 → ∀ σ17, σ17 = (sg_w σ11 45 21 (0)) → (∃ (I23 : Nat → Int → sg_S → Prop) (X25 : sg_S → Prop), (∃ n, I23 n (0) σ17) ∧ (∀ (n33 : Nat) (v20 : Int) (σ21 : sg_S), sg_R v20 → sg_F [54, 22045] σ17 σ21 → I23 n33 v20 σ21 → (((v_nLengthOf σ (a1)) ≤ v20 → X25 σ21) ∧ (v20 < (v_nLengthOf σ (a1)) → p_nItemOf σ (a1) ((sx_at σ11 55 200 (v20))) ∧ V_nAdd σ21 ((v_nItemOf σ (a1) ((sx_at σ11 55 200 (v20))))) (fun σ45 => sg_F [54, 22045] σ21 σ45 → sg_R (v20 + 1) ∧ (∃ m, m < n33 ∧ I23 m ((v20 + 1)) σ45))))) ∧ (∀ (σ21 : sg_S), sg_F [54, 22045] σ17 σ21 → X25 σ21 → V_nGive σ21  (fun σ36 => sg_F [48, 53, 8045, 11045, 21045, 22045, 23045] σ21 σ36 → Q σ36)))) ∧ (q10 = 0 → ∀ σ52, σ52 = (sg_w σ11 45 10 (6)) → Q σ52))))) ∧ (¬ (v_nLengthOf σ (a1)) = (v_nLengthOf σ (a2)) → ∀ σ55, σ55 = (sg_w σ 45 10 (3)) → Q σ55))
set_option maxHeartbeats 4000000 in
set_option maxRecDepth 8000 in
theorem w_nPermute (z : Value) (σ : sg_S) (a1 : Int) (a2 : Int) (Q : sg_S → Prop) (ra1 : sg_R a1) (ra2 : sg_R a2) (w : V_nPermute σ a1 a2 Q) : wx z 3 154 0 [(0, .inr (.inr (.ref 45))), (1, .inl (a1)), (2, .inl (a2))] [] σ (fun v σ' => v = none ∧ sg_F [48, 53, 54, 55, 8045, 11045, 21045, 22045, 23045] σ σ' ∧ Q σ') := by
  unfold V_nPermute at w
  refine wk_b tt_154 2 (pc' := 2) (ls' := [(0, .inr (.inr (.ref 45))), (1, .inl (a1)), (2, .inl (a2))]) (st' := [.inl (a1), .inr (.inr (.ref 45))]) (σ' := σ) rfl ?_
  refine wk_callp tt_154 rfl rfl rfl rfl rfl tt_149 rfl (by decide) (w_nLengthOf z σ (a1) ra1 ) ?_
  have r1 := vr_nLengthOf σ  (a1) ra1 
  refine wk_b tt_154 4 (pc' := 9) (ls' := [(3, .inl ((v_nLengthOf σ (a1)))), (0, .inr (.inr (.ref 45))), (1, .inl (a1)), (2, .inl (a2))]) (st' := [.inl (a2), .inr (.inr (.ref 45)), .inl ((v_nLengthOf σ (a1)))]) (σ' := σ) rfl ?_
  refine wk_callp tt_154 rfl rfl rfl rfl rfl tt_149 rfl (by decide) (w_nLengthOf z σ (a2) ra2 ) ?_
  have r2 := vr_nLengthOf σ  (a2) ra2 
  refine wk_if2 tt_154 (tgt := 21) rfl rfl r1 r2 (fun (h3 : (v_nLengthOf σ (a1)) = (v_nLengthOf σ (a2))) => ?_) (fun (h3 : ¬ (v_nLengthOf σ (a1)) = (v_nLengthOf σ (a2))) => ?_)
  ·
    have w := w.1 h3
    refine wk_b tt_154 2 (pc' := 23) (ls' := [(3, .inl ((v_nLengthOf σ (a1)))), (0, .inr (.inr (.ref 45))), (1, .inl (a1)), (2, .inl (a2))]) (st' := [.inl (a2), .inr (.inr (.ref 45))]) (σ' := σ) rfl ?_
    refine wk_call tt_154 rfl rfl rfl rfl rfl tt_130 rfl (by decide) (w_nAddAll z σ (a2) _ ra2 w) (fun u9 σ5 hq7 => ?_)
    obtain ⟨rfl, hF6, w⟩ := hq7
    have w := w hF6
    refine wk_b tt_154 5 (pc' := 35) (ls' := [(3, .inl ((v_nLengthOf σ (a1)))), (0, .inr (.inr (.ref 45))), (1, .inl (a1)), (2, .inl (a2))]) (st' := [.inr (.inr (.ref 55)), .inl ((v_nLengthOf σ (a1))), .inr (.inr (.ref 54))]) (σ' := σ5) rfl ?_
    refine wk_call tt_154 rfl rfl rfl rfl rfl tt_17 rfl (by decide) (w_yInvert z σ5 ((v_nLengthOf σ (a1))) _ r1 w) (fun u15 σ11 hq13 => ?_)
    obtain ⟨q10, rfl, r14, hF12, w⟩ := hq13
    have w := w r14 hF12
    refine wk_if tt_154 (tgt := 48) rfl rfl (sg_Rz r14) (fun (h16 : ¬ q10 = 0) => ?_) (fun (h16 : q10 = 0) => ?_)
    ·
      have w := w.1 h16
      refine wk_b tt_154 3 (pc' := 53) (ls' := [(3, .inl ((v_nLengthOf σ (a1)))), (0, .inr (.inr (.ref 45))), (1, .inl (a1)), (2, .inl (a2))]) (st' := []) (σ' := (sg_w σ11 45 21 (0))) rfl ?_
      generalize hs18 : (sg_w σ11 45 21 (0)) = σ17
      have w := w σ17 hs18.symm
      have hF19 : sg_F [22045] σ11 σ17 := by rw [← hs18]; exact sg_F_w (sg_F_r _ _) rfl _
      refine wk_b tt_154 2 (pc' := 56) (ls' := [(4, .inl (0)), (3, .inl ((v_nLengthOf σ (a1)))), (0, .inr (.inr (.ref 45))), (1, .inl (a1)), (2, .inl (a2))]) (st' := []) (σ' := σ17) rfl ?_
      obtain ⟨I23, X25, ⟨μ24, w30⟩, w31, w32⟩ := w
      have ex34 : ∀ (σ21 : sg_S), sg_F [54, 22045] σ17 σ21 → X25 σ21 → wx z 3 154 86 [(0, .inr (.inr (.ref 45)))] [] σ21 (fun v σ' => v = none ∧ sg_F [48, 53, 54, 55, 8045, 11045, 21045, 22045, 23045] σ σ' ∧ Q σ') := by
        intro σ21 hF22 w
        have w := w32 σ21 hF22 w
        refine wk_b tt_154 1 (pc' := 87) (ls' := [(0, .inr (.inr (.ref 45)))]) (st' := [.inr (.inr (.ref 45))]) (σ' := σ21) rfl ?_
        refine wk_call tt_154 rfl rfl rfl rfl rfl tt_144 rfl (by decide) (w_nGive z σ21  _  w) (fun u40 σ36 hq38 => ?_)
        obtain ⟨rfl, hF37, w⟩ := hq38
        have w := w hF37
        exact wk_rV tt_154 rfl rfl ⟨rfl, (sg_F_t (sg_F_t (sg_F_t (sg_F_t (sg_F_t (sg_F_r [48, 53, 54, 55, 8045, 11045, 21045, 22045, 23045] σ) (sg_F_m (L := [48, 53, 54, 55, 8045, 11045, 21045, 22045, 23045]) hF6 rfl)) (sg_F_m (L := [48, 53, 54, 55, 8045, 11045, 21045, 22045, 23045]) hF12 rfl)) (sg_F_m (L := [48, 53, 54, 55, 8045, 11045, 21045, 22045, 23045]) hF19 rfl)) (sg_F_m (L := [48, 53, 54, 55, 8045, 11045, 21045, 22045, 23045]) hF22 rfl)) (sg_F_m (L := [48, 53, 54, 55, 8045, 11045, 21045, 22045, 23045]) hF37 rfl)), w⟩
      have lp29 : ∀ (n33 : Nat) (v20 : Int) (σ21 : sg_S), sg_R v20 → sg_F [54, 22045] σ17 σ21 → I23 n33 v20 σ21 → wx z 3 154 56 [(0, .inr (.inr (.ref 45))), (1, .inl (a1)), (3, .inl ((v_nLengthOf σ (a1)))), (4, .inl (v20))] [] σ21 (fun v σ' => v = none ∧ sg_F [48, 53, 54, 55, 8045, 11045, 21045, 22045, 23045] σ σ' ∧ Q σ') := by
        intro n33
        induction n33 using Nat.strongRecOn with
        | _ n33 ih27 =>
          intro v20 σ21 r26 hF22 w
          have w := w31 n33 v20 σ21 r26 hF22 w
          refine wk_b tt_154 2 (pc' := 59) (ls' := [(0, .inr (.inr (.ref 45))), (1, .inl (a1)), (3, .inl ((v_nLengthOf σ (a1)))), (4, .inl (v20))]) (st' := [.inl ((v_nLengthOf σ (a1))), .inl (v20)]) (σ' := σ21) rfl ?_
          refine wk_if2 tt_154 (tgt := 86) rfl rfl r26 r1 (fun (h41 : (v_nLengthOf σ (a1)) ≤ v20) => ?_) (fun (h41 : v20 < (v_nLengthOf σ (a1))) => ?_)
          ·
            have w := w.1 h41
            exact wk_ls [(0, .inr (.inr (.ref 45)))] rfl ⟨rfl, trivial⟩ (ex34  σ21  (sg_F_t (sg_F_r [54, 22045] σ17) (sg_F_m (L := [54, 22045]) hF22 rfl)) w)
          ·
            have w := w.2 h41
            refine wk_b tt_154 6 (pc' := 71) (ls' := [(0, .inr (.inr (.ref 45))), (1, .inl (a1)), (3, .inl ((v_nLengthOf σ (a1)))), (4, .inl (v20))]) (st' := [.inl (v20), .inr (.inr (.ref 55)), .inl (a1), .inr (.inr (.ref 45)), .inr (.inr (.ref 45))]) (σ' := σ21) rfl ?_
            refine wk_callp tt_154 rfl rfl rfl rfl rfl tt_5 rfl (by decide) (at_i0 z σ21 55 200 (v20) rfl (by decide) r26) ?_
            show wx z 3 154 74 [(0, .inr (.inr (.ref 45))), (1, .inl (a1)), (3, .inl ((v_nLengthOf σ (a1)))), (4, .inl (v20))] [.inl ((sx_at σ21 55 200 (v20))), .inl (a1), .inr (.inr (.ref 45)), .inr (.inr (.ref 45))] σ21 (fun v σ' => v = none ∧ sg_F [48, 53, 54, 55, 8045, 11045, 21045, 22045, 23045] σ σ' ∧ Q σ')
            rw [sx_F (a := 55) (n := 200) (i := (v20)) hF22 rfl, sx_F (a := 55) (n := 200) (i := (v20)) hF19 rfl]
            obtain ⟨c42, w⟩ := w
            have c42 : p_nItemOf σ21 (a1) ((sx_at σ11 55 200 (v20))) := by
              rw [pF_nItemOf hF22 rfl, pF_nItemOf hF19 rfl, pF_nItemOf hF12 rfl, pF_nItemOf hF6 rfl]; exact c42
            refine wk_callp tt_154 rfl rfl rfl rfl rfl tt_145 rfl (by decide) (w_nItemOf z σ21 (a1) ((sx_at σ11 55 200 (v20))) ra1 (sx_R ..) c42) ?_
            rw [vF_nItemOf hF22 rfl, vF_nItemOf hF19 rfl, vF_nItemOf hF12 rfl, vF_nItemOf hF6 rfl]
            have r43 := vr_nItemOf σ  (a1) ((sx_at σ11 55 200 (v20))) ra1 (sx_R ..) (by have q := c42; rw [pF_nItemOf hF22 rfl, pF_nItemOf hF19 rfl, pF_nItemOf hF12 rfl, pF_nItemOf hF6 rfl] at q; exact q)
            refine wk_call tt_154 rfl rfl rfl rfl rfl tt_129 rfl (by decide) (w_nAdd z σ21 ((v_nItemOf σ (a1) ((sx_at σ11 55 200 (v20))))) _ r43 w) (fun u49 σ45 hq47 => ?_)
            obtain ⟨rfl, hF46, w⟩ := hq47
            have w := w hF46
            obtain ⟨c50, w⟩ := w
            refine wk_b tt_154 2 (pc' := 56) (ls' := [(4, .inl ((v20 + 1))), (0, .inr (.inr (.ref 45))), (1, .inl (a1)), (3, .inl ((v_nLengthOf σ (a1))))]) (st' := []) (σ' := σ45) rfl ?_
            obtain ⟨m51, hm51, w⟩ := w
            exact wk_ls [(0, .inr (.inr (.ref 45))), (1, .inl (a1)), (3, .inl ((v_nLengthOf σ (a1)))), (4, .inl ((v20 + 1)))] rfl ⟨rfl, rfl, rfl, rfl, trivial⟩ (ih27 m51 hm51 ((v20 + 1)) σ45 c50 (sg_F_t (sg_F_t (sg_F_r [54, 22045] σ17) (sg_F_m (L := [54, 22045]) hF22 rfl)) (sg_F_m (L := [54, 22045]) hF46 rfl)) w)
      exact wk_ls [(0, .inr (.inr (.ref 45))), (1, .inl (a1)), (3, .inl ((v_nLengthOf σ (a1)))), (4, .inl (0))] rfl ⟨rfl, rfl, rfl, rfl, trivial⟩ (lp29 μ24 (0) σ17 (by decide) (sg_F_r _ _) w30)
    ·
      have w := w.2 h16
      refine wk_b tt_154 3 (pc' := 47) (ls' := [(3, .inl ((v_nLengthOf σ (a1)))), (0, .inr (.inr (.ref 45))), (1, .inl (a1)), (2, .inl (a2))]) (st' := []) (σ' := (sg_w σ11 45 10 (6))) rfl ?_
      generalize hs53 : (sg_w σ11 45 10 (6)) = σ52
      have w := w σ52 hs53.symm
      have hF54 : sg_F [11045] σ11 σ52 := by rw [← hs53]; exact sg_F_w (sg_F_r _ _) rfl _
      exact wk_rV tt_154 rfl rfl ⟨rfl, (sg_F_t (sg_F_t (sg_F_t (sg_F_r [48, 53, 54, 55, 8045, 11045, 21045, 22045, 23045] σ) (sg_F_m (L := [48, 53, 54, 55, 8045, 11045, 21045, 22045, 23045]) hF6 rfl)) (sg_F_m (L := [48, 53, 54, 55, 8045, 11045, 21045, 22045, 23045]) hF12 rfl)) (sg_F_m (L := [48, 53, 54, 55, 8045, 11045, 21045, 22045, 23045]) hF54 rfl)), w⟩
  ·
    have w := w.2 h3
    refine wk_b tt_154 3 (pc' := 20) (ls' := [(3, .inl ((v_nLengthOf σ (a1)))), (0, .inr (.inr (.ref 45))), (1, .inl (a1)), (2, .inl (a2))]) (st' := []) (σ' := (sg_w σ 45 10 (3))) rfl ?_
    generalize hs56 : (sg_w σ 45 10 (3)) = σ55
    have w := w σ55 hs56.symm
    have hF57 : sg_F [11045] σ σ55 := by rw [← hs56]; exact sg_F_w (sg_F_r _ _) rfl _
    exact wk_rV tt_154 rfl rfl ⟨rfl, (sg_F_t (sg_F_r [48, 53, 54, 55, 8045, 11045, 21045, 22045, 23045] σ) (sg_F_m (L := [48, 53, 54, 55, 8045, 11045, 21045, 22045, 23045]) hF57 rfl)), w⟩
-- NestedVectors$NestedRun.prepare
def V_nPrepare (σ : sg_S) (Q : sg_S → Prop) : Prop := ∀ σ1, σ1 = (sg_w σ 45 20 (0)) → ∀ σ4, σ4 = (sg_w σ1 45 21 (0)) → ∀ σ7, σ7 = (sg_w σ4 45 22 (0)) → ∀ σ10, σ10 = (sg_w σ7 45 23 (0)) → Q σ10
set_option maxHeartbeats 4000000 in
set_option maxRecDepth 8000 in
theorem w_nPrepare (z : Value) (σ : sg_S) (Q : sg_S → Prop)  (w : V_nPrepare σ  Q) : wx z 0 155 0 [(0, .inr (.inr (.ref 45)))] [] σ (fun v σ' => v = none ∧ sg_F [21045, 22045, 23045, 24045] σ σ' ∧ Q σ') := by
  unfold V_nPrepare at w
  refine wk_b tt_155 3 (pc' := 5) (ls' := [(0, .inr (.inr (.ref 45)))]) (st' := []) (σ' := (sg_w σ 45 20 (0))) rfl ?_
  generalize hs2 : (sg_w σ 45 20 (0)) = σ1
  have w := w σ1 hs2.symm
  have hF3 : sg_F [21045] σ σ1 := by rw [← hs2]; exact sg_F_w (sg_F_r _ _) rfl _
  refine wk_b tt_155 3 (pc' := 10) (ls' := [(0, .inr (.inr (.ref 45)))]) (st' := []) (σ' := (sg_w σ1 45 21 (0))) rfl ?_
  generalize hs5 : (sg_w σ1 45 21 (0)) = σ4
  have w := w σ4 hs5.symm
  have hF6 : sg_F [22045] σ1 σ4 := by rw [← hs5]; exact sg_F_w (sg_F_r _ _) rfl _
  refine wk_b tt_155 3 (pc' := 15) (ls' := [(0, .inr (.inr (.ref 45)))]) (st' := []) (σ' := (sg_w σ4 45 22 (0))) rfl ?_
  generalize hs8 : (sg_w σ4 45 22 (0)) = σ7
  have w := w σ7 hs8.symm
  have hF9 : sg_F [23045] σ4 σ7 := by rw [← hs8]; exact sg_F_w (sg_F_r _ _) rfl _
  refine wk_b tt_155 3 (pc' := 20) (ls' := [(0, .inr (.inr (.ref 45)))]) (st' := []) (σ' := (sg_w σ7 45 23 (0))) rfl ?_
  generalize hs11 : (sg_w σ7 45 23 (0)) = σ10
  have w := w σ10 hs11.symm
  have hF12 : sg_F [24045] σ7 σ10 := by rw [← hs11]; exact sg_F_w (sg_F_r _ _) rfl _
  exact wk_rV tt_155 rfl rfl ⟨rfl, (sg_F_t (sg_F_t (sg_F_t (sg_F_t (sg_F_r [21045, 22045, 23045, 24045] σ) (sg_F_m (L := [21045, 22045, 23045, 24045]) hF3 rfl)) (sg_F_m (L := [21045, 22045, 23045, 24045]) hF6 rfl)) (sg_F_m (L := [21045, 22045, 23045, 24045]) hF9 rfl)) (sg_F_m (L := [21045, 22045, 23045, 24045]) hF12 rfl)), w⟩
-- NestedVectors.fold
def V_yFold (σ : sg_S) (a0 : Int) (a1 : Int) (a2 : Int) (Q : Int → sg_S → Prop) : Prop := ((¬ a0 = 269 → ((¬ a0 = 270 → ∀ v3 : Int, v3 = (if a2 < a1 then a2 else a1) → sg_R v3 → Q (v3) σ) ∧ (a0 = 270 → ∀ v6 : Int, v6 = (if a1 < a2 then a2 else a1) → sg_R v6 → Q (v6) σ))) ∧ (a0 = 269 → Q ((sg_n (a1 + a2))) σ))
set_option maxHeartbeats 4000000 in
set_option maxRecDepth 8000 in
theorem w_yFold (z : Value) (σ : sg_S) (a0 : Int) (a1 : Int) (a2 : Int) (Q : Int → sg_S → Prop) (ra0 : sg_R a0) (ra1 : sg_R a1) (ra2 : sg_R a2) (w : V_yFold σ a0 a1 a2 Q) : wx z 1 16 0 [(0, .inl (a0)), (1, .inl (a1)), (2, .inl (a2))] [] σ (fun v σ' => ∃ q, v = some (.inl q) ∧ sg_R q ∧ σ = σ' ∧ Q q σ') := by
  unfold V_yFold at w
  refine wk_b tt_16 2 (pc' := 4) (ls' := [(0, .inl (a0)), (1, .inl (a1)), (2, .inl (a2))]) (st' := [.inl (269), .inl (a0)]) (σ' := σ) rfl ?_
  refine wk_if2 tt_16 (tgt := 13) rfl rfl ra0 (by decide) (fun (h1 : ¬ a0 = 269) => ?_) (fun (h1 : a0 = 269) => ?_)
  ·
    have w := w.1 h1
    refine wk_b tt_16 2 (pc' := 17) (ls' := [(0, .inl (a0)), (1, .inl (a1)), (2, .inl (a2))]) (st' := [.inl (270), .inl (a0)]) (σ' := σ) rfl ?_
    refine wk_if2 tt_16 (tgt := 28) rfl rfl ra0 (by decide) (fun (h2 : ¬ a0 = 270) => ?_) (fun (h2 : a0 = 270) => ?_)
    ·
      have w := w.1 h2
      refine wk_b tt_16 2 (pc' := 30) (ls' := [(0, .inl (a0)), (1, .inl (a1)), (2, .inl (a2))]) (st' := [.inl (a2), .inl (a1)]) (σ' := σ) rfl ?_
      refine wk_min (k0 := 0) tt_16 rfl ra1 ra2 rfl ?_
      obtain ⟨v3, e4⟩ : ∃ q, q = (if a2 < a1 then a2 else a1) := ⟨_, rfl⟩
      have r5 : sg_R v3 := by rw [e4]; split <;> first | exact ra1 | exact ra2
      rw [← e4]
      have w := w v3 e4 r5
      exact wk_rI tt_16 rfl rfl ⟨_, rfl, r5, rfl, w⟩
    ·
      have w := w.2 h2
      refine wk_b tt_16 2 (pc' := 22) (ls' := [(0, .inl (a0)), (1, .inl (a1)), (2, .inl (a2))]) (st' := [.inl (a2), .inl (a1)]) (σ' := σ) rfl ?_
      refine wk_max (k0 := 0) tt_16 rfl ra1 ra2 rfl ?_
      obtain ⟨v6, e7⟩ : ∃ q, q = (if a1 < a2 then a2 else a1) := ⟨_, rfl⟩
      have r8 : sg_R v6 := by rw [e7]; split <;> first | exact ra1 | exact ra2
      rw [← e7]
      have w := w v6 e7 r8
      refine wk_b tt_16 1 (pc' := 33) (ls' := [(0, .inl (a0)), (1, .inl (a1)), (2, .inl (a2))]) (st' := [.inl (v6)]) (σ' := σ) rfl ?_
      exact wk_rI tt_16 rfl rfl ⟨_, rfl, r8, rfl, w⟩
  ·
    have w := w.2 h1
    refine wk_b tt_16 3 (pc' := 10) (ls' := [(0, .inl (a0)), (1, .inl (a1)), (2, .inl (a2))]) (st' := [.inl ((a1 + a2))]) (σ' := σ) rfl ?_
    refine wk_n ?_
    refine wk_b tt_16 1 (pc' := 33) (ls' := [(0, .inl (a0)), (1, .inl (a1)), (2, .inl (a2))]) (st' := [.inl ((sg_n (a1 + a2)))]) (σ' := σ) rfl ?_
    exact wk_rI tt_16 rfl rfl ⟨_, rfl, (sg_Rn _), rfl, w⟩
-- NestedVectors$NestedRun.reduce
def V_nReduce (σ : sg_S) (a1 : Int) (a2 : Int) (Q : sg_S → Prop) : Prop := ((¬ (v_nLengthOf σ (a2)) = 0 → ((¬ (v_nLengthOf σ (a2)) = 0 → p_nItemOf σ (a2) (0) ∧ True) ∧ ((v_nLengthOf σ (a2)) = 0 → True)) ∧ ∀ v5 : Int, v5 = (if ¬ (v_nLengthOf σ (a2)) = 0 then (v_nItemOf σ (a2) (0)) else (0 : Int)) → sg_R v5 → (∃ (I12 : Nat → Int → Int → Prop) (X14 : Int → Prop), (∃ n, I12 n (v5) (1)) ∧ (∀ (n23 : Nat) (v8 : Int) (v9 : Int), sg_R v8 → sg_R v9 → I12 n23 v8 v9 → (((v_nLengthOf σ (a2)) ≤ v9 → X14 (v8)) ∧ (v9 < (v_nLengthOf σ (a2)) → p_nItemOf σ (a2) (v9) ∧ V_yFold σ (a1) (v8) ((v_nItemOf σ (a2) (v9))) (fun q41 _ => sg_R q41 → sg_R (v9 + 1) ∧ (∃ m, m < n23 ∧ I12 m (q41) ((v9 + 1))))))) ∧ (∀ (v8 : Int), sg_R v8 → X14 v8 → V_nSpend σ ((v_nLengthOf σ (a2))) (fun q25 σ26 => (q25 = 0 ∨ q25 = 1) → sg_F [11045, 23045] σ σ26 → ((q25 = 0 → Q σ26) ∧ (¬ q25 = 0 → V_mnPush σ26 (v8) (fun σ33 => sg_F [48, 8045] σ26 σ33 → Q σ33))))))) ∧ ((v_nLengthOf σ (a2)) = 0 → ((a1 = 269 → ((¬ (v_nLengthOf σ (a2)) = 0 → p_nItemOf σ (a2) (0) ∧ True) ∧ ((v_nLengthOf σ (a2)) = 0 → True)) ∧ ∀ v54 : Int, v54 = (if ¬ (v_nLengthOf σ (a2)) = 0 then (v_nItemOf σ (a2) (0)) else (0 : Int)) → sg_R v54 → (∃ (I61 : Nat → Int → Int → Prop) (X63 : Int → Prop), (∃ n, I61 n (v54) (1)) ∧ (∀ (n72 : Nat) (v57 : Int) (v58 : Int), sg_R v57 → sg_R v58 → I61 n72 v57 v58 → (((v_nLengthOf σ (a2)) ≤ v58 → X63 (v57)) ∧ (v58 < (v_nLengthOf σ (a2)) → p_nItemOf σ (a2) (v58) ∧ V_yFold σ (a1) (v57) ((v_nItemOf σ (a2) (v58))) (fun q90 _ => sg_R q90 → sg_R (v58 + 1) ∧ (∃ m, m < n72 ∧ I61 m (q90) ((v58 + 1))))))) ∧ (∀ (v57 : Int), sg_R v57 → X63 v57 → V_nSpend σ ((v_nLengthOf σ (a2))) (fun q74 σ75 => (q74 = 0 ∨ q74 = 1) → sg_F [11045, 23045] σ σ75 → ((q74 = 0 → Q σ75) ∧ (¬ q74 = 0 → V_mnPush σ75 (v57) (fun σ82 => sg_F [48, 8045] σ75 σ82 → Q σ82))))))) ∧ (¬ a1 = 269 → ∀ σ100, σ100 = (sg_w σ 45 10 (4)) → Q σ100))))
set_option maxHeartbeats 4000000 in
set_option maxRecDepth 8000 in
theorem w_nReduce (z : Value) (σ : sg_S) (a1 : Int) (a2 : Int) (Q : sg_S → Prop) (ra1 : sg_R a1) (ra2 : sg_R a2) (w : V_nReduce σ a1 a2 Q) : wx z 2 156 0 [(0, .inr (.inr (.ref 45))), (1, .inl (a1)), (2, .inl (a2))] [] σ (fun v σ' => v = none ∧ sg_F [48, 8045, 11045, 23045] σ σ' ∧ Q σ') := by
  unfold V_nReduce at w
  refine wk_b tt_156 2 (pc' := 2) (ls' := [(0, .inr (.inr (.ref 45))), (1, .inl (a1)), (2, .inl (a2))]) (st' := [.inl (a2), .inr (.inr (.ref 45))]) (σ' := σ) rfl ?_
  refine wk_callp tt_156 rfl rfl rfl rfl rfl tt_149 rfl (by decide) (w_nLengthOf z σ (a2) ra2 ) ?_
  have r1 := vr_nLengthOf σ  (a2) ra2 
  refine wk_b tt_156 2 (pc' := 7) (ls' := [(3, .inl ((v_nLengthOf σ (a2)))), (0, .inr (.inr (.ref 45))), (1, .inl (a1)), (2, .inl (a2))]) (st' := [.inl ((v_nLengthOf σ (a2)))]) (σ' := σ) rfl ?_
  refine wk_if tt_156 (tgt := 23) rfl rfl r1 (fun (h2 : ¬ (v_nLengthOf σ (a2)) = 0) => ?_) (fun (h2 : (v_nLengthOf σ (a2)) = 0) => ?_)
  ·
    have w := w.1 h2
    refine wk_b tt_156 1 (pc' := 24) (ls' := [(3, .inl ((v_nLengthOf σ (a2)))), (0, .inr (.inr (.ref 45))), (1, .inl (a1)), (2, .inl (a2))]) (st' := [.inl ((v_nLengthOf σ (a2)))]) (σ' := σ) rfl ?_
    obtain ⟨wp, w⟩ := w
    have jn4 : ∀ v5 : Int, v5 = (if ¬ (v_nLengthOf σ (a2)) = 0 then (v_nItemOf σ (a2) (0)) else (0 : Int)) → sg_R v5 → wx z 2 156 37 [(0, .inr (.inr (.ref 45))), (1, .inl (a1)), (2, .inl (a2)), (3, .inl ((v_nLengthOf σ (a2))))] [.inl (v5)] σ (fun v σ' => v = none ∧ sg_F [48, 8045, 11045, 23045] σ σ' ∧ Q σ') := by
      intro v5 e7 r6
      have w := w v5 e7 r6
      refine wk_b tt_156 3 (pc' := 42) (ls' := [(5, .inl (1)), (4, .inl (v5)), (0, .inr (.inr (.ref 45))), (1, .inl (a1)), (2, .inl (a2)), (3, .inl ((v_nLengthOf σ (a2))))]) (st' := []) (σ' := σ) rfl ?_
      obtain ⟨I12, X14, ⟨μ13, w20⟩, w21, w22⟩ := w
      have ex24 : ∀ (v8 : Int), sg_R v8 → X14 v8 → wx z 2 156 69 [(0, .inr (.inr (.ref 45))), (3, .inl ((v_nLengthOf σ (a2)))), (4, .inl (v8))] [] σ (fun v σ' => v = none ∧ sg_F [48, 8045, 11045, 23045] σ σ' ∧ Q σ') := by
        intro v8 r15 w
        have w := w22 v8 r15 w
        refine wk_b tt_156 2 (pc' := 71) (ls' := [(0, .inr (.inr (.ref 45))), (3, .inl ((v_nLengthOf σ (a2)))), (4, .inl (v8))]) (st' := [.inl ((v_nLengthOf σ (a2))), .inr (.inr (.ref 45))]) (σ' := σ) rfl ?_
        refine wk_call tt_156 rfl rfl rfl rfl rfl tt_162 rfl (by decide) (w_nSpend z σ ((v_nLengthOf σ (a2))) _ r1 w) (fun u30 σ26 hq28 => ?_)
        obtain ⟨q25, rfl, r29, hF27, w⟩ := hq28
        have w := w r29 hF27
        refine wk_if tt_156 (tgt := 83) rfl rfl (sg_Rz r29) (fun (h31 : q25 = 0) => ?_) (fun (h31 : ¬ q25 = 0) => ?_)
        ·
          have w := w.1 h31
          exact wk_rV tt_156 rfl rfl ⟨rfl, (sg_F_t (sg_F_r [48, 8045, 11045, 23045] σ) (sg_F_m (L := [48, 8045, 11045, 23045]) hF27 rfl)), w⟩
        ·
          have w := w.2 h31
          refine wk_b tt_156 2 (pc' := 80) (ls' := [(0, .inr (.inr (.ref 45))), (3, .inl ((v_nLengthOf σ (a2)))), (4, .inl (v8))]) (st' := [.inl (v8), .inr (.inr (.ref 45))]) (σ' := σ26) rfl ?_
          refine wk_call tt_156 rfl rfl rfl rfl rfl tt_125 rfl (by decide) (w_mnPush z σ26 (v8) _ r15 w) (fun u37 σ33 hq35 => ?_)
          obtain ⟨rfl, hF34, w⟩ := hq35
          have w := w hF34
          exact wk_rV tt_156 rfl rfl ⟨rfl, (sg_F_t (sg_F_t (sg_F_r [48, 8045, 11045, 23045] σ) (sg_F_m (L := [48, 8045, 11045, 23045]) hF27 rfl)) (sg_F_m (L := [48, 8045, 11045, 23045]) hF34 rfl)), w⟩
      have lp19 : ∀ (n23 : Nat) (v8 : Int) (v9 : Int), sg_R v8 → sg_R v9 → I12 n23 v8 v9 → wx z 2 156 42 [(0, .inr (.inr (.ref 45))), (1, .inl (a1)), (2, .inl (a2)), (3, .inl ((v_nLengthOf σ (a2)))), (4, .inl (v8)), (5, .inl (v9))] [] σ (fun v σ' => v = none ∧ sg_F [48, 8045, 11045, 23045] σ σ' ∧ Q σ') := by
        intro n23
        induction n23 using Nat.strongRecOn with
        | _ n23 ih17 =>
          intro v8 v9 r15 r16 w
          have w := w21 n23 v8 v9 r15 r16 w
          refine wk_b tt_156 2 (pc' := 45) (ls' := [(0, .inr (.inr (.ref 45))), (1, .inl (a1)), (2, .inl (a2)), (3, .inl ((v_nLengthOf σ (a2)))), (4, .inl (v8)), (5, .inl (v9))]) (st' := [.inl ((v_nLengthOf σ (a2))), .inl (v9)]) (σ' := σ) rfl ?_
          refine wk_if2 tt_156 (tgt := 69) rfl rfl r16 r1 (fun (h38 : (v_nLengthOf σ (a2)) ≤ v9) => ?_) (fun (h38 : v9 < (v_nLengthOf σ (a2))) => ?_)
          ·
            have w := w.1 h38
            exact wk_ls [(0, .inr (.inr (.ref 45))), (3, .inl ((v_nLengthOf σ (a2)))), (4, .inl (v8))] rfl ⟨rfl, rfl, rfl, trivial⟩ (ex24 (v8)  r15  w)
          ·
            have w := w.2 h38
            refine wk_b tt_156 5 (pc' := 55) (ls' := [(0, .inr (.inr (.ref 45))), (1, .inl (a1)), (2, .inl (a2)), (3, .inl ((v_nLengthOf σ (a2)))), (4, .inl (v8)), (5, .inl (v9))]) (st' := [.inl (v9), .inl (a2), .inr (.inr (.ref 45)), .inl (v8), .inl (a1)]) (σ' := σ) rfl ?_
            obtain ⟨c39, w⟩ := w
            refine wk_callp tt_156 rfl rfl rfl rfl rfl tt_145 rfl (by decide) (w_nItemOf z σ (a2) (v9) ra2 r16 c39) ?_
            have r40 := vr_nItemOf σ  (a2) (v9) ra2 r16 c39
            refine wk_call tt_156 rfl rfl rfl rfl rfl tt_16 rfl (by decide) (w_yFold z σ (a1) (v8) ((v_nItemOf σ (a2) (v9))) _ ra1 r15 r40 w) (fun u46 σ42 hq44 => ?_)
            obtain ⟨q41, rfl, r45, rfl, w⟩ := hq44
            have w := w r45
            obtain ⟨c47, w⟩ := w
            refine wk_b tt_156 3 (pc' := 42) (ls' := [(5, .inl ((v9 + 1))), (4, .inl (q41)), (0, .inr (.inr (.ref 45))), (1, .inl (a1)), (2, .inl (a2)), (3, .inl ((v_nLengthOf σ (a2))))]) (st' := []) (σ' := σ) rfl ?_
            obtain ⟨m48, hm48, w⟩ := w
            exact wk_ls [(0, .inr (.inr (.ref 45))), (1, .inl (a1)), (2, .inl (a2)), (3, .inl ((v_nLengthOf σ (a2)))), (4, .inl (q41)), (5, .inl ((v9 + 1)))] rfl ⟨rfl, rfl, rfl, rfl, rfl, rfl, trivial⟩ (ih17 m48 hm48 (q41) ((v9 + 1))  r45 c47  w)
      exact wk_ls [(0, .inr (.inr (.ref 45))), (1, .inl (a1)), (2, .inl (a2)), (3, .inl ((v_nLengthOf σ (a2)))), (4, .inl (v5)), (5, .inl (1))] rfl ⟨rfl, rfl, rfl, rfl, rfl, rfl, trivial⟩ (lp19 μ13 (v5) (1)  r6 (by decide)  w20)
    have w := wp
    refine wk_if tt_156 (tgt := 31) rfl rfl r1 (fun (h3 : ¬ (v_nLengthOf σ (a2)) = 0) => ?_) (fun (h3 : (v_nLengthOf σ (a2)) = 0) => ?_)
    ·
      have w := w.1 h3
      refine wk_b tt_156 3 (pc' := 34) (ls' := [(3, .inl ((v_nLengthOf σ (a2)))), (0, .inr (.inr (.ref 45))), (1, .inl (a1)), (2, .inl (a2))]) (st' := [.inl (0), .inl (a2), .inr (.inr (.ref 45))]) (σ' := σ) rfl ?_
      obtain ⟨c49, w⟩ := w
      refine wk_callp tt_156 rfl rfl rfl rfl rfl tt_145 rfl (by decide) (w_nItemOf z σ (a2) (0) ra2 (by decide) c49) ?_
      have r50 := vr_nItemOf σ  (a2) (0) ra2 (by decide) c49
      exact wk_ls [(0, .inr (.inr (.ref 45))), (1, .inl (a1)), (2, .inl (a2)), (3, .inl ((v_nLengthOf σ (a2))))] rfl ⟨rfl, rfl, rfl, rfl, trivial⟩ (jn4 ((v_nItemOf σ (a2) (0))) (by simp only [if_pos h3]) r50)
    ·
      have w := w.2 h3
      refine wk_b tt_156 2 (pc' := 37) (ls' := [(3, .inl ((v_nLengthOf σ (a2)))), (0, .inr (.inr (.ref 45))), (1, .inl (a1)), (2, .inl (a2))]) (st' := [.inl (0)]) (σ' := σ) rfl ?_
      exact wk_ls [(0, .inr (.inr (.ref 45))), (1, .inl (a1)), (2, .inl (a2)), (3, .inl ((v_nLengthOf σ (a2))))] rfl ⟨rfl, rfl, rfl, rfl, trivial⟩ (jn4 (0) (by simp only [if_neg (show ¬ (¬ (v_nLengthOf σ (a2)) = 0) by omega)]) (by decide))
  ·
    have w := w.2 h2
    refine wk_b tt_156 2 (pc' := 14) (ls' := [(3, .inl ((v_nLengthOf σ (a2)))), (0, .inr (.inr (.ref 45))), (1, .inl (a1)), (2, .inl (a2))]) (st' := [.inl (269), .inl (a1)]) (σ' := σ) rfl ?_
    refine wk_if2 tt_156 (tgt := 23) rfl rfl ra1 (by decide) (fun (h51 : a1 = 269) => ?_) (fun (h51 : ¬ a1 = 269) => ?_)
    ·
      have w := w.1 h51
      refine wk_b tt_156 1 (pc' := 24) (ls' := [(3, .inl ((v_nLengthOf σ (a2)))), (0, .inr (.inr (.ref 45))), (1, .inl (a1)), (2, .inl (a2))]) (st' := [.inl ((v_nLengthOf σ (a2)))]) (σ' := σ) rfl ?_
      obtain ⟨wp, w⟩ := w
      have jn53 : ∀ v54 : Int, v54 = (if ¬ (v_nLengthOf σ (a2)) = 0 then (v_nItemOf σ (a2) (0)) else (0 : Int)) → sg_R v54 → wx z 2 156 37 [(0, .inr (.inr (.ref 45))), (1, .inl (a1)), (2, .inl (a2)), (3, .inl ((v_nLengthOf σ (a2))))] [.inl (v54)] σ (fun v σ' => v = none ∧ sg_F [48, 8045, 11045, 23045] σ σ' ∧ Q σ') := by
        intro v54 e56 r55
        have w := w v54 e56 r55
        refine wk_b tt_156 3 (pc' := 42) (ls' := [(5, .inl (1)), (4, .inl (v54)), (0, .inr (.inr (.ref 45))), (1, .inl (a1)), (2, .inl (a2)), (3, .inl ((v_nLengthOf σ (a2))))]) (st' := []) (σ' := σ) rfl ?_
        obtain ⟨I61, X63, ⟨μ62, w69⟩, w70, w71⟩ := w
        have ex73 : ∀ (v57 : Int), sg_R v57 → X63 v57 → wx z 2 156 69 [(0, .inr (.inr (.ref 45))), (3, .inl ((v_nLengthOf σ (a2)))), (4, .inl (v57))] [] σ (fun v σ' => v = none ∧ sg_F [48, 8045, 11045, 23045] σ σ' ∧ Q σ') := by
          intro v57 r64 w
          have w := w71 v57 r64 w
          refine wk_b tt_156 2 (pc' := 71) (ls' := [(0, .inr (.inr (.ref 45))), (3, .inl ((v_nLengthOf σ (a2)))), (4, .inl (v57))]) (st' := [.inl ((v_nLengthOf σ (a2))), .inr (.inr (.ref 45))]) (σ' := σ) rfl ?_
          refine wk_call tt_156 rfl rfl rfl rfl rfl tt_162 rfl (by decide) (w_nSpend z σ ((v_nLengthOf σ (a2))) _ r1 w) (fun u79 σ75 hq77 => ?_)
          obtain ⟨q74, rfl, r78, hF76, w⟩ := hq77
          have w := w r78 hF76
          refine wk_if tt_156 (tgt := 83) rfl rfl (sg_Rz r78) (fun (h80 : q74 = 0) => ?_) (fun (h80 : ¬ q74 = 0) => ?_)
          ·
            have w := w.1 h80
            exact wk_rV tt_156 rfl rfl ⟨rfl, (sg_F_t (sg_F_r [48, 8045, 11045, 23045] σ) (sg_F_m (L := [48, 8045, 11045, 23045]) hF76 rfl)), w⟩
          ·
            have w := w.2 h80
            refine wk_b tt_156 2 (pc' := 80) (ls' := [(0, .inr (.inr (.ref 45))), (3, .inl ((v_nLengthOf σ (a2)))), (4, .inl (v57))]) (st' := [.inl (v57), .inr (.inr (.ref 45))]) (σ' := σ75) rfl ?_
            refine wk_call tt_156 rfl rfl rfl rfl rfl tt_125 rfl (by decide) (w_mnPush z σ75 (v57) _ r64 w) (fun u86 σ82 hq84 => ?_)
            obtain ⟨rfl, hF83, w⟩ := hq84
            have w := w hF83
            exact wk_rV tt_156 rfl rfl ⟨rfl, (sg_F_t (sg_F_t (sg_F_r [48, 8045, 11045, 23045] σ) (sg_F_m (L := [48, 8045, 11045, 23045]) hF76 rfl)) (sg_F_m (L := [48, 8045, 11045, 23045]) hF83 rfl)), w⟩
        have lp68 : ∀ (n72 : Nat) (v57 : Int) (v58 : Int), sg_R v57 → sg_R v58 → I61 n72 v57 v58 → wx z 2 156 42 [(0, .inr (.inr (.ref 45))), (1, .inl (a1)), (2, .inl (a2)), (3, .inl ((v_nLengthOf σ (a2)))), (4, .inl (v57)), (5, .inl (v58))] [] σ (fun v σ' => v = none ∧ sg_F [48, 8045, 11045, 23045] σ σ' ∧ Q σ') := by
          intro n72
          induction n72 using Nat.strongRecOn with
          | _ n72 ih66 =>
            intro v57 v58 r64 r65 w
            have w := w70 n72 v57 v58 r64 r65 w
            refine wk_b tt_156 2 (pc' := 45) (ls' := [(0, .inr (.inr (.ref 45))), (1, .inl (a1)), (2, .inl (a2)), (3, .inl ((v_nLengthOf σ (a2)))), (4, .inl (v57)), (5, .inl (v58))]) (st' := [.inl ((v_nLengthOf σ (a2))), .inl (v58)]) (σ' := σ) rfl ?_
            refine wk_if2 tt_156 (tgt := 69) rfl rfl r65 r1 (fun (h87 : (v_nLengthOf σ (a2)) ≤ v58) => ?_) (fun (h87 : v58 < (v_nLengthOf σ (a2))) => ?_)
            ·
              have w := w.1 h87
              exact wk_ls [(0, .inr (.inr (.ref 45))), (3, .inl ((v_nLengthOf σ (a2)))), (4, .inl (v57))] rfl ⟨rfl, rfl, rfl, trivial⟩ (ex73 (v57)  r64  w)
            ·
              have w := w.2 h87
              refine wk_b tt_156 5 (pc' := 55) (ls' := [(0, .inr (.inr (.ref 45))), (1, .inl (a1)), (2, .inl (a2)), (3, .inl ((v_nLengthOf σ (a2)))), (4, .inl (v57)), (5, .inl (v58))]) (st' := [.inl (v58), .inl (a2), .inr (.inr (.ref 45)), .inl (v57), .inl (a1)]) (σ' := σ) rfl ?_
              obtain ⟨c88, w⟩ := w
              refine wk_callp tt_156 rfl rfl rfl rfl rfl tt_145 rfl (by decide) (w_nItemOf z σ (a2) (v58) ra2 r65 c88) ?_
              have r89 := vr_nItemOf σ  (a2) (v58) ra2 r65 c88
              refine wk_call tt_156 rfl rfl rfl rfl rfl tt_16 rfl (by decide) (w_yFold z σ (a1) (v57) ((v_nItemOf σ (a2) (v58))) _ ra1 r64 r89 w) (fun u95 σ91 hq93 => ?_)
              obtain ⟨q90, rfl, r94, rfl, w⟩ := hq93
              have w := w r94
              obtain ⟨c96, w⟩ := w
              refine wk_b tt_156 3 (pc' := 42) (ls' := [(5, .inl ((v58 + 1))), (4, .inl (q90)), (0, .inr (.inr (.ref 45))), (1, .inl (a1)), (2, .inl (a2)), (3, .inl ((v_nLengthOf σ (a2))))]) (st' := []) (σ' := σ) rfl ?_
              obtain ⟨m97, hm97, w⟩ := w
              exact wk_ls [(0, .inr (.inr (.ref 45))), (1, .inl (a1)), (2, .inl (a2)), (3, .inl ((v_nLengthOf σ (a2)))), (4, .inl (q90)), (5, .inl ((v58 + 1)))] rfl ⟨rfl, rfl, rfl, rfl, rfl, rfl, trivial⟩ (ih66 m97 hm97 (q90) ((v58 + 1))  r94 c96  w)
        exact wk_ls [(0, .inr (.inr (.ref 45))), (1, .inl (a1)), (2, .inl (a2)), (3, .inl ((v_nLengthOf σ (a2)))), (4, .inl (v54)), (5, .inl (1))] rfl ⟨rfl, rfl, rfl, rfl, rfl, rfl, trivial⟩ (lp68 μ62 (v54) (1)  r55 (by decide)  w69)
      have w := wp
      refine wk_if tt_156 (tgt := 31) rfl rfl r1 (fun (h52 : ¬ (v_nLengthOf σ (a2)) = 0) => ?_) (fun (h52 : (v_nLengthOf σ (a2)) = 0) => ?_)
      ·
        have w := w.1 h52
        refine wk_b tt_156 3 (pc' := 34) (ls' := [(3, .inl ((v_nLengthOf σ (a2)))), (0, .inr (.inr (.ref 45))), (1, .inl (a1)), (2, .inl (a2))]) (st' := [.inl (0), .inl (a2), .inr (.inr (.ref 45))]) (σ' := σ) rfl ?_
        obtain ⟨c98, w⟩ := w
        refine wk_callp tt_156 rfl rfl rfl rfl rfl tt_145 rfl (by decide) (w_nItemOf z σ (a2) (0) ra2 (by decide) c98) ?_
        have r99 := vr_nItemOf σ  (a2) (0) ra2 (by decide) c98
        exact wk_ls [(0, .inr (.inr (.ref 45))), (1, .inl (a1)), (2, .inl (a2)), (3, .inl ((v_nLengthOf σ (a2))))] rfl ⟨rfl, rfl, rfl, rfl, trivial⟩ (jn53 ((v_nItemOf σ (a2) (0))) (by simp only [if_pos h52]) r99)
      ·
        have w := w.2 h52
        refine wk_b tt_156 2 (pc' := 37) (ls' := [(3, .inl ((v_nLengthOf σ (a2)))), (0, .inr (.inr (.ref 45))), (1, .inl (a1)), (2, .inl (a2))]) (st' := [.inl (0)]) (σ' := σ) rfl ?_
        exact wk_ls [(0, .inr (.inr (.ref 45))), (1, .inl (a1)), (2, .inl (a2)), (3, .inl ((v_nLengthOf σ (a2))))] rfl ⟨rfl, rfl, rfl, rfl, trivial⟩ (jn53 (0) (by simp only [if_neg (show ¬ (¬ (v_nLengthOf σ (a2)) = 0) by omega)]) (by decide))
    ·
      have w := w.2 h51
      refine wk_b tt_156 3 (pc' := 22) (ls' := [(3, .inl ((v_nLengthOf σ (a2)))), (0, .inr (.inr (.ref 45))), (1, .inl (a1)), (2, .inl (a2))]) (st' := []) (σ' := (sg_w σ 45 10 (4))) rfl ?_
      generalize hs101 : (sg_w σ 45 10 (4)) = σ100
      have w := w σ100 hs101.symm
      have hF102 : sg_F [11045] σ σ100 := by rw [← hs101]; exact sg_F_w (sg_F_r _ _) rfl _
      exact wk_rV tt_156 rfl rfl ⟨rfl, (sg_F_t (sg_F_r [48, 8045, 11045, 23045] σ) (sg_F_m (L := [48, 8045, 11045, 23045]) hF102 rfl)), w⟩
-- NestedVectors$NestedRun.repeat
def V_nRepeat (σ : sg_S) (a1 : Int) (a2 : Int) (Q : sg_S → Prop) : Prop := (((v_yBadSize (a2)) = 0 → (∃ (I5 : Nat → Int → sg_S → Prop) (X7 : sg_S → Prop), (∃ n, I5 n (0) σ) ∧ (∀ (n15 : Nat) (v2 : Int) (σ3 : sg_S), sg_R v2 → sg_F [54, 22045] σ σ3 → I5 n15 v2 σ3 → ((a2 ≤ v2 → X7 σ3) ∧ (v2 < a2 → V_nAdd σ3 (a1) (fun σ25 => sg_F [54, 22045] σ3 σ25 → sg_R (v2 + 1) ∧ (∃ m, m < n15 ∧ I5 m ((v2 + 1)) σ25))))) ∧ (∀ (σ3 : sg_S), sg_F [54, 22045] σ σ3 → X7 σ3 → V_nGive σ3  (fun σ18 => sg_F [48, 53, 8045, 11045, 21045, 22045, 23045] σ3 σ18 → Q σ18)))) ∧ (¬ (v_yBadSize (a2)) = 0 → ∀ σ32, σ32 = (sg_w σ 45 10 (5)) → Q σ32))
set_option maxHeartbeats 4000000 in
set_option maxRecDepth 8000 in
theorem w_nRepeat (z : Value) (σ : sg_S) (a1 : Int) (a2 : Int) (Q : sg_S → Prop) (ra1 : sg_R a1) (ra2 : sg_R a2) (w : V_nRepeat σ a1 a2 Q) : wx z 3 157 0 [(0, .inr (.inr (.ref 45))), (1, .inl (a1)), (2, .inl (a2))] [] σ (fun v σ' => v = none ∧ sg_F [48, 53, 54, 8045, 11045, 21045, 22045, 23045] σ σ' ∧ Q σ') := by
  unfold V_nRepeat at w
  refine wk_b tt_157 1 (pc' := 1) (ls' := [(0, .inr (.inr (.ref 45))), (1, .inl (a1)), (2, .inl (a2))]) (st' := [.inl (a2)]) (σ' := σ) rfl ?_
  refine wk_callp tt_157 rfl rfl rfl rfl rfl tt_7 rfl (by decide) (w_yBadSize z σ (a2) ra2 ) ?_
  refine wk_if tt_157 (tgt := 13) rfl rfl (sg_Rz (vz_yBadSize ..)) (fun (h1 : (v_yBadSize (a2)) = 0) => ?_) (fun (h1 : ¬ (v_yBadSize (a2)) = 0) => ?_)
  ·
    have w := w.1 h1
    refine wk_b tt_157 2 (pc' := 15) (ls' := [(3, .inl (0)), (0, .inr (.inr (.ref 45))), (1, .inl (a1)), (2, .inl (a2))]) (st' := []) (σ' := σ) rfl ?_
    obtain ⟨I5, X7, ⟨μ6, w12⟩, w13, w14⟩ := w
    have ex16 : ∀ (σ3 : sg_S), sg_F [54, 22045] σ σ3 → X7 σ3 → wx z 3 157 31 [(0, .inr (.inr (.ref 45)))] [] σ3 (fun v σ' => v = none ∧ sg_F [48, 53, 54, 8045, 11045, 21045, 22045, 23045] σ σ' ∧ Q σ') := by
      intro σ3 hF4 w
      have w := w14 σ3 hF4 w
      refine wk_b tt_157 1 (pc' := 32) (ls' := [(0, .inr (.inr (.ref 45)))]) (st' := [.inr (.inr (.ref 45))]) (σ' := σ3) rfl ?_
      refine wk_call tt_157 rfl rfl rfl rfl rfl tt_144 rfl (by decide) (w_nGive z σ3  _  w) (fun u22 σ18 hq20 => ?_)
      obtain ⟨rfl, hF19, w⟩ := hq20
      have w := w hF19
      exact wk_rV tt_157 rfl rfl ⟨rfl, (sg_F_t (sg_F_t (sg_F_r [48, 53, 54, 8045, 11045, 21045, 22045, 23045] σ) (sg_F_m (L := [48, 53, 54, 8045, 11045, 21045, 22045, 23045]) hF4 rfl)) (sg_F_m (L := [48, 53, 54, 8045, 11045, 21045, 22045, 23045]) hF19 rfl)), w⟩
    have lp11 : ∀ (n15 : Nat) (v2 : Int) (σ3 : sg_S), sg_R v2 → sg_F [54, 22045] σ σ3 → I5 n15 v2 σ3 → wx z 3 157 15 [(0, .inr (.inr (.ref 45))), (1, .inl (a1)), (2, .inl (a2)), (3, .inl (v2))] [] σ3 (fun v σ' => v = none ∧ sg_F [48, 53, 54, 8045, 11045, 21045, 22045, 23045] σ σ' ∧ Q σ') := by
      intro n15
      induction n15 using Nat.strongRecOn with
      | _ n15 ih9 =>
        intro v2 σ3 r8 hF4 w
        have w := w13 n15 v2 σ3 r8 hF4 w
        refine wk_b tt_157 2 (pc' := 17) (ls' := [(0, .inr (.inr (.ref 45))), (1, .inl (a1)), (2, .inl (a2)), (3, .inl (v2))]) (st' := [.inl (a2), .inl (v2)]) (σ' := σ3) rfl ?_
        refine wk_if2 tt_157 (tgt := 31) rfl rfl r8 ra2 (fun (h23 : a2 ≤ v2) => ?_) (fun (h23 : v2 < a2) => ?_)
        ·
          have w := w.1 h23
          exact wk_ls [(0, .inr (.inr (.ref 45)))] rfl ⟨rfl, trivial⟩ (ex16  σ3  (sg_F_t (sg_F_r [54, 22045] σ) (sg_F_m (L := [54, 22045]) hF4 rfl)) w)
        ·
          have w := w.2 h23
          refine wk_b tt_157 2 (pc' := 22) (ls' := [(0, .inr (.inr (.ref 45))), (1, .inl (a1)), (2, .inl (a2)), (3, .inl (v2))]) (st' := [.inl (a1), .inr (.inr (.ref 45))]) (σ' := σ3) rfl ?_
          refine wk_call tt_157 rfl rfl rfl rfl rfl tt_129 rfl (by decide) (w_nAdd z σ3 (a1) _ ra1 w) (fun u29 σ25 hq27 => ?_)
          obtain ⟨rfl, hF26, w⟩ := hq27
          have w := w hF26
          obtain ⟨c30, w⟩ := w
          refine wk_b tt_157 2 (pc' := 15) (ls' := [(3, .inl ((v2 + 1))), (0, .inr (.inr (.ref 45))), (1, .inl (a1)), (2, .inl (a2))]) (st' := []) (σ' := σ25) rfl ?_
          obtain ⟨m31, hm31, w⟩ := w
          exact wk_ls [(0, .inr (.inr (.ref 45))), (1, .inl (a1)), (2, .inl (a2)), (3, .inl ((v2 + 1)))] rfl ⟨rfl, rfl, rfl, rfl, trivial⟩ (ih9 m31 hm31 ((v2 + 1)) σ25 c30 (sg_F_t (sg_F_t (sg_F_r [54, 22045] σ) (sg_F_m (L := [54, 22045]) hF4 rfl)) (sg_F_m (L := [54, 22045]) hF26 rfl)) w)
    exact wk_ls [(0, .inr (.inr (.ref 45))), (1, .inl (a1)), (2, .inl (a2)), (3, .inl (0))] rfl ⟨rfl, rfl, rfl, rfl, trivial⟩ (lp11 μ6 (0) σ (by decide) (sg_F_r _ _) w12)
  ·
    have w := w.2 h1
    refine wk_b tt_157 3 (pc' := 12) (ls' := [(0, .inr (.inr (.ref 45))), (1, .inl (a1)), (2, .inl (a2))]) (st' := []) (σ' := (sg_w σ 45 10 (5))) rfl ?_
    generalize hs33 : (sg_w σ 45 10 (5)) = σ32
    have w := w σ32 hs33.symm
    have hF34 : sg_F [11045] σ σ32 := by rw [← hs33]; exact sg_F_w (sg_F_r _ _) rfl _
    exact wk_rV tt_157 rfl rfl ⟨rfl, (sg_F_t (sg_F_r [48, 53, 54, 8045, 11045, 21045, 22045, 23045] σ) (sg_F_m (L := [48, 53, 54, 8045, 11045, 21045, 22045, 23045]) hF34 rfl)), w⟩
-- NestedVectors$NestedRun.reverse
def V_nReverse (σ : sg_S) (a1 : Int) (Q : sg_S → Prop) : Prop := sg_R ((v_nLengthOf σ (a1)) - 1) ∧ (∃ (I6 : Nat → Int → sg_S → Prop) (X8 : sg_S → Prop), (∃ n, I6 n (((v_nLengthOf σ (a1)) - 1)) σ) ∧ (∀ (n16 : Nat) (v3 : Int) (σ4 : sg_S), sg_R v3 → sg_F [54, 22045] σ σ4 → I6 n16 v3 σ4 → ((v3 < 0 → X8 σ4) ∧ (0 ≤ v3 → p_nItemOf σ (a1) (v3) ∧ V_nAdd σ4 ((v_nItemOf σ (a1) (v3))) (fun σ28 => sg_F [54, 22045] σ4 σ28 → sg_R (v3 + (-1)) ∧ (∃ m, m < n16 ∧ I6 m ((v3 + (-1))) σ28))))) ∧ (∀ (σ4 : sg_S), sg_F [54, 22045] σ σ4 → X8 σ4 → V_nGive σ4  (fun σ19 => sg_F [48, 53, 8045, 11045, 21045, 22045, 23045] σ4 σ19 → Q σ19)))
set_option maxHeartbeats 4000000 in
set_option maxRecDepth 8000 in
theorem w_nReverse (z : Value) (σ : sg_S) (a1 : Int) (Q : sg_S → Prop) (ra1 : sg_R a1) (w : V_nReverse σ a1 Q) : wx z 3 158 0 [(0, .inr (.inr (.ref 45))), (1, .inl (a1))] [] σ (fun v σ' => v = none ∧ sg_F [48, 53, 54, 8045, 11045, 21045, 22045, 23045] σ σ' ∧ Q σ') := by
  unfold V_nReverse at w
  refine wk_b tt_158 2 (pc' := 2) (ls' := [(0, .inr (.inr (.ref 45))), (1, .inl (a1))]) (st' := [.inl (a1), .inr (.inr (.ref 45))]) (σ' := σ) rfl ?_
  refine wk_callp tt_158 rfl rfl rfl rfl rfl tt_149 rfl (by decide) (w_nLengthOf z σ (a1) ra1 ) ?_
  have r1 := vr_nLengthOf σ  (a1) ra1 
  obtain ⟨c2, w⟩ := w
  refine wk_b tt_158 3 (pc' := 8) (ls' := [(2, .inl (((v_nLengthOf σ (a1)) - 1))), (0, .inr (.inr (.ref 45))), (1, .inl (a1))]) (st' := []) (σ' := σ) rfl ?_
  obtain ⟨I6, X8, ⟨μ7, w13⟩, w14, w15⟩ := w
  have ex17 : ∀ (σ4 : sg_S), sg_F [54, 22045] σ σ4 → X8 σ4 → wx z 3 158 28 [(0, .inr (.inr (.ref 45)))] [] σ4 (fun v σ' => v = none ∧ sg_F [48, 53, 54, 8045, 11045, 21045, 22045, 23045] σ σ' ∧ Q σ') := by
    intro σ4 hF5 w
    have w := w15 σ4 hF5 w
    refine wk_b tt_158 1 (pc' := 29) (ls' := [(0, .inr (.inr (.ref 45)))]) (st' := [.inr (.inr (.ref 45))]) (σ' := σ4) rfl ?_
    refine wk_call tt_158 rfl rfl rfl rfl rfl tt_144 rfl (by decide) (w_nGive z σ4  _  w) (fun u23 σ19 hq21 => ?_)
    obtain ⟨rfl, hF20, w⟩ := hq21
    have w := w hF20
    exact wk_rV tt_158 rfl rfl ⟨rfl, (sg_F_t (sg_F_t (sg_F_r [48, 53, 54, 8045, 11045, 21045, 22045, 23045] σ) (sg_F_m (L := [48, 53, 54, 8045, 11045, 21045, 22045, 23045]) hF5 rfl)) (sg_F_m (L := [48, 53, 54, 8045, 11045, 21045, 22045, 23045]) hF20 rfl)), w⟩
  have lp12 : ∀ (n16 : Nat) (v3 : Int) (σ4 : sg_S), sg_R v3 → sg_F [54, 22045] σ σ4 → I6 n16 v3 σ4 → wx z 3 158 8 [(0, .inr (.inr (.ref 45))), (1, .inl (a1)), (2, .inl (v3))] [] σ4 (fun v σ' => v = none ∧ sg_F [48, 53, 54, 8045, 11045, 21045, 22045, 23045] σ σ' ∧ Q σ') := by
    intro n16
    induction n16 using Nat.strongRecOn with
    | _ n16 ih10 =>
      intro v3 σ4 r9 hF5 w
      have w := w14 n16 v3 σ4 r9 hF5 w
      refine wk_b tt_158 1 (pc' := 9) (ls' := [(0, .inr (.inr (.ref 45))), (1, .inl (a1)), (2, .inl (v3))]) (st' := [.inl (v3)]) (σ' := σ4) rfl ?_
      refine wk_if tt_158 (tgt := 28) rfl rfl r9 (fun (h24 : v3 < 0) => ?_) (fun (h24 : 0 ≤ v3) => ?_)
      ·
        have w := w.1 h24
        exact wk_ls [(0, .inr (.inr (.ref 45)))] rfl ⟨rfl, trivial⟩ (ex17  σ4  (sg_F_t (sg_F_r [54, 22045] σ) (sg_F_m (L := [54, 22045]) hF5 rfl)) w)
      ·
        have w := w.2 h24
        refine wk_b tt_158 4 (pc' := 16) (ls' := [(0, .inr (.inr (.ref 45))), (1, .inl (a1)), (2, .inl (v3))]) (st' := [.inl (v3), .inl (a1), .inr (.inr (.ref 45)), .inr (.inr (.ref 45))]) (σ' := σ4) rfl ?_
        obtain ⟨c25, w⟩ := w
        have c25 : p_nItemOf σ4 (a1) (v3) := by
          rw [pF_nItemOf hF5 rfl]; exact c25
        refine wk_callp tt_158 rfl rfl rfl rfl rfl tt_145 rfl (by decide) (w_nItemOf z σ4 (a1) (v3) ra1 r9 c25) ?_
        rw [vF_nItemOf hF5 rfl]
        have r26 := vr_nItemOf σ  (a1) (v3) ra1 r9 (by have q := c25; rw [pF_nItemOf hF5 rfl] at q; exact q)
        refine wk_call tt_158 rfl rfl rfl rfl rfl tt_129 rfl (by decide) (w_nAdd z σ4 ((v_nItemOf σ (a1) (v3))) _ r26 w) (fun u32 σ28 hq30 => ?_)
        obtain ⟨rfl, hF29, w⟩ := hq30
        have w := w hF29
        obtain ⟨c33, w⟩ := w
        refine wk_b tt_158 2 (pc' := 8) (ls' := [(2, .inl ((v3 + (-1)))), (0, .inr (.inr (.ref 45))), (1, .inl (a1))]) (st' := []) (σ' := σ28) rfl ?_
        obtain ⟨m34, hm34, w⟩ := w
        exact wk_ls [(0, .inr (.inr (.ref 45))), (1, .inl (a1)), (2, .inl ((v3 + (-1))))] rfl ⟨rfl, rfl, rfl, trivial⟩ (ih10 m34 hm34 ((v3 + (-1))) σ28 c33 (sg_F_t (sg_F_t (sg_F_r [54, 22045] σ) (sg_F_m (L := [54, 22045]) hF5 rfl)) (sg_F_m (L := [54, 22045]) hF29 rfl)) w)
  exact wk_ls [(0, .inr (.inr (.ref 45))), (1, .inl (a1)), (2, .inl (((v_nLengthOf σ (a1)) - 1)))] rfl ⟨rfl, rfl, rfl, trivial⟩ (lp12 μ7 (((v_nLengthOf σ (a1)) - 1)) σ c2 (sg_F_r _ _) w13)
-- NestedVectors$NestedRun.row
def V_nRow (σ : sg_S) (a1 : Int) (Q : sg_S → Prop) : Prop := V_nGather σ (a1) (fun σ2 => sg_F [54, 8045, 22045] σ σ2 → V_nGive σ2  (fun σ8 => sg_F [48, 53, 8045, 11045, 21045, 22045, 23045] σ2 σ8 → Q σ8))
set_option maxHeartbeats 4000000 in
set_option maxRecDepth 8000 in
theorem w_nRow (z : Value) (σ : sg_S) (a1 : Int) (Q : sg_S → Prop) (ra1 : sg_R a1) (w : V_nRow σ a1 Q) : wx z 3 159 0 [(0, .inr (.inr (.ref 45))), (1, .inl (a1))] [] σ (fun v σ' => v = none ∧ sg_F [48, 53, 54, 8045, 11045, 21045, 22045, 23045] σ σ' ∧ Q σ') := by
  unfold V_nRow at w
  refine wk_b tt_159 2 (pc' := 2) (ls' := [(0, .inr (.inr (.ref 45))), (1, .inl (a1))]) (st' := [.inl (a1), .inr (.inr (.ref 45))]) (σ' := σ) rfl ?_
  refine wk_call tt_159 rfl rfl rfl rfl rfl tt_143 rfl (by decide) (w_nGather z σ (a1) _ ra1 w) (fun u6 σ2 hq4 => ?_)
  obtain ⟨rfl, hF3, w⟩ := hq4
  have w := w hF3
  refine wk_b tt_159 1 (pc' := 6) (ls' := [(0, .inr (.inr (.ref 45))), (1, .inl (a1))]) (st' := [.inr (.inr (.ref 45))]) (σ' := σ2) rfl ?_
  refine wk_call tt_159 rfl rfl rfl rfl rfl tt_144 rfl (by decide) (w_nGive z σ2  _  w) (fun u12 σ8 hq10 => ?_)
  obtain ⟨rfl, hF9, w⟩ := hq10
  have w := w hF9
  exact wk_rV tt_159 rfl rfl ⟨rfl, (sg_F_t (sg_F_t (sg_F_r [48, 53, 54, 8045, 11045, 21045, 22045, 23045] σ) (sg_F_m (L := [48, 53, 54, 8045, 11045, 21045, 22045, 23045]) hF3 rfl)) (sg_F_m (L := [48, 53, 54, 8045, 11045, 21045, 22045, 23045]) hF9 rfl)), w⟩
-- NestedVectors$NestedRun.select
def V_nSelect (σ : sg_S) (a1 : Int) (a2 : Int) (Q : sg_S → Prop) : Prop := ((a2 < 0 → ∀ σ2, σ2 = (sg_w σ 45 10 (2)) → Q σ2) ∧ (0 ≤ a2 → ((a2 < (v_nLengthOf σ (a1)) → p_nItemOf σ (a1) (a2) ∧ V_mnPush σ ((v_nItemOf σ (a1) (a2))) (fun σ10 => sg_F [48, 8045] σ σ10 → Q σ10)) ∧ ((v_nLengthOf σ (a1)) ≤ a2 → ∀ σ15, σ15 = (sg_w σ 45 10 (2)) → Q σ15))))
set_option maxHeartbeats 4000000 in
set_option maxRecDepth 8000 in
theorem w_nSelect (z : Value) (σ : sg_S) (a1 : Int) (a2 : Int) (Q : sg_S → Prop) (ra1 : sg_R a1) (ra2 : sg_R a2) (w : V_nSelect σ a1 a2 Q) : wx z 2 160 0 [(0, .inr (.inr (.ref 45))), (1, .inl (a1)), (2, .inl (a2))] [] σ (fun v σ' => v = none ∧ sg_F [48, 8045, 11045] σ σ' ∧ Q σ') := by
  unfold V_nSelect at w
  refine wk_b tt_160 1 (pc' := 1) (ls' := [(0, .inr (.inr (.ref 45))), (1, .inl (a1)), (2, .inl (a2))]) (st' := [.inl (a2)]) (σ' := σ) rfl ?_
  refine wk_if tt_160 (tgt := 13) rfl rfl ra2 (fun (h1 : a2 < 0) => ?_) (fun (h1 : 0 ≤ a2) => ?_)
  ·
    have w := w.1 h1
    refine wk_b tt_160 3 (pc' := 18) (ls' := [(0, .inr (.inr (.ref 45))), (1, .inl (a1)), (2, .inl (a2))]) (st' := []) (σ' := (sg_w σ 45 10 (2))) rfl ?_
    generalize hs3 : (sg_w σ 45 10 (2)) = σ2
    have w := w σ2 hs3.symm
    have hF4 : sg_F [11045] σ σ2 := by rw [← hs3]; exact sg_F_w (sg_F_r _ _) rfl _
    refine wk_b tt_160 1 (pc' := 31) (ls' := [(0, .inr (.inr (.ref 45))), (1, .inl (a1)), (2, .inl (a2))]) (st' := []) (σ' := σ2) rfl ?_
    exact wk_rV tt_160 rfl rfl ⟨rfl, (sg_F_t (sg_F_r [48, 8045, 11045] σ) (sg_F_m (L := [48, 8045, 11045]) hF4 rfl)), w⟩
  ·
    have w := w.2 h1
    refine wk_b tt_160 3 (pc' := 7) (ls' := [(0, .inr (.inr (.ref 45))), (1, .inl (a1)), (2, .inl (a2))]) (st' := [.inl (a1), .inr (.inr (.ref 45)), .inl (a2)]) (σ' := σ) rfl ?_
    refine wk_callp tt_160 rfl rfl rfl rfl rfl tt_149 rfl (by decide) (w_nLengthOf z σ (a1) ra1 ) ?_
    have r5 := vr_nLengthOf σ  (a1) ra1 
    refine wk_if2 tt_160 (tgt := 21) rfl rfl ra2 r5 (fun (h6 : a2 < (v_nLengthOf σ (a1))) => ?_) (fun (h6 : (v_nLengthOf σ (a1)) ≤ a2) => ?_)
    ·
      have w := w.1 h6
      refine wk_b tt_160 4 (pc' := 25) (ls' := [(0, .inr (.inr (.ref 45))), (1, .inl (a1)), (2, .inl (a2))]) (st' := [.inl (a2), .inl (a1), .inr (.inr (.ref 45)), .inr (.inr (.ref 45))]) (σ' := σ) rfl ?_
      obtain ⟨c7, w⟩ := w
      refine wk_callp tt_160 rfl rfl rfl rfl rfl tt_145 rfl (by decide) (w_nItemOf z σ (a1) (a2) ra1 ra2 c7) ?_
      have r8 := vr_nItemOf σ  (a1) (a2) ra1 ra2 c7
      refine wk_call tt_160 rfl rfl rfl rfl rfl tt_125 rfl (by decide) (w_mnPush z σ ((v_nItemOf σ (a1) (a2))) _ r8 w) (fun u14 σ10 hq12 => ?_)
      obtain ⟨rfl, hF11, w⟩ := hq12
      have w := w hF11
      exact wk_rV tt_160 rfl rfl ⟨rfl, (sg_F_t (sg_F_r [48, 8045, 11045] σ) (sg_F_m (L := [48, 8045, 11045]) hF11 rfl)), w⟩
    ·
      have w := w.2 h6
      refine wk_b tt_160 3 (pc' := 18) (ls' := [(0, .inr (.inr (.ref 45))), (1, .inl (a1)), (2, .inl (a2))]) (st' := []) (σ' := (sg_w σ 45 10 (2))) rfl ?_
      generalize hs16 : (sg_w σ 45 10 (2)) = σ15
      have w := w σ15 hs16.symm
      have hF17 : sg_F [11045] σ σ15 := by rw [← hs16]; exact sg_F_w (sg_F_r _ _) rfl _
      refine wk_b tt_160 1 (pc' := 31) (ls' := [(0, .inr (.inr (.ref 45))), (1, .inl (a1)), (2, .inl (a2))]) (st' := []) (σ' := σ15) rfl ?_
      exact wk_rV tt_160 rfl rfl ⟨rfl, (sg_F_t (sg_F_r [48, 8045, 11045] σ) (sg_F_m (L := [48, 8045, 11045]) hF17 rfl)), w⟩
-- NestedVectors$NestedRun.sift
def V_nSift (σ : sg_S) (a1 : Int) (Q : sg_S → Prop) : Prop := V_mnPop σ  (fun q1 σ2 => sg_R q1 → sg_F [8045] σ σ2 → ((¬ q1 = 0 → Q σ2) ∧ (q1 = 0 → V_nNext σ2 (a1) (fun σ9 => sg_F [46, 57, 60, 9045, 24045] σ2 σ9 → Q σ9))))
set_option maxHeartbeats 4000000 in
set_option maxRecDepth 8000 in
theorem w_nSift (z : Value) (σ : sg_S) (a1 : Int) (Q : sg_S → Prop) (ra1 : sg_R a1) (w : V_nSift σ a1 Q) : wx z 4 161 0 [(0, .inr (.inr (.ref 45))), (1, .inl (a1))] [] σ (fun v σ' => v = none ∧ sg_F [46, 57, 60, 8045, 9045, 24045] σ σ' ∧ Q σ') := by
  unfold V_nSift at w
  refine wk_b tt_161 1 (pc' := 1) (ls' := [(0, .inr (.inr (.ref 45))), (1, .inl (a1))]) (st' := [.inr (.inr (.ref 45))]) (σ' := σ) rfl ?_
  refine wk_call tt_161 rfl rfl rfl rfl rfl tt_124 rfl (by decide) (w_mnPop z σ  _  w) (fun u6 σ2 hq4 => ?_)
  obtain ⟨q1, rfl, r5, hF3, w⟩ := hq4
  have w := w r5 hF3
  refine wk_if tt_161 (tgt := 12) rfl rfl r5 (fun (h7 : ¬ q1 = 0) => ?_) (fun (h7 : q1 = 0) => ?_)
  ·
    have w := w.1 h7
    exact wk_rV tt_161 rfl rfl ⟨rfl, (sg_F_t (sg_F_r [46, 57, 60, 8045, 9045, 24045] σ) (sg_F_m (L := [46, 57, 60, 8045, 9045, 24045]) hF3 rfl)), w⟩
  ·
    have w := w.2 h7
    refine wk_b tt_161 2 (pc' := 9) (ls' := [(0, .inr (.inr (.ref 45))), (1, .inl (a1))]) (st' := [.inl (a1), .inr (.inr (.ref 45))]) (σ' := σ2) rfl ?_
    refine wk_call tt_161 rfl rfl rfl rfl rfl tt_151 rfl (by decide) (w_nNext z σ2 (a1) _ ra1 w) (fun u13 σ9 hq11 => ?_)
    obtain ⟨rfl, hF10, w⟩ := hq11
    have w := w hF10
    exact wk_rV tt_161 rfl rfl ⟨rfl, (sg_F_t (sg_F_t (sg_F_r [46, 57, 60, 8045, 9045, 24045] σ) (sg_F_m (L := [46, 57, 60, 8045, 9045, 24045]) hF3 rfl)) (sg_F_m (L := [46, 57, 60, 8045, 9045, 24045]) hF10 rfl)), w⟩
-- NestedVectors$NestedRun.sumUp
def V_nSumUp (σ : sg_S) (a1 : Int) (Q : sg_S → Prop) : Prop := (∃ (I5 : Nat → Int → Int → sg_S → Prop) (X7 : sg_S → Prop), (∃ n, I5 n (0) (0) σ) ∧ (∀ (n16 : Nat) (v1 : Int) (v2 : Int) (σ3 : sg_S), sg_R v1 → sg_R v2 → sg_F [54, 22045] σ σ3 → I5 n16 v1 v2 σ3 → (((v_nLengthOf σ (a1)) ≤ v2 → X7 σ3) ∧ (v2 < (v_nLengthOf σ (a1)) → V_nAdd σ3 (v1) (fun σ27 => sg_F [54, 22045] σ3 σ27 → p_nItemOf σ (a1) (v2) ∧ sg_R (v2 + 1) ∧ (∃ m, m < n16 ∧ I5 m ((sg_n (v1 + (v_nItemOf σ (a1) (v2))))) ((v2 + 1)) σ27))))) ∧ (∀ (σ3 : sg_S), sg_F [54, 22045] σ σ3 → X7 σ3 → V_nGive σ3  (fun σ19 => sg_F [48, 53, 8045, 11045, 21045, 22045, 23045] σ3 σ19 → Q σ19)))
set_option maxHeartbeats 4000000 in
set_option maxRecDepth 8000 in
theorem w_nSumUp (z : Value) (σ : sg_S) (a1 : Int) (Q : sg_S → Prop) (ra1 : sg_R a1) (w : V_nSumUp σ a1 Q) : wx z 3 163 0 [(0, .inr (.inr (.ref 45))), (1, .inl (a1))] [] σ (fun v σ' => v = none ∧ sg_F [48, 53, 54, 8045, 11045, 21045, 22045, 23045] σ σ' ∧ Q σ') := by
  unfold V_nSumUp at w
  refine wk_b tt_163 4 (pc' := 4) (ls' := [(3, .inl (0)), (2, .inl (0)), (0, .inr (.inr (.ref 45))), (1, .inl (a1))]) (st' := []) (σ' := σ) rfl ?_
  obtain ⟨I5, X7, ⟨μ6, w13⟩, w14, w15⟩ := w
  have ex17 : ∀ (σ3 : sg_S), sg_F [54, 22045] σ σ3 → X7 σ3 → wx z 3 163 33 [(0, .inr (.inr (.ref 45)))] [] σ3 (fun v σ' => v = none ∧ sg_F [48, 53, 54, 8045, 11045, 21045, 22045, 23045] σ σ' ∧ Q σ') := by
    intro σ3 hF4 w
    have w := w15 σ3 hF4 w
    refine wk_b tt_163 1 (pc' := 34) (ls' := [(0, .inr (.inr (.ref 45)))]) (st' := [.inr (.inr (.ref 45))]) (σ' := σ3) rfl ?_
    refine wk_call tt_163 rfl rfl rfl rfl rfl tt_144 rfl (by decide) (w_nGive z σ3  _  w) (fun u23 σ19 hq21 => ?_)
    obtain ⟨rfl, hF20, w⟩ := hq21
    have w := w hF20
    exact wk_rV tt_163 rfl rfl ⟨rfl, (sg_F_t (sg_F_t (sg_F_r [48, 53, 54, 8045, 11045, 21045, 22045, 23045] σ) (sg_F_m (L := [48, 53, 54, 8045, 11045, 21045, 22045, 23045]) hF4 rfl)) (sg_F_m (L := [48, 53, 54, 8045, 11045, 21045, 22045, 23045]) hF20 rfl)), w⟩
  have lp12 : ∀ (n16 : Nat) (v1 : Int) (v2 : Int) (σ3 : sg_S), sg_R v1 → sg_R v2 → sg_F [54, 22045] σ σ3 → I5 n16 v1 v2 σ3 → wx z 3 163 4 [(0, .inr (.inr (.ref 45))), (1, .inl (a1)), (2, .inl (v1)), (3, .inl (v2))] [] σ3 (fun v σ' => v = none ∧ sg_F [48, 53, 54, 8045, 11045, 21045, 22045, 23045] σ σ' ∧ Q σ') := by
    intro n16
    induction n16 using Nat.strongRecOn with
    | _ n16 ih10 =>
      intro v1 v2 σ3 r8 r9 hF4 w
      have w := w14 n16 v1 v2 σ3 r8 r9 hF4 w
      refine wk_b tt_163 3 (pc' := 7) (ls' := [(0, .inr (.inr (.ref 45))), (1, .inl (a1)), (2, .inl (v1)), (3, .inl (v2))]) (st' := [.inl (a1), .inr (.inr (.ref 45)), .inl (v2)]) (σ' := σ3) rfl ?_
      refine wk_callp tt_163 rfl rfl rfl rfl rfl tt_149 rfl (by decide) (w_nLengthOf z σ3 (a1) ra1 ) ?_
      rw [vF_nLengthOf hF4 rfl]
      have r24 := vr_nLengthOf σ  (a1) ra1 
      refine wk_if2 tt_163 (tgt := 33) rfl rfl r9 r24 (fun (h25 : (v_nLengthOf σ (a1)) ≤ v2) => ?_) (fun (h25 : v2 < (v_nLengthOf σ (a1))) => ?_)
      ·
        have w := w.1 h25
        exact wk_ls [(0, .inr (.inr (.ref 45)))] rfl ⟨rfl, trivial⟩ (ex17  σ3  (sg_F_t (sg_F_r [54, 22045] σ) (sg_F_m (L := [54, 22045]) hF4 rfl)) w)
      ·
        have w := w.2 h25
        refine wk_b tt_163 2 (pc' := 15) (ls' := [(0, .inr (.inr (.ref 45))), (1, .inl (a1)), (2, .inl (v1)), (3, .inl (v2))]) (st' := [.inl (v1), .inr (.inr (.ref 45))]) (σ' := σ3) rfl ?_
        refine wk_call tt_163 rfl rfl rfl rfl rfl tt_129 rfl (by decide) (w_nAdd z σ3 (v1) _ r8 w) (fun u31 σ27 hq29 => ?_)
        obtain ⟨rfl, hF28, w⟩ := hq29
        have w := w hF28
        refine wk_b tt_163 4 (pc' := 22) (ls' := [(0, .inr (.inr (.ref 45))), (1, .inl (a1)), (2, .inl (v1)), (3, .inl (v2))]) (st' := [.inl (v2), .inl (a1), .inr (.inr (.ref 45)), .inl (v1)]) (σ' := σ27) rfl ?_
        obtain ⟨c32, w⟩ := w
        have c32 : p_nItemOf σ27 (a1) (v2) := by
          rw [pF_nItemOf hF28 rfl, pF_nItemOf hF4 rfl]; exact c32
        refine wk_callp tt_163 rfl rfl rfl rfl rfl tt_145 rfl (by decide) (w_nItemOf z σ27 (a1) (v2) ra1 r9 c32) ?_
        rw [vF_nItemOf hF28 rfl, vF_nItemOf hF4 rfl]
        have r33 := vr_nItemOf σ  (a1) (v2) ra1 r9 (by have q := c32; rw [pF_nItemOf hF28 rfl, pF_nItemOf hF4 rfl] at q; exact q)
        refine wk_b tt_163 1 (pc' := 26) (ls' := [(0, .inr (.inr (.ref 45))), (1, .inl (a1)), (2, .inl (v1)), (3, .inl (v2))]) (st' := [.inl ((v1 + (v_nItemOf σ (a1) (v2))))]) (σ' := σ27) rfl ?_
        refine wk_n ?_
        obtain ⟨c34, w⟩ := w
        refine wk_b tt_163 3 (pc' := 4) (ls' := [(3, .inl ((v2 + 1))), (2, .inl ((sg_n (v1 + (v_nItemOf σ (a1) (v2)))))), (0, .inr (.inr (.ref 45))), (1, .inl (a1))]) (st' := []) (σ' := σ27) rfl ?_
        obtain ⟨m35, hm35, w⟩ := w
        exact wk_ls [(0, .inr (.inr (.ref 45))), (1, .inl (a1)), (2, .inl ((sg_n (v1 + (v_nItemOf σ (a1) (v2)))))), (3, .inl ((v2 + 1)))] rfl ⟨rfl, rfl, rfl, rfl, trivial⟩ (ih10 m35 hm35 ((sg_n (v1 + (v_nItemOf σ (a1) (v2))))) ((v2 + 1)) σ27 (sg_Rn _) c34 (sg_F_t (sg_F_t (sg_F_r [54, 22045] σ) (sg_F_m (L := [54, 22045]) hF4 rfl)) (sg_F_m (L := [54, 22045]) hF28 rfl)) w)
  exact wk_ls [(0, .inr (.inr (.ref 45))), (1, .inl (a1)), (2, .inl (0)), (3, .inl (0))] rfl ⟨rfl, rfl, rfl, rfl, trivial⟩ (lp12 μ6 (0) (0) σ (by decide) (by decide) (sg_F_r _ _) w13)
-- NestedVectors$NestedRun.turn
/-! What the methods of the nested run of the class ask for (4). -/
def V_nTurn (σ : sg_S) (a1 : Int) (Q : sg_S → Prop) : Prop := ∀ σ1, σ1 = (sg_w σ 45 8 ((sx_at σ 33 200 (a1)))) → Q σ1
set_option maxHeartbeats 4000000 in
set_option maxRecDepth 8000 in
theorem w_nTurn (z : Value) (σ : sg_S) (a1 : Int) (Q : sg_S → Prop) (ra1 : sg_R a1) (w : V_nTurn σ a1 Q) : wx z 1 164 0 [(0, .inr (.inr (.ref 45))), (1, .inl (a1))] [] σ (fun v σ' => v = none ∧ sg_F [9045] σ σ' ∧ Q σ') := by
  unfold V_nTurn at w
  refine wk_b tt_164 5 (pc' := 9) (ls' := [(0, .inr (.inr (.ref 45))), (1, .inl (a1))]) (st' := [.inl (a1), .inr (.inr (.ref 33)), .inr (.inr (.ref 45))]) (σ' := σ) rfl ?_
  refine wk_callp tt_164 rfl rfl rfl rfl rfl tt_5 rfl (by decide) (at_i0 z σ 33 200 (a1) rfl (by decide) ra1) ?_
  show wx z 1 164 12 [(0, .inr (.inr (.ref 45))), (1, .inl (a1))] [.inl ((sx_at σ 33 200 (a1))), .inr (.inr (.ref 45))] σ (fun v σ' => v = none ∧ sg_F [9045] σ σ' ∧ Q σ')
  refine wk_b tt_164 1 (pc' := 15) (ls' := [(0, .inr (.inr (.ref 45))), (1, .inl (a1))]) (st' := []) (σ' := (sg_w σ 45 8 ((sx_at σ 33 200 (a1))))) rfl ?_
  generalize hs2 : (sg_w σ 45 8 ((sx_at σ 33 200 (a1)))) = σ1
  have w := w σ1 hs2.symm
  have hF3 : sg_F [9045] σ σ1 := by rw [← hs2]; exact sg_F_w (sg_F_r _ _) rfl _
  exact wk_rV tt_164 rfl rfl ⟨rfl, (sg_F_t (sg_F_r [9045] σ) (sg_F_m (L := [9045]) hF3 rfl)), w⟩
-- NestedVectors$Machine.conclude
def V_mnConclude (σ : sg_S) (a1 : Int) (Q : sg_S → Prop) : Prop := ∀ σ1, σ1 = (sg_w σ 45 11 (1)) → V_iClear49 σ1  (fun σ5 => sg_F [49] σ1 σ5 → ((¬ (sg_g σ 45 10) = 0 → Q σ5) ∧ ((sg_g σ 45 10) = 0 → V_mnPop σ5  (fun q11 σ12 => sg_R q11 → sg_F [8045] σ5 σ12 → V_nDraw σ12 (q11) (a1) (fun σ18 => sg_F [49, 52] σ12 σ18 → V_iRender49 σ18 (a1) (fun σ24 => sg_F [49, 50, 51] σ18 σ24 → Q σ24))))))
set_option maxHeartbeats 4000000 in
set_option maxRecDepth 8000 in
theorem w_mnConclude (z : Value) (σ : sg_S) (a1 : Int) (Q : sg_S → Prop) (ra1 : sg_R a1) (w : V_mnConclude σ a1 Q) : wx z 7 118 0 [(0, .inr (.inr (.ref 45))), (1, .inl (a1))] [] σ (fun v σ' => v = none ∧ sg_F [49, 50, 51, 52, 8045, 12045] σ σ' ∧ Q σ') := by
  unfold V_mnConclude at w
  refine wk_b tt_118 3 (pc' := 5) (ls' := [(0, .inr (.inr (.ref 45))), (1, .inl (a1))]) (st' := []) (σ' := (sg_w σ 45 11 (1))) rfl ?_
  generalize hs2 : (sg_w σ 45 11 (1)) = σ1
  have w := w σ1 hs2.symm
  have hF3 : sg_F [12045] σ σ1 := by rw [← hs2]; exact sg_F_w (sg_F_r _ _) rfl _
  refine wk_b tt_118 2 (pc' := 9) (ls' := [(0, .inr (.inr (.ref 45))), (1, .inl (a1))]) (st' := [.inr (.inr (.ref 49))]) (σ' := σ1) rfl ?_
  refine wk_call tt_118 rfl rfl rfl rfl rfl tt_92 rfl (by decide) (w_iClear49 z σ1  _  w) (fun u9 σ5 hq7 => ?_)
  obtain ⟨rfl, hF6, w⟩ := hq7
  have w := w hF6
  refine wk_b tt_118 2 (pc' := 16) (ls' := [(0, .inr (.inr (.ref 45))), (1, .inl (a1))]) (st' := [.inl ((sg_g σ5 45 10))]) (σ' := σ5) rfl ?_
  rw [show (sg_g σ5 45 10) = (sg_g σ 45 10) from by rw [sg_F_ga hF6 rfl, sg_F_g hF3 rfl]]
  refine wk_if tt_118 (tgt := 36) rfl rfl (sg_Rg _ _ _) (fun (h10 : ¬ (sg_g σ 45 10) = 0) => ?_) (fun (h10 : (sg_g σ 45 10) = 0) => ?_)
  ·
    have w := w.1 h10
    exact wk_rV tt_118 rfl rfl ⟨rfl, (sg_F_t (sg_F_t (sg_F_r [49, 50, 51, 52, 8045, 12045] σ) (sg_F_m (L := [49, 50, 51, 52, 8045, 12045]) hF3 rfl)) (sg_F_m (L := [49, 50, 51, 52, 8045, 12045]) hF6 rfl)), w⟩
  ·
    have w := w.2 h10
    refine wk_b tt_118 2 (pc' := 21) (ls' := [(0, .inr (.inr (.ref 45))), (1, .inl (a1))]) (st' := [.inr (.inr (.ref 45)), .inr (.inr (.ref 45))]) (σ' := σ5) rfl ?_
    refine wk_call tt_118 rfl rfl rfl rfl rfl tt_124 rfl (by decide) (w_mnPop z σ5  _  w) (fun u16 σ12 hq14 => ?_)
    obtain ⟨q11, rfl, r15, hF13, w⟩ := hq14
    have w := w r15 hF13
    refine wk_b tt_118 1 (pc' := 25) (ls' := [(0, .inr (.inr (.ref 45))), (1, .inl (a1))]) (st' := [.inl (a1), .inl (q11), .inr (.inr (.ref 45))]) (σ' := σ12) rfl ?_
    refine wk_call tt_118 rfl rfl rfl rfl rfl tt_139 rfl (by decide) (w_nDraw z σ12 (q11) (a1) _ r15 ra1 w) (fun u22 σ18 hq20 => ?_)
    obtain ⟨rfl, hF19, w⟩ := hq20
    have w := w hF19
    refine wk_b tt_118 3 (pc' := 33) (ls' := [(0, .inr (.inr (.ref 45))), (1, .inl (a1))]) (st' := [.inl (a1), .inr (.inr (.ref 49))]) (σ' := σ18) rfl ?_
    refine wk_call tt_118 rfl rfl rfl rfl rfl tt_95 rfl (by decide) (w_iRender49 z σ18 (a1) _ ra1 w) (fun u28 σ24 hq26 => ?_)
    obtain ⟨rfl, hF25, w⟩ := hq26
    have w := w hF25
    exact wk_rV tt_118 rfl rfl ⟨rfl, (sg_F_t (sg_F_t (sg_F_t (sg_F_t (sg_F_t (sg_F_r [49, 50, 51, 52, 8045, 12045] σ) (sg_F_m (L := [49, 50, 51, 52, 8045, 12045]) hF3 rfl)) (sg_F_m (L := [49, 50, 51, 52, 8045, 12045]) hF6 rfl)) (sg_F_m (L := [49, 50, 51, 52, 8045, 12045]) hF13 rfl)) (sg_F_m (L := [49, 50, 51, 52, 8045, 12045]) hF19 rfl)) (sg_F_m (L := [49, 50, 51, 52, 8045, 12045]) hF25 rfl)), w⟩
-- NestedVectors$Machine.start
def V_mnStart (σ : sg_S) (Q : sg_S → Prop) : Prop := ∀ σ1, σ1 = (sg_w σ 45 7 (0)) → ∀ σ4, σ4 = (sg_w σ1 45 10 (0)) → V_nPrepare σ4  (fun σ8 => sg_F [21045, 22045, 23045, 24045] σ4 σ8 → ∀ σ13, σ13 = (sx_put σ8 47 13 (12) ((-1))) → ∀ σ16, σ16 = (sg_w σ13 45 8 ((sx_at σ 31 13 (12)))) → Q σ16)
set_option maxHeartbeats 4000000 in
set_option maxRecDepth 8000 in
theorem w_mnStart (z : Value) (σ : sg_S) (Q : sg_S → Prop)  (w : V_mnStart σ  Q) : wx z 1 127 0 [(0, .inr (.inr (.ref 45)))] [] σ (fun v σ' => v = none ∧ sg_F [47, 8045, 9045, 11045, 21045, 22045, 23045, 24045] σ σ' ∧ Q σ') := by
  unfold V_mnStart at w
  refine wk_b tt_127 3 (pc' := 5) (ls' := [(0, .inr (.inr (.ref 45)))]) (st' := []) (σ' := (sg_w σ 45 7 (0))) rfl ?_
  generalize hs2 : (sg_w σ 45 7 (0)) = σ1
  have w := w σ1 hs2.symm
  have hF3 : sg_F [8045] σ σ1 := by rw [← hs2]; exact sg_F_w (sg_F_r _ _) rfl _
  refine wk_b tt_127 3 (pc' := 10) (ls' := [(0, .inr (.inr (.ref 45)))]) (st' := []) (σ' := (sg_w σ1 45 10 (0))) rfl ?_
  generalize hs5 : (sg_w σ1 45 10 (0)) = σ4
  have w := w σ4 hs5.symm
  have hF6 : sg_F [11045] σ1 σ4 := by rw [← hs5]; exact sg_F_w (sg_F_r _ _) rfl _
  refine wk_b tt_127 1 (pc' := 11) (ls' := [(0, .inr (.inr (.ref 45)))]) (st' := [.inr (.inr (.ref 45))]) (σ' := σ4) rfl ?_
  refine wk_call tt_127 rfl rfl rfl rfl rfl tt_155 rfl (by decide) (w_nPrepare z σ4  _  w) (fun u12 σ8 hq10 => ?_)
  obtain ⟨rfl, hF9, w⟩ := hq10
  have w := w hF9
  refine wk_b tt_127 4 (pc' := 21) (ls' := [(0, .inr (.inr (.ref 45)))]) (st' := [.inl ((-1)), .inl (12), .inr (.inr (.ref 47))]) (σ' := σ8) rfl ?_
  refine wk_callp tt_127 rfl rfl rfl rfl rfl tt_21 rfl (by decide) (pt_i0 z σ8 47 13 (12) ((-1)) rfl (by decide) (by decide)) ?_
  show wx z 1 127 24 [(0, .inr (.inr (.ref 45)))] [] (sx_put σ8 47 13 (12) ((-1))) (fun v σ' => v = none ∧ sg_F [47, 8045, 9045, 11045, 21045, 22045, 23045, 24045] σ σ' ∧ Q σ')
  generalize hs14 : (sx_put σ8 47 13 (12) ((-1))) = σ13
  have w := w σ13 hs14.symm
  have hF15 : sg_F [47] σ8 σ13 := by rw [← hs14]; exact sg_F_p (sg_F_r _ _) rfl _ _ _
  refine wk_b tt_127 5 (pc' := 34) (ls' := [(0, .inr (.inr (.ref 45)))]) (st' := [.inl (12), .inr (.inr (.ref 31)), .inr (.inr (.ref 45))]) (σ' := σ13) rfl ?_
  refine wk_callp tt_127 rfl rfl rfl rfl rfl tt_5 rfl (by decide) (at_i0 z σ13 31 13 (12) rfl (by decide) (by decide)) ?_
  show wx z 1 127 37 [(0, .inr (.inr (.ref 45)))] [.inl ((sx_at σ13 31 13 (12))), .inr (.inr (.ref 45))] σ13 (fun v σ' => v = none ∧ sg_F [47, 8045, 9045, 11045, 21045, 22045, 23045, 24045] σ σ' ∧ Q σ')
  rw [sx_F (a := 31) (n := 13) (i := (12)) hF15 rfl, sx_F (a := 31) (n := 13) (i := (12)) hF9 rfl, sx_F (a := 31) (n := 13) (i := (12)) hF6 rfl, sx_F (a := 31) (n := 13) (i := (12)) hF3 rfl]
  refine wk_b tt_127 1 (pc' := 40) (ls' := [(0, .inr (.inr (.ref 45)))]) (st' := []) (σ' := (sg_w σ13 45 8 ((sx_at σ 31 13 (12))))) rfl ?_
  generalize hs17 : (sg_w σ13 45 8 ((sx_at σ 31 13 (12)))) = σ16
  have w := w σ16 hs17.symm
  have hF18 : sg_F [9045] σ13 σ16 := by rw [← hs17]; exact sg_F_w (sg_F_r _ _) rfl _
  exact wk_rV tt_127 rfl rfl ⟨rfl, (sg_F_t (sg_F_t (sg_F_t (sg_F_t (sg_F_t (sg_F_r [47, 8045, 9045, 11045, 21045, 22045, 23045, 24045] σ) (sg_F_m (L := [47, 8045, 9045, 11045, 21045, 22045, 23045, 24045]) hF3 rfl)) (sg_F_m (L := [47, 8045, 9045, 11045, 21045, 22045, 23045, 24045]) hF6 rfl)) (sg_F_m (L := [47, 8045, 9045, 11045, 21045, 22045, 23045, 24045]) hF9 rfl)) (sg_F_m (L := [47, 8045, 9045, 11045, 21045, 22045, 23045, 24045]) hF15 rfl)) (sg_F_m (L := [47, 8045, 9045, 11045, 21045, 22045, 23045, 24045]) hF18 rfl)), w⟩
-- NestedVectors$Machine.finish
def V_mnFinish (σ : sg_S) (a1 : Int) (Q : sg_S → Prop) : Prop := ∀ σ1, σ1 = (sg_w σ 45 9 ((sx_at σ 6 200 (a1)))) → (((sx_at σ 3 200 (a1)) = 257 → V_nConstant σ1 ((sx_at σ 5 200 (a1))) (fun σ7 => sg_F [48, 8045] σ1 σ7 → Q σ7)) ∧ (¬ (sx_at σ 3 200 (a1)) = 257 → (((sx_at σ 3 200 (a1)) = 258 → V_mnPush σ1 ((sx_at σ 46 272 ((sx_at σ 16 200 (a1))))) (fun σ15 => sg_F [48, 8045] σ1 σ15 → Q σ15)) ∧ (¬ (sx_at σ 3 200 (a1)) = 258 → (((sx_at σ 3 200 (a1)) = 279 → V_nRow σ1 ((sx_at σ 10 200 (a1))) (fun σ23 => sg_F [48, 53, 54, 8045, 11045, 21045, 22045, 23045] σ1 σ23 → Q σ23)) ∧ (¬ (sx_at σ 3 200 (a1)) = 279 → V_nCollect σ1 (a1) (fun σ29 => sg_F [48, 53, 54, 8045, 11045, 21045, 22045, 23045] σ1 σ29 → Q σ29)))))))
set_option maxHeartbeats 4000000 in
set_option maxRecDepth 8000 in
theorem w_mnFinish (z : Value) (σ : sg_S) (a1 : Int) (Q : sg_S → Prop) (ra1 : sg_R a1) (w : V_mnFinish σ a1 Q) : wx z 4 120 0 [(0, .inr (.inr (.ref 45))), (1, .inl (a1))] [] σ (fun v σ' => v = none ∧ sg_F [48, 53, 54, 8045, 10045, 11045, 21045, 22045, 23045] σ σ' ∧ Q σ') := by
  unfold V_mnFinish at w
  refine wk_b tt_120 5 (pc' := 9) (ls' := [(0, .inr (.inr (.ref 45))), (1, .inl (a1))]) (st' := [.inl (a1), .inr (.inr (.ref 6)), .inr (.inr (.ref 45))]) (σ' := σ) rfl ?_
  refine wk_callp tt_120 rfl rfl rfl rfl rfl tt_5 rfl (by decide) (at_i0 z σ 6 200 (a1) rfl (by decide) ra1) ?_
  show wx z 4 120 12 [(0, .inr (.inr (.ref 45))), (1, .inl (a1))] [.inl ((sx_at σ 6 200 (a1))), .inr (.inr (.ref 45))] σ (fun v σ' => v = none ∧ sg_F [48, 53, 54, 8045, 10045, 11045, 21045, 22045, 23045] σ σ' ∧ Q σ')
  refine wk_b tt_120 1 (pc' := 15) (ls' := [(0, .inr (.inr (.ref 45))), (1, .inl (a1))]) (st' := []) (σ' := (sg_w σ 45 9 ((sx_at σ 6 200 (a1))))) rfl ?_
  generalize hs2 : (sg_w σ 45 9 ((sx_at σ 6 200 (a1)))) = σ1
  have w := w σ1 hs2.symm
  have hF3 : sg_F [10045] σ σ1 := by rw [← hs2]; exact sg_F_w (sg_F_r _ _) rfl _
  refine wk_b tt_120 4 (pc' := 23) (ls' := [(0, .inr (.inr (.ref 45))), (1, .inl (a1))]) (st' := [.inl (a1), .inr (.inr (.ref 3))]) (σ' := σ1) rfl ?_
  refine wk_callp tt_120 rfl rfl rfl rfl rfl tt_5 rfl (by decide) (at_i0 z σ1 3 200 (a1) rfl (by decide) ra1) ?_
  show wx z 4 120 26 [(0, .inr (.inr (.ref 45))), (1, .inl (a1))] [.inl ((sx_at σ1 3 200 (a1)))] σ1 (fun v σ' => v = none ∧ sg_F [48, 53, 54, 8045, 10045, 11045, 21045, 22045, 23045] σ σ' ∧ Q σ')
  rw [sx_F (a := 3) (n := 200) (i := (a1)) hF3 rfl]
  by_cases e4 : (sx_at σ 3 200 (a1)) = 257
  · have w := w.1 e4
    refine wk_lw tt_120 (off := 34) (tgt := 60) rfl (by decide) (sx_R ..) (by rw [e4]; decide) rfl ?_
    refine wk_b tt_120 5 (pc' := 69) (ls' := [(0, .inr (.inr (.ref 45))), (1, .inl (a1))]) (st' := [.inl (a1), .inr (.inr (.ref 5)), .inr (.inr (.ref 45))]) (σ' := σ1) rfl ?_
    refine wk_callp tt_120 rfl rfl rfl rfl rfl tt_5 rfl (by decide) (at_i0 z σ1 5 200 (a1) rfl (by decide) ra1) ?_
    show wx z 4 120 72 [(0, .inr (.inr (.ref 45))), (1, .inl (a1))] [.inl ((sx_at σ1 5 200 (a1))), .inr (.inr (.ref 45))] σ1 (fun v σ' => v = none ∧ sg_F [48, 53, 54, 8045, 10045, 11045, 21045, 22045, 23045] σ σ' ∧ Q σ')
    rw [sx_F (a := 5) (n := 200) (i := (a1)) hF3 rfl]
    refine wk_call tt_120 rfl rfl rfl rfl rfl tt_135 rfl (by decide) (w_nConstant z σ1 ((sx_at σ 5 200 (a1))) _ (sx_R ..) w) (fun u11 σ7 hq9 => ?_)
    obtain ⟨rfl, hF8, w⟩ := hq9
    have w := w hF8
    refine wk_b tt_120 1 (pc' := 126) (ls' := [(0, .inr (.inr (.ref 45))), (1, .inl (a1))]) (st' := []) (σ' := σ7) rfl ?_
    exact wk_rV tt_120 rfl rfl ⟨rfl, (sg_F_t (sg_F_t (sg_F_r [48, 53, 54, 8045, 10045, 11045, 21045, 22045, 23045] σ) (sg_F_m (L := [48, 53, 54, 8045, 10045, 11045, 21045, 22045, 23045]) hF3 rfl)) (sg_F_m (L := [48, 53, 54, 8045, 10045, 11045, 21045, 22045, 23045]) hF8 rfl)), w⟩
  have w := w.2 e4
  by_cases e12 : (sx_at σ 3 200 (a1)) = 258
  · have w := w.1 e12
    refine wk_lw tt_120 (off := 52) (tgt := 78) rfl (by decide) (sx_R ..) (by rw [e12]; decide) rfl ?_
    refine wk_b tt_120 7 (pc' := 91) (ls' := [(0, .inr (.inr (.ref 45))), (1, .inl (a1))]) (st' := [.inl (a1), .inr (.inr (.ref 16)), .inr (.inr (.ref 46)), .inr (.inr (.ref 45))]) (σ' := σ1) rfl ?_
    refine wk_callp tt_120 rfl rfl rfl rfl rfl tt_5 rfl (by decide) (at_i0 z σ1 16 200 (a1) rfl (by decide) ra1) ?_
    show wx z 4 120 94 [(0, .inr (.inr (.ref 45))), (1, .inl (a1))] [.inl ((sx_at σ1 16 200 (a1))), .inr (.inr (.ref 46)), .inr (.inr (.ref 45))] σ1 (fun v σ' => v = none ∧ sg_F [48, 53, 54, 8045, 10045, 11045, 21045, 22045, 23045] σ σ' ∧ Q σ')
    rw [sx_F (a := 16) (n := 200) (i := (a1)) hF3 rfl]
    refine wk_callp tt_120 rfl rfl rfl rfl rfl tt_5 rfl (by decide) (at_i0 z σ1 46 272 ((sx_at σ 16 200 (a1))) rfl (by decide) (sx_R ..)) ?_
    show wx z 4 120 97 [(0, .inr (.inr (.ref 45))), (1, .inl (a1))] [.inl ((sx_at σ1 46 272 ((sx_at σ 16 200 (a1))))), .inr (.inr (.ref 45))] σ1 (fun v σ' => v = none ∧ sg_F [48, 53, 54, 8045, 10045, 11045, 21045, 22045, 23045] σ σ' ∧ Q σ')
    rw [sx_F (a := 46) (n := 272) (i := ((sx_at σ 16 200 (a1)))) hF3 rfl]
    refine wk_call tt_120 rfl rfl rfl rfl rfl tt_125 rfl (by decide) (w_mnPush z σ1 ((sx_at σ 46 272 ((sx_at σ 16 200 (a1))))) _ (sx_R ..) w) (fun u19 σ15 hq17 => ?_)
    obtain ⟨rfl, hF16, w⟩ := hq17
    have w := w hF16
    refine wk_b tt_120 1 (pc' := 126) (ls' := [(0, .inr (.inr (.ref 45))), (1, .inl (a1))]) (st' := []) (σ' := σ15) rfl ?_
    exact wk_rV tt_120 rfl rfl ⟨rfl, (sg_F_t (sg_F_t (sg_F_r [48, 53, 54, 8045, 10045, 11045, 21045, 22045, 23045] σ) (sg_F_m (L := [48, 53, 54, 8045, 10045, 11045, 21045, 22045, 23045]) hF3 rfl)) (sg_F_m (L := [48, 53, 54, 8045, 10045, 11045, 21045, 22045, 23045]) hF16 rfl)), w⟩
  have w := w.2 e12
  by_cases e20 : (sx_at σ 3 200 (a1)) = 279
  · have w := w.1 e20
    refine wk_lw tt_120 (off := 77) (tgt := 103) rfl (by decide) (sx_R ..) (by rw [e20]; decide) rfl ?_
    refine wk_b tt_120 5 (pc' := 112) (ls' := [(0, .inr (.inr (.ref 45))), (1, .inl (a1))]) (st' := [.inl (a1), .inr (.inr (.ref 10)), .inr (.inr (.ref 45))]) (σ' := σ1) rfl ?_
    refine wk_callp tt_120 rfl rfl rfl rfl rfl tt_5 rfl (by decide) (at_i0 z σ1 10 200 (a1) rfl (by decide) ra1) ?_
    show wx z 4 120 115 [(0, .inr (.inr (.ref 45))), (1, .inl (a1))] [.inl ((sx_at σ1 10 200 (a1))), .inr (.inr (.ref 45))] σ1 (fun v σ' => v = none ∧ sg_F [48, 53, 54, 8045, 10045, 11045, 21045, 22045, 23045] σ σ' ∧ Q σ')
    rw [sx_F (a := 10) (n := 200) (i := (a1)) hF3 rfl]
    refine wk_call tt_120 rfl rfl rfl rfl rfl tt_159 rfl (by decide) (w_nRow z σ1 ((sx_at σ 10 200 (a1))) _ (sx_R ..) w) (fun u27 σ23 hq25 => ?_)
    obtain ⟨rfl, hF24, w⟩ := hq25
    have w := w hF24
    refine wk_b tt_120 1 (pc' := 126) (ls' := [(0, .inr (.inr (.ref 45))), (1, .inl (a1))]) (st' := []) (σ' := σ23) rfl ?_
    exact wk_rV tt_120 rfl rfl ⟨rfl, (sg_F_t (sg_F_t (sg_F_r [48, 53, 54, 8045, 10045, 11045, 21045, 22045, 23045] σ) (sg_F_m (L := [48, 53, 54, 8045, 10045, 11045, 21045, 22045, 23045]) hF3 rfl)) (sg_F_m (L := [48, 53, 54, 8045, 10045, 11045, 21045, 22045, 23045]) hF24 rfl)), w⟩
  have w := w.2 e20
  refine wk_lw tt_120 (off := 95) (tgt := 121) rfl (by decide) (sx_R ..) (by simp only [Op.lookupswitch.offset]; rw [if_neg (fun h => e4 h.symm), if_neg (fun h => e12 h.symm), if_neg (fun h => e20 h.symm)]) rfl ?_
  refine wk_b tt_120 2 (pc' := 123) (ls' := [(0, .inr (.inr (.ref 45))), (1, .inl (a1))]) (st' := [.inl (a1), .inr (.inr (.ref 45))]) (σ' := σ1) rfl ?_
  refine wk_call tt_120 rfl rfl rfl rfl rfl tt_133 rfl (by decide) (w_nCollect z σ1 (a1) _ ra1 w) (fun u33 σ29 hq31 => ?_)
  obtain ⟨rfl, hF30, w⟩ := hq31
  have w := w hF30
  exact wk_rV tt_120 rfl rfl ⟨rfl, (sg_F_t (sg_F_t (sg_F_r [48, 53, 54, 8045, 10045, 11045, 21045, 22045, 23045] σ) (sg_F_m (L := [48, 53, 54, 8045, 10045, 11045, 21045, 22045, 23045]) hF3 rfl)) (sg_F_m (L := [48, 53, 54, 8045, 10045, 11045, 21045, 22045, 23045]) hF30 rfl)), w⟩
-- NestedVectors$Machine.finishOne
def V_mnFinishOne_35 (σ : sg_S) (b3 : Int) (Q : sg_S → Prop) : Prop := V_nMeasure σ (b3) (fun σ2 => sg_F [48, 8045] σ σ2 → Q σ2)
set_option maxHeartbeats 4000000 in
set_option maxRecDepth 8000 in
theorem w_mnFinishOne_35 (z : Value) (σ : sg_S) (b3 : Int) (Q : sg_S → Prop) (rb3 : sg_R b3) (w : V_mnFinishOne_35 σ b3 Q) : wx z 3 121 84 [(0, .inr (.inr (.ref 45))), (3, .inl (b3))] [] σ (fun v σ' => v = none ∧ sg_F [48, 8045] σ σ' ∧ Q σ') := by
  unfold V_mnFinishOne_35 at w
  refine wk_b tt_121 2 (pc' := 86) (ls' := [(0, .inr (.inr (.ref 45))), (3, .inl (b3))]) (st' := [.inl (b3), .inr (.inr (.ref 45))]) (σ' := σ) rfl ?_
  refine wk_call tt_121 rfl rfl rfl rfl rfl tt_150 rfl (by decide) (w_nMeasure z σ (b3) _ rb3 w) (fun u6 σ2 hq4 => ?_)
  obtain ⟨rfl, hF3, w⟩ := hq4
  have w := w hF3
  refine wk_b tt_121 1 (pc' := 130) (ls' := [(0, .inr (.inr (.ref 45))), (3, .inl (b3))]) (st' := []) (σ' := σ2) rfl ?_
  exact wk_rV tt_121 rfl rfl ⟨rfl, (sg_F_t (sg_F_r [48, 8045] σ) (sg_F_m (L := [48, 8045]) hF3 rfl)), w⟩
-- NestedVectors$Machine.finishOne
def V_mnFinishOne_267 (σ : sg_S) (b3 : Int) (Q : sg_S → Prop) : Prop := V_nCountUp σ (b3) (fun σ2 => sg_F [48, 53, 54, 8045, 11045, 21045, 22045, 23045] σ σ2 → Q σ2)
set_option maxHeartbeats 4000000 in
set_option maxRecDepth 8000 in
theorem w_mnFinishOne_267 (z : Value) (σ : sg_S) (b3 : Int) (Q : sg_S → Prop) (rb3 : sg_R b3) (w : V_mnFinishOne_267 σ b3 Q) : wx z 4 121 92 [(0, .inr (.inr (.ref 45))), (3, .inl (b3))] [] σ (fun v σ' => v = none ∧ sg_F [48, 53, 54, 8045, 11045, 21045, 22045, 23045] σ σ' ∧ Q σ') := by
  unfold V_mnFinishOne_267 at w
  refine wk_b tt_121 2 (pc' := 94) (ls' := [(0, .inr (.inr (.ref 45))), (3, .inl (b3))]) (st' := [.inl (b3), .inr (.inr (.ref 45))]) (σ' := σ) rfl ?_
  refine wk_call tt_121 rfl rfl rfl rfl rfl tt_137 rfl (by decide) (w_nCountUp z σ (b3) _ rb3 w) (fun u6 σ2 hq4 => ?_)
  obtain ⟨rfl, hF3, w⟩ := hq4
  have w := w hF3
  refine wk_b tt_121 1 (pc' := 130) (ls' := [(0, .inr (.inr (.ref 45))), (3, .inl (b3))]) (st' := []) (σ' := σ2) rfl ?_
  exact wk_rV tt_121 rfl rfl ⟨rfl, (sg_F_t (sg_F_r [48, 53, 54, 8045, 11045, 21045, 22045, 23045] σ) (sg_F_m (L := [48, 53, 54, 8045, 11045, 21045, 22045, 23045]) hF3 rfl)), w⟩
-- NestedVectors$Machine.finishOne
def V_mnFinishOne_272 (σ : sg_S) (b3 : Int) (Q : sg_S → Prop) : Prop := V_nSumUp σ (b3) (fun σ2 => sg_F [48, 53, 54, 8045, 11045, 21045, 22045, 23045] σ σ2 → Q σ2)
set_option maxHeartbeats 4000000 in
set_option maxRecDepth 8000 in
theorem w_mnFinishOne_272 (z : Value) (σ : sg_S) (b3 : Int) (Q : sg_S → Prop) (rb3 : sg_R b3) (w : V_mnFinishOne_272 σ b3 Q) : wx z 4 121 100 [(0, .inr (.inr (.ref 45))), (3, .inl (b3))] [] σ (fun v σ' => v = none ∧ sg_F [48, 53, 54, 8045, 11045, 21045, 22045, 23045] σ σ' ∧ Q σ') := by
  unfold V_mnFinishOne_272 at w
  refine wk_b tt_121 2 (pc' := 102) (ls' := [(0, .inr (.inr (.ref 45))), (3, .inl (b3))]) (st' := [.inl (b3), .inr (.inr (.ref 45))]) (σ' := σ) rfl ?_
  refine wk_call tt_121 rfl rfl rfl rfl rfl tt_163 rfl (by decide) (w_nSumUp z σ (b3) _ rb3 w) (fun u6 σ2 hq4 => ?_)
  obtain ⟨rfl, hF3, w⟩ := hq4
  have w := w hF3
  refine wk_b tt_121 1 (pc' := 130) (ls' := [(0, .inr (.inr (.ref 45))), (3, .inl (b3))]) (st' := []) (σ' := σ2) rfl ?_
  exact wk_rV tt_121 rfl rfl ⟨rfl, (sg_F_t (sg_F_r [48, 53, 54, 8045, 11045, 21045, 22045, 23045] σ) (sg_F_m (L := [48, 53, 54, 8045, 11045, 21045, 22045, 23045]) hF3 rfl)), w⟩
-- NestedVectors$Machine.finishOne
def V_mnFinishOne_273 (σ : sg_S) (b3 : Int) (Q : sg_S → Prop) : Prop := V_nReverse σ (b3) (fun σ2 => sg_F [48, 53, 54, 8045, 11045, 21045, 22045, 23045] σ σ2 → Q σ2)
set_option maxHeartbeats 4000000 in
set_option maxRecDepth 8000 in
theorem w_mnFinishOne_273 (z : Value) (σ : sg_S) (b3 : Int) (Q : sg_S → Prop) (rb3 : sg_R b3) (w : V_mnFinishOne_273 σ b3 Q) : wx z 4 121 108 [(0, .inr (.inr (.ref 45))), (3, .inl (b3))] [] σ (fun v σ' => v = none ∧ sg_F [48, 53, 54, 8045, 11045, 21045, 22045, 23045] σ σ' ∧ Q σ') := by
  unfold V_mnFinishOne_273 at w
  refine wk_b tt_121 2 (pc' := 110) (ls' := [(0, .inr (.inr (.ref 45))), (3, .inl (b3))]) (st' := [.inl (b3), .inr (.inr (.ref 45))]) (σ' := σ) rfl ?_
  refine wk_call tt_121 rfl rfl rfl rfl rfl tt_158 rfl (by decide) (w_nReverse z σ (b3) _ rb3 w) (fun u6 σ2 hq4 => ?_)
  obtain ⟨rfl, hF3, w⟩ := hq4
  have w := w hF3
  refine wk_b tt_121 1 (pc' := 130) (ls' := [(0, .inr (.inr (.ref 45))), (3, .inl (b3))]) (st' := []) (σ' := σ2) rfl ?_
  exact wk_rV tt_121 rfl rfl ⟨rfl, (sg_F_t (sg_F_r [48, 53, 54, 8045, 11045, 21045, 22045, 23045] σ) (sg_F_m (L := [48, 53, 54, 8045, 11045, 21045, 22045, 23045]) hF3 rfl)), w⟩
-- NestedVectors$Machine.finishOne
def V_mnFinishOne_275 (σ : sg_S) (b3 : Int) (Q : sg_S → Prop) : Prop := V_nFlatten σ (b3) (fun σ2 => sg_F [48, 53, 54, 8045, 11045, 21045, 22045, 23045] σ σ2 → Q σ2)
set_option maxHeartbeats 4000000 in
set_option maxRecDepth 8000 in
theorem w_mnFinishOne_275 (z : Value) (σ : sg_S) (b3 : Int) (Q : sg_S → Prop) (rb3 : sg_R b3) (w : V_mnFinishOne_275 σ b3 Q) : wx z 4 121 116 [(0, .inr (.inr (.ref 45))), (3, .inl (b3))] [] σ (fun v σ' => v = none ∧ sg_F [48, 53, 54, 8045, 11045, 21045, 22045, 23045] σ σ' ∧ Q σ') := by
  unfold V_mnFinishOne_275 at w
  refine wk_b tt_121 2 (pc' := 118) (ls' := [(0, .inr (.inr (.ref 45))), (3, .inl (b3))]) (st' := [.inl (b3), .inr (.inr (.ref 45))]) (σ' := σ) rfl ?_
  refine wk_call tt_121 rfl rfl rfl rfl rfl tt_141 rfl (by decide) (w_nFlatten z σ (b3) _ rb3 w) (fun u6 σ2 hq4 => ?_)
  obtain ⟨rfl, hF3, w⟩ := hq4
  have w := w hF3
  refine wk_b tt_121 1 (pc' := 130) (ls' := [(0, .inr (.inr (.ref 45))), (3, .inl (b3))]) (st' := []) (σ' := σ2) rfl ?_
  exact wk_rV tt_121 rfl rfl ⟨rfl, (sg_F_t (sg_F_r [48, 53, 54, 8045, 11045, 21045, 22045, 23045] σ) (sg_F_m (L := [48, 53, 54, 8045, 11045, 21045, 22045, 23045]) hF3 rfl)), w⟩
-- NestedVectors$Machine.finishOne
def V_mnFinishOne_d (σ : sg_S) (b2 : Int) (b3 : Int) (Q : sg_S → Prop) : Prop := V_nReduce σ (b2) (b3) (fun σ2 => sg_F [48, 8045, 11045, 23045] σ σ2 → Q σ2)
set_option maxHeartbeats 4000000 in
set_option maxRecDepth 8000 in
theorem w_mnFinishOne_d (z : Value) (σ : sg_S) (b2 : Int) (b3 : Int) (Q : sg_S → Prop) (rb2 : sg_R b2) (rb3 : sg_R b3) (w : V_mnFinishOne_d σ b2 b3 Q) : wx z 3 121 124 [(0, .inr (.inr (.ref 45))), (2, .inl (b2)), (3, .inl (b3))] [] σ (fun v σ' => v = none ∧ sg_F [48, 8045, 11045, 23045] σ σ' ∧ Q σ') := by
  unfold V_mnFinishOne_d at w
  refine wk_b tt_121 3 (pc' := 127) (ls' := [(0, .inr (.inr (.ref 45))), (2, .inl (b2)), (3, .inl (b3))]) (st' := [.inl (b3), .inl (b2), .inr (.inr (.ref 45))]) (σ' := σ) rfl ?_
  refine wk_call tt_121 rfl rfl rfl rfl rfl tt_156 rfl (by decide) (w_nReduce z σ (b2) (b3) _ rb2 rb3 w) (fun u6 σ2 hq4 => ?_)
  obtain ⟨rfl, hF3, w⟩ := hq4
  have w := w hF3
  exact wk_rV tt_121 rfl rfl ⟨rfl, (sg_F_t (sg_F_r [48, 8045, 11045, 23045] σ) (sg_F_m (L := [48, 8045, 11045, 23045]) hF3 rfl)), w⟩
-- NestedVectors$Machine.finishOne
def V_mnFinishOne (σ : sg_S) (a1 : Int) (Q : sg_S → Prop) : Prop := V_mnPop σ  (fun q1 σ2 => sg_R q1 → sg_F [8045] σ σ2 → ∀ σ7, σ7 = (sg_w σ2 45 9 ((sx_at σ 6 200 (a1)))) → (((sx_at σ 3 200 (a1)) = 35 → V_mnFinishOne_35 σ7 (q1) Q) ∧ (¬ (sx_at σ 3 200 (a1)) = 35 → (((sx_at σ 3 200 (a1)) = 267 → V_mnFinishOne_267 σ7 (q1) Q) ∧ (¬ (sx_at σ 3 200 (a1)) = 267 → (((sx_at σ 3 200 (a1)) = 272 → V_mnFinishOne_272 σ7 (q1) Q) ∧ (¬ (sx_at σ 3 200 (a1)) = 272 → (((sx_at σ 3 200 (a1)) = 273 → V_mnFinishOne_273 σ7 (q1) Q) ∧ (¬ (sx_at σ 3 200 (a1)) = 273 → (((sx_at σ 3 200 (a1)) = 275 → V_mnFinishOne_275 σ7 (q1) Q) ∧ (¬ (sx_at σ 3 200 (a1)) = 275 → V_mnFinishOne_d σ7 ((sx_at σ 3 200 (a1))) (q1) Q)))))))))))
set_option maxHeartbeats 4000000 in
set_option maxRecDepth 8000 in
theorem w_mnFinishOne (z : Value) (σ : sg_S) (a1 : Int) (Q : sg_S → Prop) (ra1 : sg_R a1) (w : V_mnFinishOne σ a1 Q) : wx z 4 121 0 [(0, .inr (.inr (.ref 45))), (1, .inl (a1))] [] σ (fun v σ' => v = none ∧ sg_F [48, 53, 54, 8045, 10045, 11045, 21045, 22045, 23045] σ σ' ∧ Q σ') := by
  unfold V_mnFinishOne at w
  refine wk_b tt_121 4 (pc' := 8) (ls' := [(0, .inr (.inr (.ref 45))), (1, .inl (a1))]) (st' := [.inl (a1), .inr (.inr (.ref 3))]) (σ' := σ) rfl ?_
  refine wk_callp tt_121 rfl rfl rfl rfl rfl tt_5 rfl (by decide) (at_i0 z σ 3 200 (a1) rfl (by decide) ra1) ?_
  show wx z 4 121 11 [(0, .inr (.inr (.ref 45))), (1, .inl (a1))] [.inl ((sx_at σ 3 200 (a1)))] σ (fun v σ' => v = none ∧ sg_F [48, 53, 54, 8045, 10045, 11045, 21045, 22045, 23045] σ σ' ∧ Q σ')
  refine wk_b tt_121 2 (pc' := 13) (ls' := [(2, .inl ((sx_at σ 3 200 (a1)))), (0, .inr (.inr (.ref 45))), (1, .inl (a1))]) (st' := [.inr (.inr (.ref 45))]) (σ' := σ) rfl ?_
  refine wk_call tt_121 rfl rfl rfl rfl rfl tt_124 rfl (by decide) (w_mnPop z σ  _  w) (fun u6 σ2 hq4 => ?_)
  obtain ⟨q1, rfl, r5, hF3, w⟩ := hq4
  have w := w r5 hF3
  refine wk_b tt_121 6 (pc' := 26) (ls' := [(3, .inl (q1)), (2, .inl ((sx_at σ 3 200 (a1)))), (0, .inr (.inr (.ref 45))), (1, .inl (a1))]) (st' := [.inl (a1), .inr (.inr (.ref 6)), .inr (.inr (.ref 45))]) (σ' := σ2) rfl ?_
  refine wk_callp tt_121 rfl rfl rfl rfl rfl tt_5 rfl (by decide) (at_i0 z σ2 6 200 (a1) rfl (by decide) ra1) ?_
  show wx z 4 121 29 [(3, .inl (q1)), (2, .inl ((sx_at σ 3 200 (a1)))), (0, .inr (.inr (.ref 45))), (1, .inl (a1))] [.inl ((sx_at σ2 6 200 (a1))), .inr (.inr (.ref 45))] σ2 (fun v σ' => v = none ∧ sg_F [48, 53, 54, 8045, 10045, 11045, 21045, 22045, 23045] σ σ' ∧ Q σ')
  rw [sx_F (a := 6) (n := 200) (i := (a1)) hF3 rfl]
  refine wk_b tt_121 1 (pc' := 32) (ls' := [(3, .inl (q1)), (2, .inl ((sx_at σ 3 200 (a1)))), (0, .inr (.inr (.ref 45))), (1, .inl (a1))]) (st' := []) (σ' := (sg_w σ2 45 9 ((sx_at σ 6 200 (a1))))) rfl ?_
  generalize hs8 : (sg_w σ2 45 9 ((sx_at σ 6 200 (a1)))) = σ7
  have w := w σ7 hs8.symm
  have hF9 : sg_F [10045] σ2 σ7 := by rw [← hs8]; exact sg_F_w (sg_F_r _ _) rfl _
  refine wk_b tt_121 1 (pc' := 33) (ls' := [(3, .inl (q1)), (2, .inl ((sx_at σ 3 200 (a1)))), (0, .inr (.inr (.ref 45))), (1, .inl (a1))]) (st' := [.inl ((sx_at σ 3 200 (a1)))]) (σ' := σ7) rfl ?_
  by_cases e10 : (sx_at σ 3 200 (a1)) = 35
  · have w := w.1 e10
    refine wk_lw tt_121 (off := 51) (tgt := 84) rfl (by decide) (sx_R ..) (by rw [e10]; decide) rfl ?_
    refine wk_ls [(0, .inr (.inr (.ref 45))), (3, .inl (q1))] rfl ⟨rfl, rfl, trivial⟩ ?_
    exact wk_post (wk_d (by decide) (w_mnFinishOne_35 z σ7 (q1) Q r5 w)) (fun v σ' ⟨e, hF, hQ⟩ => ⟨e, sg_F_t (sg_F_t (sg_F_t (sg_F_r [48, 53, 54, 8045, 10045, 11045, 21045, 22045, 23045] σ) (sg_F_m (L := [48, 53, 54, 8045, 10045, 11045, 21045, 22045, 23045]) hF3 rfl)) (sg_F_m (L := [48, 53, 54, 8045, 10045, 11045, 21045, 22045, 23045]) hF9 rfl)) (sg_F_m hF rfl), hQ⟩)
  have w := w.2 e10
  by_cases e12 : (sx_at σ 3 200 (a1)) = 267
  · have w := w.1 e12
    refine wk_lw tt_121 (off := 59) (tgt := 92) rfl (by decide) (sx_R ..) (by rw [e12]; decide) rfl ?_
    refine wk_ls [(0, .inr (.inr (.ref 45))), (3, .inl (q1))] rfl ⟨rfl, rfl, trivial⟩ ?_
    exact wk_post (wk_d (by decide) (w_mnFinishOne_267 z σ7 (q1) Q r5 w)) (fun v σ' ⟨e, hF, hQ⟩ => ⟨e, sg_F_t (sg_F_t (sg_F_t (sg_F_r [48, 53, 54, 8045, 10045, 11045, 21045, 22045, 23045] σ) (sg_F_m (L := [48, 53, 54, 8045, 10045, 11045, 21045, 22045, 23045]) hF3 rfl)) (sg_F_m (L := [48, 53, 54, 8045, 10045, 11045, 21045, 22045, 23045]) hF9 rfl)) (sg_F_m hF rfl), hQ⟩)
  have w := w.2 e12
  by_cases e14 : (sx_at σ 3 200 (a1)) = 272
  · have w := w.1 e14
    refine wk_lw tt_121 (off := 67) (tgt := 100) rfl (by decide) (sx_R ..) (by rw [e14]; decide) rfl ?_
    refine wk_ls [(0, .inr (.inr (.ref 45))), (3, .inl (q1))] rfl ⟨rfl, rfl, trivial⟩ ?_
    exact wk_post (wk_d (by decide) (w_mnFinishOne_272 z σ7 (q1) Q r5 w)) (fun v σ' ⟨e, hF, hQ⟩ => ⟨e, sg_F_t (sg_F_t (sg_F_t (sg_F_r [48, 53, 54, 8045, 10045, 11045, 21045, 22045, 23045] σ) (sg_F_m (L := [48, 53, 54, 8045, 10045, 11045, 21045, 22045, 23045]) hF3 rfl)) (sg_F_m (L := [48, 53, 54, 8045, 10045, 11045, 21045, 22045, 23045]) hF9 rfl)) (sg_F_m hF rfl), hQ⟩)
  have w := w.2 e14
  by_cases e16 : (sx_at σ 3 200 (a1)) = 273
  · have w := w.1 e16
    refine wk_lw tt_121 (off := 75) (tgt := 108) rfl (by decide) (sx_R ..) (by rw [e16]; decide) rfl ?_
    refine wk_ls [(0, .inr (.inr (.ref 45))), (3, .inl (q1))] rfl ⟨rfl, rfl, trivial⟩ ?_
    exact wk_post (wk_d (by decide) (w_mnFinishOne_273 z σ7 (q1) Q r5 w)) (fun v σ' ⟨e, hF, hQ⟩ => ⟨e, sg_F_t (sg_F_t (sg_F_t (sg_F_r [48, 53, 54, 8045, 10045, 11045, 21045, 22045, 23045] σ) (sg_F_m (L := [48, 53, 54, 8045, 10045, 11045, 21045, 22045, 23045]) hF3 rfl)) (sg_F_m (L := [48, 53, 54, 8045, 10045, 11045, 21045, 22045, 23045]) hF9 rfl)) (sg_F_m hF rfl), hQ⟩)
  have w := w.2 e16
  by_cases e18 : (sx_at σ 3 200 (a1)) = 275
  · have w := w.1 e18
    refine wk_lw tt_121 (off := 83) (tgt := 116) rfl (by decide) (sx_R ..) (by rw [e18]; decide) rfl ?_
    refine wk_ls [(0, .inr (.inr (.ref 45))), (3, .inl (q1))] rfl ⟨rfl, rfl, trivial⟩ ?_
    exact wk_post (wk_d (by decide) (w_mnFinishOne_275 z σ7 (q1) Q r5 w)) (fun v σ' ⟨e, hF, hQ⟩ => ⟨e, sg_F_t (sg_F_t (sg_F_t (sg_F_r [48, 53, 54, 8045, 10045, 11045, 21045, 22045, 23045] σ) (sg_F_m (L := [48, 53, 54, 8045, 10045, 11045, 21045, 22045, 23045]) hF3 rfl)) (sg_F_m (L := [48, 53, 54, 8045, 10045, 11045, 21045, 22045, 23045]) hF9 rfl)) (sg_F_m hF rfl), hQ⟩)
  have w := w.2 e18
  refine wk_lw tt_121 (off := 91) (tgt := 124) rfl (by decide) (sx_R ..) (by simp only [Op.lookupswitch.offset]; rw [if_neg (fun h => e10 h.symm), if_neg (fun h => e12 h.symm), if_neg (fun h => e14 h.symm), if_neg (fun h => e16 h.symm), if_neg (fun h => e18 h.symm)]) rfl ?_
  refine wk_ls [(0, .inr (.inr (.ref 45))), (2, .inl ((sx_at σ 3 200 (a1)))), (3, .inl (q1))] rfl ⟨rfl, rfl, rfl, trivial⟩ ?_
  exact wk_post (wk_d (by decide) (w_mnFinishOne_d z σ7 ((sx_at σ 3 200 (a1))) (q1) Q (sx_R ..) r5 w)) (fun v σ' ⟨e, hF, hQ⟩ => ⟨e, sg_F_t (sg_F_t (sg_F_t (sg_F_r [48, 53, 54, 8045, 10045, 11045, 21045, 22045, 23045] σ) (sg_F_m (L := [48, 53, 54, 8045, 10045, 11045, 21045, 22045, 23045]) hF3 rfl)) (sg_F_m (L := [48, 53, 54, 8045, 10045, 11045, 21045, 22045, 23045]) hF9 rfl)) (sg_F_m hF rfl), hQ⟩)
-- NestedVectors$Machine.finishTwo
def V_mnFinishTwo_91 (σ : sg_S) (b3 : Int) (b4 : Int) (Q : sg_S → Prop) : Prop := V_nSelect σ (b4) (b3) (fun σ2 => sg_F [48, 8045, 11045] σ σ2 → Q σ2)
set_option maxHeartbeats 4000000 in
set_option maxRecDepth 8000 in
theorem w_mnFinishTwo_91 (z : Value) (σ : sg_S) (b3 : Int) (b4 : Int) (Q : sg_S → Prop) (rb3 : sg_R b3) (rb4 : sg_R b4) (w : V_mnFinishTwo_91 σ b3 b4 Q) : wx z 3 122 96 [(0, .inr (.inr (.ref 45))), (3, .inl (b3)), (4, .inl (b4))] [] σ (fun v σ' => v = none ∧ sg_F [48, 8045, 11045] σ σ' ∧ Q σ') := by
  unfold V_mnFinishTwo_91 at w
  refine wk_b tt_122 3 (pc' := 100) (ls' := [(0, .inr (.inr (.ref 45))), (3, .inl (b3)), (4, .inl (b4))]) (st' := [.inl (b3), .inl (b4), .inr (.inr (.ref 45))]) (σ' := σ) rfl ?_
  refine wk_call tt_122 rfl rfl rfl rfl rfl tt_160 rfl (by decide) (w_nSelect z σ (b4) (b3) _ rb4 rb3 w) (fun u6 σ2 hq4 => ?_)
  obtain ⟨rfl, hF3, w⟩ := hq4
  have w := w hF3
  refine wk_b tt_122 1 (pc' := 164) (ls' := [(0, .inr (.inr (.ref 45))), (3, .inl (b3)), (4, .inl (b4))]) (st' := []) (σ' := σ2) rfl ?_
  exact wk_rV tt_122 rfl rfl ⟨rfl, (sg_F_t (sg_F_r [48, 8045, 11045] σ) (sg_F_m (L := [48, 8045, 11045]) hF3 rfl)), w⟩
-- NestedVectors$Machine.finishTwo
def V_mnFinishTwo_268 (σ : sg_S) (b3 : Int) (b4 : Int) (Q : sg_S → Prop) : Prop := V_nRepeat σ (b4) (b3) (fun σ2 => sg_F [48, 53, 54, 8045, 11045, 21045, 22045, 23045] σ σ2 → Q σ2)
set_option maxHeartbeats 4000000 in
set_option maxRecDepth 8000 in
theorem w_mnFinishTwo_268 (z : Value) (σ : sg_S) (b3 : Int) (b4 : Int) (Q : sg_S → Prop) (rb3 : sg_R b3) (rb4 : sg_R b4) (w : V_mnFinishTwo_268 σ b3 b4 Q) : wx z 4 122 106 [(0, .inr (.inr (.ref 45))), (3, .inl (b3)), (4, .inl (b4))] [] σ (fun v σ' => v = none ∧ sg_F [48, 53, 54, 8045, 11045, 21045, 22045, 23045] σ σ' ∧ Q σ') := by
  unfold V_mnFinishTwo_268 at w
  refine wk_b tt_122 3 (pc' := 110) (ls' := [(0, .inr (.inr (.ref 45))), (3, .inl (b3)), (4, .inl (b4))]) (st' := [.inl (b3), .inl (b4), .inr (.inr (.ref 45))]) (σ' := σ) rfl ?_
  refine wk_call tt_122 rfl rfl rfl rfl rfl tt_157 rfl (by decide) (w_nRepeat z σ (b4) (b3) _ rb4 rb3 w) (fun u6 σ2 hq4 => ?_)
  obtain ⟨rfl, hF3, w⟩ := hq4
  have w := w hF3
  refine wk_b tt_122 1 (pc' := 164) (ls' := [(0, .inr (.inr (.ref 45))), (3, .inl (b3)), (4, .inl (b4))]) (st' := []) (σ' := σ2) rfl ?_
  exact wk_rV tt_122 rfl rfl ⟨rfl, (sg_F_t (sg_F_r [48, 53, 54, 8045, 11045, 21045, 22045, 23045] σ) (sg_F_m (L := [48, 53, 54, 8045, 11045, 21045, 22045, 23045]) hF3 rfl)), w⟩
-- NestedVectors$Machine.finishTwo
def V_mnFinishTwo_274 (σ : sg_S) (b3 : Int) (b4 : Int) (Q : sg_S → Prop) : Prop := V_nAppend σ (b4) (b3) (fun σ2 => sg_F [48, 53, 54, 8045, 11045, 21045, 22045, 23045] σ σ2 → Q σ2)
set_option maxHeartbeats 4000000 in
set_option maxRecDepth 8000 in
theorem w_mnFinishTwo_274 (z : Value) (σ : sg_S) (b3 : Int) (b4 : Int) (Q : sg_S → Prop) (rb3 : sg_R b3) (rb4 : sg_R b4) (w : V_mnFinishTwo_274 σ b3 b4 Q) : wx z 4 122 116 [(0, .inr (.inr (.ref 45))), (3, .inl (b3)), (4, .inl (b4))] [] σ (fun v σ' => v = none ∧ sg_F [48, 53, 54, 8045, 11045, 21045, 22045, 23045] σ σ' ∧ Q σ') := by
  unfold V_mnFinishTwo_274 at w
  refine wk_b tt_122 3 (pc' := 120) (ls' := [(0, .inr (.inr (.ref 45))), (3, .inl (b3)), (4, .inl (b4))]) (st' := [.inl (b3), .inl (b4), .inr (.inr (.ref 45))]) (σ' := σ) rfl ?_
  refine wk_call tt_122 rfl rfl rfl rfl rfl tt_131 rfl (by decide) (w_nAppend z σ (b4) (b3) _ rb4 rb3 w) (fun u6 σ2 hq4 => ?_)
  obtain ⟨rfl, hF3, w⟩ := hq4
  have w := w hF3
  refine wk_b tt_122 1 (pc' := 164) (ls' := [(0, .inr (.inr (.ref 45))), (3, .inl (b3)), (4, .inl (b4))]) (st' := []) (σ' := σ2) rfl ?_
  exact wk_rV tt_122 rfl rfl ⟨rfl, (sg_F_t (sg_F_r [48, 53, 54, 8045, 11045, 21045, 22045, 23045] σ) (sg_F_m (L := [48, 53, 54, 8045, 11045, 21045, 22045, 23045]) hF3 rfl)), w⟩
-- NestedVectors$Machine.finishTwo
def V_mnFinishTwo_276 (σ : sg_S) (b3 : Int) (b4 : Int) (Q : sg_S → Prop) : Prop := V_nPack σ (b4) (b3) (fun σ2 => sg_F [48, 53, 54, 8045, 11045, 21045, 22045, 23045] σ σ2 → Q σ2)
set_option maxHeartbeats 4000000 in
set_option maxRecDepth 8000 in
theorem w_mnFinishTwo_276 (z : Value) (σ : sg_S) (b3 : Int) (b4 : Int) (Q : sg_S → Prop) (rb3 : sg_R b3) (rb4 : sg_R b4) (w : V_mnFinishTwo_276 σ b3 b4 Q) : wx z 4 122 126 [(0, .inr (.inr (.ref 45))), (3, .inl (b3)), (4, .inl (b4))] [] σ (fun v σ' => v = none ∧ sg_F [48, 53, 54, 8045, 11045, 21045, 22045, 23045] σ σ' ∧ Q σ') := by
  unfold V_mnFinishTwo_276 at w
  refine wk_b tt_122 3 (pc' := 130) (ls' := [(0, .inr (.inr (.ref 45))), (3, .inl (b3)), (4, .inl (b4))]) (st' := [.inl (b3), .inl (b4), .inr (.inr (.ref 45))]) (σ' := σ) rfl ?_
  refine wk_call tt_122 rfl rfl rfl rfl rfl tt_153 rfl (by decide) (w_nPack z σ (b4) (b3) _ rb4 rb3 w) (fun u6 σ2 hq4 => ?_)
  obtain ⟨rfl, hF3, w⟩ := hq4
  have w := w hF3
  refine wk_b tt_122 1 (pc' := 164) (ls' := [(0, .inr (.inr (.ref 45))), (3, .inl (b3)), (4, .inl (b4))]) (st' := []) (σ' := σ2) rfl ?_
  exact wk_rV tt_122 rfl rfl ⟨rfl, (sg_F_t (sg_F_r [48, 53, 54, 8045, 11045, 21045, 22045, 23045] σ) (sg_F_m (L := [48, 53, 54, 8045, 11045, 21045, 22045, 23045]) hF3 rfl)), w⟩
-- NestedVectors$Machine.finishTwo
def V_mnFinishTwo_277 (σ : sg_S) (b3 : Int) (b4 : Int) (Q : sg_S → Prop) : Prop := V_nPermute σ (b4) (b3) (fun σ2 => sg_F [48, 53, 54, 55, 8045, 11045, 21045, 22045, 23045] σ σ2 → Q σ2)
set_option maxHeartbeats 4000000 in
set_option maxRecDepth 8000 in
theorem w_mnFinishTwo_277 (z : Value) (σ : sg_S) (b3 : Int) (b4 : Int) (Q : sg_S → Prop) (rb3 : sg_R b3) (rb4 : sg_R b4) (w : V_mnFinishTwo_277 σ b3 b4 Q) : wx z 4 122 136 [(0, .inr (.inr (.ref 45))), (3, .inl (b3)), (4, .inl (b4))] [] σ (fun v σ' => v = none ∧ sg_F [48, 53, 54, 55, 8045, 11045, 21045, 22045, 23045] σ σ' ∧ Q σ') := by
  unfold V_mnFinishTwo_277 at w
  refine wk_b tt_122 3 (pc' := 140) (ls' := [(0, .inr (.inr (.ref 45))), (3, .inl (b3)), (4, .inl (b4))]) (st' := [.inl (b3), .inl (b4), .inr (.inr (.ref 45))]) (σ' := σ) rfl ?_
  refine wk_call tt_122 rfl rfl rfl rfl rfl tt_154 rfl (by decide) (w_nPermute z σ (b4) (b3) _ rb4 rb3 w) (fun u6 σ2 hq4 => ?_)
  obtain ⟨rfl, hF3, w⟩ := hq4
  have w := w hF3
  refine wk_b tt_122 1 (pc' := 164) (ls' := [(0, .inr (.inr (.ref 45))), (3, .inl (b3)), (4, .inl (b4))]) (st' := []) (σ' := σ2) rfl ?_
  exact wk_rV tt_122 rfl rfl ⟨rfl, (sg_F_t (sg_F_r [48, 53, 54, 55, 8045, 11045, 21045, 22045, 23045] σ) (sg_F_m (L := [48, 53, 54, 55, 8045, 11045, 21045, 22045, 23045]) hF3 rfl)), w⟩
-- NestedVectors$Machine.finishTwo
def V_mnFinishTwo_278 (σ : sg_S) (b3 : Int) (b4 : Int) (Q : sg_S → Prop) : Prop := V_nDivide σ (b4) (b3) (fun σ2 => sg_F [48, 53, 54, 8045, 11045, 21045, 22045, 23045] σ σ2 → Q σ2)
set_option maxHeartbeats 4000000 in
set_option maxRecDepth 8000 in
theorem w_mnFinishTwo_278 (z : Value) (σ : sg_S) (b3 : Int) (b4 : Int) (Q : sg_S → Prop) (rb3 : sg_R b3) (rb4 : sg_R b4) (w : V_mnFinishTwo_278 σ b3 b4 Q) : wx z 4 122 146 [(0, .inr (.inr (.ref 45))), (3, .inl (b3)), (4, .inl (b4))] [] σ (fun v σ' => v = none ∧ sg_F [48, 53, 54, 8045, 11045, 21045, 22045, 23045] σ σ' ∧ Q σ') := by
  unfold V_mnFinishTwo_278 at w
  refine wk_b tt_122 3 (pc' := 150) (ls' := [(0, .inr (.inr (.ref 45))), (3, .inl (b3)), (4, .inl (b4))]) (st' := [.inl (b3), .inl (b4), .inr (.inr (.ref 45))]) (σ' := σ) rfl ?_
  refine wk_call tt_122 rfl rfl rfl rfl rfl tt_138 rfl (by decide) (w_nDivide z σ (b4) (b3) _ rb4 rb3 w) (fun u6 σ2 hq4 => ?_)
  obtain ⟨rfl, hF3, w⟩ := hq4
  have w := w hF3
  refine wk_b tt_122 1 (pc' := 164) (ls' := [(0, .inr (.inr (.ref 45))), (3, .inl (b3)), (4, .inl (b4))]) (st' := []) (σ' := σ2) rfl ?_
  exact wk_rV tt_122 rfl rfl ⟨rfl, (sg_F_t (sg_F_r [48, 53, 54, 8045, 11045, 21045, 22045, 23045] σ) (sg_F_m (L := [48, 53, 54, 8045, 11045, 21045, 22045, 23045]) hF3 rfl)), w⟩
-- NestedVectors$Machine.finishTwo
def V_mnFinishTwo_d (σ : sg_S) (b2 : Int) (b3 : Int) (b4 : Int) (Q : sg_S → Prop) : Prop := V_nCombine σ (b2) (b4) (b3) (fun σ2 => sg_F [48, 8045, 11045] σ σ2 → Q σ2)
set_option maxHeartbeats 4000000 in
set_option maxRecDepth 8000 in
theorem w_mnFinishTwo_d (z : Value) (σ : sg_S) (b2 : Int) (b3 : Int) (b4 : Int) (Q : sg_S → Prop) (rb2 : sg_R b2) (rb3 : sg_R b3) (rb4 : sg_R b4) (w : V_mnFinishTwo_d σ b2 b3 b4 Q) : wx z 3 122 156 [(0, .inr (.inr (.ref 45))), (2, .inl (b2)), (3, .inl (b3)), (4, .inl (b4))] [] σ (fun v σ' => v = none ∧ sg_F [48, 8045, 11045] σ σ' ∧ Q σ') := by
  unfold V_mnFinishTwo_d at w
  refine wk_b tt_122 4 (pc' := 161) (ls' := [(0, .inr (.inr (.ref 45))), (2, .inl (b2)), (3, .inl (b3)), (4, .inl (b4))]) (st' := [.inl (b3), .inl (b4), .inl (b2), .inr (.inr (.ref 45))]) (σ' := σ) rfl ?_
  refine wk_call tt_122 rfl rfl rfl rfl rfl tt_134 rfl (by decide) (w_nCombine z σ (b2) (b4) (b3) _ rb2 rb4 rb3 w) (fun u6 σ2 hq4 => ?_)
  obtain ⟨rfl, hF3, w⟩ := hq4
  have w := w hF3
  exact wk_rV tt_122 rfl rfl ⟨rfl, (sg_F_t (sg_F_r [48, 8045, 11045] σ) (sg_F_m (L := [48, 8045, 11045]) hF3 rfl)), w⟩
-- NestedVectors$Machine.finishTwo
def V_mnFinishTwo (σ : sg_S) (a1 : Int) (Q : sg_S → Prop) : Prop := V_mnPop σ  (fun q1 σ2 => sg_R q1 → sg_F [8045] σ σ2 → V_mnPop σ2  (fun q7 σ8 => sg_R q7 → sg_F [8045] σ2 σ8 → ∀ σ13, σ13 = (sg_w σ8 45 9 ((sx_at σ 6 200 (a1)))) → (((sx_at σ 3 200 (a1)) = 91 → V_mnFinishTwo_91 σ13 (q1) (q7) Q) ∧ (¬ (sx_at σ 3 200 (a1)) = 91 → (((sx_at σ 3 200 (a1)) = 268 → V_mnFinishTwo_268 σ13 (q1) (q7) Q) ∧ (¬ (sx_at σ 3 200 (a1)) = 268 → (((sx_at σ 3 200 (a1)) = 274 → V_mnFinishTwo_274 σ13 (q1) (q7) Q) ∧ (¬ (sx_at σ 3 200 (a1)) = 274 → (((sx_at σ 3 200 (a1)) = 276 → V_mnFinishTwo_276 σ13 (q1) (q7) Q) ∧ (¬ (sx_at σ 3 200 (a1)) = 276 → (((sx_at σ 3 200 (a1)) = 277 → V_mnFinishTwo_277 σ13 (q1) (q7) Q) ∧ (¬ (sx_at σ 3 200 (a1)) = 277 → (((sx_at σ 3 200 (a1)) = 278 → V_mnFinishTwo_278 σ13 (q1) (q7) Q) ∧ (¬ (sx_at σ 3 200 (a1)) = 278 → V_mnFinishTwo_d σ13 ((sx_at σ 3 200 (a1))) (q1) (q7) Q))))))))))))))
set_option maxHeartbeats 4000000 in
set_option maxRecDepth 8000 in
theorem w_mnFinishTwo (z : Value) (σ : sg_S) (a1 : Int) (Q : sg_S → Prop) (ra1 : sg_R a1) (w : V_mnFinishTwo σ a1 Q) : wx z 4 122 0 [(0, .inr (.inr (.ref 45))), (1, .inl (a1))] [] σ (fun v σ' => v = none ∧ sg_F [48, 53, 54, 55, 8045, 10045, 11045, 21045, 22045, 23045] σ σ' ∧ Q σ') := by
  unfold V_mnFinishTwo at w
  refine wk_b tt_122 4 (pc' := 8) (ls' := [(0, .inr (.inr (.ref 45))), (1, .inl (a1))]) (st' := [.inl (a1), .inr (.inr (.ref 3))]) (σ' := σ) rfl ?_
  refine wk_callp tt_122 rfl rfl rfl rfl rfl tt_5 rfl (by decide) (at_i0 z σ 3 200 (a1) rfl (by decide) ra1) ?_
  show wx z 4 122 11 [(0, .inr (.inr (.ref 45))), (1, .inl (a1))] [.inl ((sx_at σ 3 200 (a1)))] σ (fun v σ' => v = none ∧ sg_F [48, 53, 54, 55, 8045, 10045, 11045, 21045, 22045, 23045] σ σ' ∧ Q σ')
  refine wk_b tt_122 2 (pc' := 13) (ls' := [(2, .inl ((sx_at σ 3 200 (a1)))), (0, .inr (.inr (.ref 45))), (1, .inl (a1))]) (st' := [.inr (.inr (.ref 45))]) (σ' := σ) rfl ?_
  refine wk_call tt_122 rfl rfl rfl rfl rfl tt_124 rfl (by decide) (w_mnPop z σ  _  w) (fun u6 σ2 hq4 => ?_)
  obtain ⟨q1, rfl, r5, hF3, w⟩ := hq4
  have w := w r5 hF3
  refine wk_b tt_122 2 (pc' := 18) (ls' := [(3, .inl (q1)), (2, .inl ((sx_at σ 3 200 (a1)))), (0, .inr (.inr (.ref 45))), (1, .inl (a1))]) (st' := [.inr (.inr (.ref 45))]) (σ' := σ2) rfl ?_
  refine wk_call tt_122 rfl rfl rfl rfl rfl tt_124 rfl (by decide) (w_mnPop z σ2  _  w) (fun u12 σ8 hq10 => ?_)
  obtain ⟨q7, rfl, r11, hF9, w⟩ := hq10
  have w := w r11 hF9
  refine wk_b tt_122 6 (pc' := 32) (ls' := [(4, .inl (q7)), (3, .inl (q1)), (2, .inl ((sx_at σ 3 200 (a1)))), (0, .inr (.inr (.ref 45))), (1, .inl (a1))]) (st' := [.inl (a1), .inr (.inr (.ref 6)), .inr (.inr (.ref 45))]) (σ' := σ8) rfl ?_
  refine wk_callp tt_122 rfl rfl rfl rfl rfl tt_5 rfl (by decide) (at_i0 z σ8 6 200 (a1) rfl (by decide) ra1) ?_
  show wx z 4 122 35 [(4, .inl (q7)), (3, .inl (q1)), (2, .inl ((sx_at σ 3 200 (a1)))), (0, .inr (.inr (.ref 45))), (1, .inl (a1))] [.inl ((sx_at σ8 6 200 (a1))), .inr (.inr (.ref 45))] σ8 (fun v σ' => v = none ∧ sg_F [48, 53, 54, 55, 8045, 10045, 11045, 21045, 22045, 23045] σ σ' ∧ Q σ')
  rw [sx_F (a := 6) (n := 200) (i := (a1)) hF9 rfl, sx_F (a := 6) (n := 200) (i := (a1)) hF3 rfl]
  refine wk_b tt_122 1 (pc' := 38) (ls' := [(4, .inl (q7)), (3, .inl (q1)), (2, .inl ((sx_at σ 3 200 (a1)))), (0, .inr (.inr (.ref 45))), (1, .inl (a1))]) (st' := []) (σ' := (sg_w σ8 45 9 ((sx_at σ 6 200 (a1))))) rfl ?_
  generalize hs14 : (sg_w σ8 45 9 ((sx_at σ 6 200 (a1)))) = σ13
  have w := w σ13 hs14.symm
  have hF15 : sg_F [10045] σ8 σ13 := by rw [← hs14]; exact sg_F_w (sg_F_r _ _) rfl _
  refine wk_b tt_122 1 (pc' := 39) (ls' := [(4, .inl (q7)), (3, .inl (q1)), (2, .inl ((sx_at σ 3 200 (a1)))), (0, .inr (.inr (.ref 45))), (1, .inl (a1))]) (st' := [.inl ((sx_at σ 3 200 (a1)))]) (σ' := σ13) rfl ?_
  by_cases e16 : (sx_at σ 3 200 (a1)) = 91
  · have w := w.1 e16
    refine wk_lw tt_122 (off := 57) (tgt := 96) rfl (by decide) (sx_R ..) (by rw [e16]; decide) rfl ?_
    refine wk_ls [(0, .inr (.inr (.ref 45))), (3, .inl (q1)), (4, .inl (q7))] rfl ⟨rfl, rfl, rfl, trivial⟩ ?_
    exact wk_post (wk_d (by decide) (w_mnFinishTwo_91 z σ13 (q1) (q7) Q r5 r11 w)) (fun v σ' ⟨e, hF, hQ⟩ => ⟨e, sg_F_t (sg_F_t (sg_F_t (sg_F_t (sg_F_r [48, 53, 54, 55, 8045, 10045, 11045, 21045, 22045, 23045] σ) (sg_F_m (L := [48, 53, 54, 55, 8045, 10045, 11045, 21045, 22045, 23045]) hF3 rfl)) (sg_F_m (L := [48, 53, 54, 55, 8045, 10045, 11045, 21045, 22045, 23045]) hF9 rfl)) (sg_F_m (L := [48, 53, 54, 55, 8045, 10045, 11045, 21045, 22045, 23045]) hF15 rfl)) (sg_F_m hF rfl), hQ⟩)
  have w := w.2 e16
  by_cases e18 : (sx_at σ 3 200 (a1)) = 268
  · have w := w.1 e18
    refine wk_lw tt_122 (off := 67) (tgt := 106) rfl (by decide) (sx_R ..) (by rw [e18]; decide) rfl ?_
    refine wk_ls [(0, .inr (.inr (.ref 45))), (3, .inl (q1)), (4, .inl (q7))] rfl ⟨rfl, rfl, rfl, trivial⟩ ?_
    exact wk_post (wk_d (by decide) (w_mnFinishTwo_268 z σ13 (q1) (q7) Q r5 r11 w)) (fun v σ' ⟨e, hF, hQ⟩ => ⟨e, sg_F_t (sg_F_t (sg_F_t (sg_F_t (sg_F_r [48, 53, 54, 55, 8045, 10045, 11045, 21045, 22045, 23045] σ) (sg_F_m (L := [48, 53, 54, 55, 8045, 10045, 11045, 21045, 22045, 23045]) hF3 rfl)) (sg_F_m (L := [48, 53, 54, 55, 8045, 10045, 11045, 21045, 22045, 23045]) hF9 rfl)) (sg_F_m (L := [48, 53, 54, 55, 8045, 10045, 11045, 21045, 22045, 23045]) hF15 rfl)) (sg_F_m hF rfl), hQ⟩)
  have w := w.2 e18
  by_cases e20 : (sx_at σ 3 200 (a1)) = 274
  · have w := w.1 e20
    refine wk_lw tt_122 (off := 77) (tgt := 116) rfl (by decide) (sx_R ..) (by rw [e20]; decide) rfl ?_
    refine wk_ls [(0, .inr (.inr (.ref 45))), (3, .inl (q1)), (4, .inl (q7))] rfl ⟨rfl, rfl, rfl, trivial⟩ ?_
    exact wk_post (wk_d (by decide) (w_mnFinishTwo_274 z σ13 (q1) (q7) Q r5 r11 w)) (fun v σ' ⟨e, hF, hQ⟩ => ⟨e, sg_F_t (sg_F_t (sg_F_t (sg_F_t (sg_F_r [48, 53, 54, 55, 8045, 10045, 11045, 21045, 22045, 23045] σ) (sg_F_m (L := [48, 53, 54, 55, 8045, 10045, 11045, 21045, 22045, 23045]) hF3 rfl)) (sg_F_m (L := [48, 53, 54, 55, 8045, 10045, 11045, 21045, 22045, 23045]) hF9 rfl)) (sg_F_m (L := [48, 53, 54, 55, 8045, 10045, 11045, 21045, 22045, 23045]) hF15 rfl)) (sg_F_m hF rfl), hQ⟩)
  have w := w.2 e20
  by_cases e22 : (sx_at σ 3 200 (a1)) = 276
  · have w := w.1 e22
    refine wk_lw tt_122 (off := 87) (tgt := 126) rfl (by decide) (sx_R ..) (by rw [e22]; decide) rfl ?_
    refine wk_ls [(0, .inr (.inr (.ref 45))), (3, .inl (q1)), (4, .inl (q7))] rfl ⟨rfl, rfl, rfl, trivial⟩ ?_
    exact wk_post (wk_d (by decide) (w_mnFinishTwo_276 z σ13 (q1) (q7) Q r5 r11 w)) (fun v σ' ⟨e, hF, hQ⟩ => ⟨e, sg_F_t (sg_F_t (sg_F_t (sg_F_t (sg_F_r [48, 53, 54, 55, 8045, 10045, 11045, 21045, 22045, 23045] σ) (sg_F_m (L := [48, 53, 54, 55, 8045, 10045, 11045, 21045, 22045, 23045]) hF3 rfl)) (sg_F_m (L := [48, 53, 54, 55, 8045, 10045, 11045, 21045, 22045, 23045]) hF9 rfl)) (sg_F_m (L := [48, 53, 54, 55, 8045, 10045, 11045, 21045, 22045, 23045]) hF15 rfl)) (sg_F_m hF rfl), hQ⟩)
  have w := w.2 e22
  by_cases e24 : (sx_at σ 3 200 (a1)) = 277
  · have w := w.1 e24
    refine wk_lw tt_122 (off := 97) (tgt := 136) rfl (by decide) (sx_R ..) (by rw [e24]; decide) rfl ?_
    refine wk_ls [(0, .inr (.inr (.ref 45))), (3, .inl (q1)), (4, .inl (q7))] rfl ⟨rfl, rfl, rfl, trivial⟩ ?_
    exact wk_post (wk_d (by decide) (w_mnFinishTwo_277 z σ13 (q1) (q7) Q r5 r11 w)) (fun v σ' ⟨e, hF, hQ⟩ => ⟨e, sg_F_t (sg_F_t (sg_F_t (sg_F_t (sg_F_r [48, 53, 54, 55, 8045, 10045, 11045, 21045, 22045, 23045] σ) (sg_F_m (L := [48, 53, 54, 55, 8045, 10045, 11045, 21045, 22045, 23045]) hF3 rfl)) (sg_F_m (L := [48, 53, 54, 55, 8045, 10045, 11045, 21045, 22045, 23045]) hF9 rfl)) (sg_F_m (L := [48, 53, 54, 55, 8045, 10045, 11045, 21045, 22045, 23045]) hF15 rfl)) (sg_F_m hF rfl), hQ⟩)
  have w := w.2 e24
  by_cases e26 : (sx_at σ 3 200 (a1)) = 278
  · have w := w.1 e26
    refine wk_lw tt_122 (off := 107) (tgt := 146) rfl (by decide) (sx_R ..) (by rw [e26]; decide) rfl ?_
    refine wk_ls [(0, .inr (.inr (.ref 45))), (3, .inl (q1)), (4, .inl (q7))] rfl ⟨rfl, rfl, rfl, trivial⟩ ?_
    exact wk_post (wk_d (by decide) (w_mnFinishTwo_278 z σ13 (q1) (q7) Q r5 r11 w)) (fun v σ' ⟨e, hF, hQ⟩ => ⟨e, sg_F_t (sg_F_t (sg_F_t (sg_F_t (sg_F_r [48, 53, 54, 55, 8045, 10045, 11045, 21045, 22045, 23045] σ) (sg_F_m (L := [48, 53, 54, 55, 8045, 10045, 11045, 21045, 22045, 23045]) hF3 rfl)) (sg_F_m (L := [48, 53, 54, 55, 8045, 10045, 11045, 21045, 22045, 23045]) hF9 rfl)) (sg_F_m (L := [48, 53, 54, 55, 8045, 10045, 11045, 21045, 22045, 23045]) hF15 rfl)) (sg_F_m hF rfl), hQ⟩)
  have w := w.2 e26
  refine wk_lw tt_122 (off := 117) (tgt := 156) rfl (by decide) (sx_R ..) (by simp only [Op.lookupswitch.offset]; rw [if_neg (fun h => e16 h.symm), if_neg (fun h => e18 h.symm), if_neg (fun h => e20 h.symm), if_neg (fun h => e22 h.symm), if_neg (fun h => e24 h.symm), if_neg (fun h => e26 h.symm)]) rfl ?_
  refine wk_ls [(0, .inr (.inr (.ref 45))), (2, .inl ((sx_at σ 3 200 (a1)))), (3, .inl (q1)), (4, .inl (q7))] rfl ⟨rfl, rfl, rfl, rfl, trivial⟩ ?_
  exact wk_post (wk_d (by decide) (w_mnFinishTwo_d z σ13 ((sx_at σ 3 200 (a1))) (q1) (q7) Q (sx_R ..) r5 r11 w)) (fun v σ' ⟨e, hF, hQ⟩ => ⟨e, sg_F_t (sg_F_t (sg_F_t (sg_F_t (sg_F_r [48, 53, 54, 55, 8045, 10045, 11045, 21045, 22045, 23045] σ) (sg_F_m (L := [48, 53, 54, 55, 8045, 10045, 11045, 21045, 22045, 23045]) hF3 rfl)) (sg_F_m (L := [48, 53, 54, 55, 8045, 10045, 11045, 21045, 22045, 23045]) hF9 rfl)) (sg_F_m (L := [48, 53, 54, 55, 8045, 10045, 11045, 21045, 22045, 23045]) hF15 rfl)) (sg_F_m hF rfl), hQ⟩)
-- NestedVectors$Machine.enter
def V_mnEnter (σ : sg_S) (a1 : Int) (Q : sg_S → Prop) : Prop := (∃ (I4 : Nat → Int → sg_S → Prop) (X6 : sg_S → Prop), (∃ n, I4 n (0) σ) ∧ (∀ (n14 : Nat) (v1 : Int) (σ2 : sg_S), sg_R v1 → sg_F [46] σ σ2 → I4 n14 v1 σ2 → (((sx_at σ 23 12 (a1)) ≤ v1 → X6 σ2) ∧ (v1 < (sx_at σ 23 12 (a1)) → ((6 ≤ v1 → X6 σ2) ∧ (v1 < 6 → sg_R ((sx_at σ 24 12 (a1)) + v1) ∧ sg_R ((sg_g σ 45 7) - (sx_at σ 23 12 (a1))) ∧ sg_R (((sg_g σ 45 7) - (sx_at σ 23 12 (a1))) + v1) ∧ ∀ σ31, σ31 = (sx_put σ2 46 272 (((sx_at σ 24 12 (a1)) + v1)) ((sx_at σ 48 3200 ((((sg_g σ 45 7) - (sx_at σ 23 12 (a1))) + v1))))) → sg_R (v1 + 1) ∧ (∃ m, m < n14 ∧ I4 m ((v1 + 1)) σ31)))))) ∧ (∀ (σ2 : sg_S), sg_F [46] σ σ2 → X6 σ2 → sg_R ((sg_g σ 45 7) - (sx_at σ 23 12 (a1))) ∧ ∀ σ17, σ17 = (sg_w σ2 45 7 (((sg_g σ 45 7) - (sx_at σ 23 12 (a1))))) → ∀ σ20, σ20 = (sx_put σ17 47 13 (a1) ((sg_g σ 45 8))) → ∀ σ23, σ23 = (sg_w σ20 45 8 ((sx_at σ 31 13 (a1)))) → Q σ23))
set_option maxHeartbeats 4000000 in
set_option maxRecDepth 8000 in
theorem w_mnEnter (z : Value) (σ : sg_S) (a1 : Int) (Q : sg_S → Prop) (ra1 : sg_R a1) (w : V_mnEnter σ a1 Q) : wx z 1 119 0 [(0, .inr (.inr (.ref 45))), (1, .inl (a1))] [] σ (fun v σ' => v = none ∧ sg_F [46, 47, 8045, 9045] σ σ' ∧ Q σ') := by
  unfold V_mnEnter at w
  refine wk_b tt_119 4 (pc' := 8) (ls' := [(0, .inr (.inr (.ref 45))), (1, .inl (a1))]) (st' := [.inl (a1), .inr (.inr (.ref 23))]) (σ' := σ) rfl ?_
  refine wk_callp tt_119 rfl rfl rfl rfl rfl tt_5 rfl (by decide) (at_i0 z σ 23 12 (a1) rfl (by decide) ra1) ?_
  show wx z 1 119 11 [(0, .inr (.inr (.ref 45))), (1, .inl (a1))] [.inl ((sx_at σ 23 12 (a1)))] σ (fun v σ' => v = none ∧ sg_F [46, 47, 8045, 9045] σ σ' ∧ Q σ')
  refine wk_b tt_119 3 (pc' := 14) (ls' := [(3, .inl (0)), (2, .inl ((sx_at σ 23 12 (a1)))), (0, .inr (.inr (.ref 45))), (1, .inl (a1))]) (st' := []) (σ' := σ) rfl ?_
  obtain ⟨I4, X6, ⟨μ5, w11⟩, w12, w13⟩ := w
  have ex15 : ∀ (σ2 : sg_S), sg_F [46] σ σ2 → X6 σ2 → wx z 1 119 66 [(0, .inr (.inr (.ref 45))), (1, .inl (a1)), (2, .inl ((sx_at σ 23 12 (a1))))] [] σ2 (fun v σ' => v = none ∧ sg_F [46, 47, 8045, 9045] σ σ' ∧ Q σ') := by
    intro σ2 hF3 w
    have w := w13 σ2 hF3 w
    obtain ⟨c16, w⟩ := w
    refine wk_b tt_119 6 (pc' := 76) (ls' := [(0, .inr (.inr (.ref 45))), (1, .inl (a1)), (2, .inl ((sx_at σ 23 12 (a1))))]) (st' := []) (σ' := (sg_w σ2 45 7 (((sg_g σ2 45 7) - (sx_at σ 23 12 (a1)))))) rfl ?_
    rw [show (sg_g σ2 45 7) = (sg_g σ 45 7) from by rw [sg_F_ga hF3 rfl]]
    generalize hs18 : (sg_w σ2 45 7 (((sg_g σ 45 7) - (sx_at σ 23 12 (a1))))) = σ17
    have w := w σ17 hs18.symm
    have hF19 : sg_F [8045] σ2 σ17 := by rw [← hs18]; exact sg_F_w (sg_F_r _ _) rfl _
    refine wk_b tt_119 5 (pc' := 85) (ls' := [(0, .inr (.inr (.ref 45))), (1, .inl (a1)), (2, .inl ((sx_at σ 23 12 (a1))))]) (st' := [.inl ((sg_g σ17 45 8)), .inl (a1), .inr (.inr (.ref 47))]) (σ' := σ17) rfl ?_
    rw [show (sg_g σ17 45 8) = (sg_g σ 45 8) from by rw [sg_F_g hF19 rfl, sg_F_ga hF3 rfl]]
    refine wk_callp tt_119 rfl rfl rfl rfl rfl tt_21 rfl (by decide) (pt_i0 z σ17 47 13 (a1) ((sg_g σ 45 8)) rfl (by decide) ra1) ?_
    show wx z 1 119 88 [(0, .inr (.inr (.ref 45))), (1, .inl (a1)), (2, .inl ((sx_at σ 23 12 (a1))))] [] (sx_put σ17 47 13 (a1) ((sg_g σ 45 8))) (fun v σ' => v = none ∧ sg_F [46, 47, 8045, 9045] σ σ' ∧ Q σ')
    generalize hs21 : (sx_put σ17 47 13 (a1) ((sg_g σ 45 8))) = σ20
    have w := w σ20 hs21.symm
    have hF22 : sg_F [47] σ17 σ20 := by rw [← hs21]; exact sg_F_p (sg_F_r _ _) rfl _ _ _
    refine wk_b tt_119 5 (pc' := 97) (ls' := [(0, .inr (.inr (.ref 45))), (1, .inl (a1)), (2, .inl ((sx_at σ 23 12 (a1))))]) (st' := [.inl (a1), .inr (.inr (.ref 31)), .inr (.inr (.ref 45))]) (σ' := σ20) rfl ?_
    refine wk_callp tt_119 rfl rfl rfl rfl rfl tt_5 rfl (by decide) (at_i0 z σ20 31 13 (a1) rfl (by decide) ra1) ?_
    show wx z 1 119 100 [(0, .inr (.inr (.ref 45))), (1, .inl (a1)), (2, .inl ((sx_at σ 23 12 (a1))))] [.inl ((sx_at σ20 31 13 (a1))), .inr (.inr (.ref 45))] σ20 (fun v σ' => v = none ∧ sg_F [46, 47, 8045, 9045] σ σ' ∧ Q σ')
    rw [sx_F (a := 31) (n := 13) (i := (a1)) hF22 rfl, sx_F (a := 31) (n := 13) (i := (a1)) hF19 rfl, sx_F (a := 31) (n := 13) (i := (a1)) hF3 rfl]
    refine wk_b tt_119 1 (pc' := 103) (ls' := [(0, .inr (.inr (.ref 45))), (1, .inl (a1)), (2, .inl ((sx_at σ 23 12 (a1))))]) (st' := []) (σ' := (sg_w σ20 45 8 ((sx_at σ 31 13 (a1))))) rfl ?_
    generalize hs24 : (sg_w σ20 45 8 ((sx_at σ 31 13 (a1)))) = σ23
    have w := w σ23 hs24.symm
    have hF25 : sg_F [9045] σ20 σ23 := by rw [← hs24]; exact sg_F_w (sg_F_r _ _) rfl _
    exact wk_rV tt_119 rfl rfl ⟨rfl, (sg_F_t (sg_F_t (sg_F_t (sg_F_t (sg_F_r [46, 47, 8045, 9045] σ) (sg_F_m (L := [46, 47, 8045, 9045]) hF3 rfl)) (sg_F_m (L := [46, 47, 8045, 9045]) hF19 rfl)) (sg_F_m (L := [46, 47, 8045, 9045]) hF22 rfl)) (sg_F_m (L := [46, 47, 8045, 9045]) hF25 rfl)), w⟩
  have lp10 : ∀ (n14 : Nat) (v1 : Int) (σ2 : sg_S), sg_R v1 → sg_F [46] σ σ2 → I4 n14 v1 σ2 → wx z 1 119 14 [(0, .inr (.inr (.ref 45))), (1, .inl (a1)), (2, .inl ((sx_at σ 23 12 (a1)))), (3, .inl (v1))] [] σ2 (fun v σ' => v = none ∧ sg_F [46, 47, 8045, 9045] σ σ' ∧ Q σ') := by
    intro n14
    induction n14 using Nat.strongRecOn with
    | _ n14 ih8 =>
      intro v1 σ2 r7 hF3 w
      have w := w12 n14 v1 σ2 r7 hF3 w
      refine wk_b tt_119 2 (pc' := 16) (ls' := [(0, .inr (.inr (.ref 45))), (1, .inl (a1)), (2, .inl ((sx_at σ 23 12 (a1)))), (3, .inl (v1))]) (st' := [.inl ((sx_at σ 23 12 (a1))), .inl (v1)]) (σ' := σ2) rfl ?_
      refine wk_if2 tt_119 (tgt := 66) rfl rfl r7 (sx_R ..) (fun (h26 : (sx_at σ 23 12 (a1)) ≤ v1) => ?_) (fun (h26 : v1 < (sx_at σ 23 12 (a1))) => ?_)
      ·
        have w := w.1 h26
        exact wk_ls [(0, .inr (.inr (.ref 45))), (1, .inl (a1)), (2, .inl ((sx_at σ 23 12 (a1))))] rfl ⟨rfl, rfl, rfl, trivial⟩ (ex15  σ2  (sg_F_t (sg_F_r [46] σ) (sg_F_m (L := [46]) hF3 rfl)) w)
      ·
        have w := w.2 h26
        refine wk_b tt_119 2 (pc' := 22) (ls' := [(0, .inr (.inr (.ref 45))), (1, .inl (a1)), (2, .inl ((sx_at σ 23 12 (a1)))), (3, .inl (v1))]) (st' := [.inl (6), .inl (v1)]) (σ' := σ2) rfl ?_
        refine wk_if2 tt_119 (tgt := 66) rfl rfl r7 (by decide) (fun (h27 : 6 ≤ v1) => ?_) (fun (h27 : v1 < 6) => ?_)
        ·
          have w := w.1 h27
          exact wk_ls [(0, .inr (.inr (.ref 45))), (1, .inl (a1)), (2, .inl ((sx_at σ 23 12 (a1))))] rfl ⟨rfl, rfl, rfl, trivial⟩ (ex15  σ2  (sg_F_t (sg_F_r [46] σ) (sg_F_m (L := [46]) hF3 rfl)) w)
        ·
          have w := w.2 h27
          refine wk_b tt_119 6 (pc' := 37) (ls' := [(0, .inr (.inr (.ref 45))), (1, .inl (a1)), (2, .inl ((sx_at σ 23 12 (a1)))), (3, .inl (v1))]) (st' := [.inl (a1), .inr (.inr (.ref 24)), .inr (.inr (.ref 46))]) (σ' := σ2) rfl ?_
          refine wk_callp tt_119 rfl rfl rfl rfl rfl tt_5 rfl (by decide) (at_i0 z σ2 24 12 (a1) rfl (by decide) ra1) ?_
          show wx z 1 119 40 [(0, .inr (.inr (.ref 45))), (1, .inl (a1)), (2, .inl ((sx_at σ 23 12 (a1)))), (3, .inl (v1))] [.inl ((sx_at σ2 24 12 (a1))), .inr (.inr (.ref 46))] σ2 (fun v σ' => v = none ∧ sg_F [46, 47, 8045, 9045] σ σ' ∧ Q σ')
          rw [sx_F (a := 24) (n := 12) (i := (a1)) hF3 rfl]
          obtain ⟨c28, w⟩ := w
          obtain ⟨c29, w⟩ := w
          obtain ⟨c30, w⟩ := w
          refine wk_b tt_119 10 (pc' := 54) (ls' := [(0, .inr (.inr (.ref 45))), (1, .inl (a1)), (2, .inl ((sx_at σ 23 12 (a1)))), (3, .inl (v1))]) (st' := [.inl ((((sg_g σ2 45 7) - (sx_at σ 23 12 (a1))) + v1)), .inr (.inr (.ref 48)), .inl (((sx_at σ 24 12 (a1)) + v1)), .inr (.inr (.ref 46))]) (σ' := σ2) rfl ?_
          rw [show (sg_g σ2 45 7) = (sg_g σ 45 7) from by rw [sg_F_ga hF3 rfl]]
          refine wk_callp tt_119 rfl rfl rfl rfl rfl tt_5 rfl (by decide) (at_i0 z σ2 48 3200 ((((sg_g σ 45 7) - (sx_at σ 23 12 (a1))) + v1)) rfl (by decide) c30) ?_
          show wx z 1 119 57 [(0, .inr (.inr (.ref 45))), (1, .inl (a1)), (2, .inl ((sx_at σ 23 12 (a1)))), (3, .inl (v1))] [.inl ((sx_at σ2 48 3200 ((((sg_g σ 45 7) - (sx_at σ 23 12 (a1))) + v1)))), .inl (((sx_at σ 24 12 (a1)) + v1)), .inr (.inr (.ref 46))] σ2 (fun v σ' => v = none ∧ sg_F [46, 47, 8045, 9045] σ σ' ∧ Q σ')
          rw [sx_F (a := 48) (n := 3200) (i := ((((sg_g σ 45 7) - (sx_at σ 23 12 (a1))) + v1))) hF3 rfl]
          refine wk_callp tt_119 rfl rfl rfl rfl rfl tt_21 rfl (by decide) (pt_i0 z σ2 46 272 (((sx_at σ 24 12 (a1)) + v1)) ((sx_at σ 48 3200 ((((sg_g σ 45 7) - (sx_at σ 23 12 (a1))) + v1)))) rfl (by decide) c28) ?_
          show wx z 1 119 60 [(0, .inr (.inr (.ref 45))), (1, .inl (a1)), (2, .inl ((sx_at σ 23 12 (a1)))), (3, .inl (v1))] [] (sx_put σ2 46 272 (((sx_at σ 24 12 (a1)) + v1)) ((sx_at σ 48 3200 ((((sg_g σ 45 7) - (sx_at σ 23 12 (a1))) + v1))))) (fun v σ' => v = none ∧ sg_F [46, 47, 8045, 9045] σ σ' ∧ Q σ')
          generalize hs32 : (sx_put σ2 46 272 (((sx_at σ 24 12 (a1)) + v1)) ((sx_at σ 48 3200 ((((sg_g σ 45 7) - (sx_at σ 23 12 (a1))) + v1))))) = σ31
          have w := w σ31 hs32.symm
          have hF33 : sg_F [46] σ2 σ31 := by rw [← hs32]; exact sg_F_p (sg_F_r _ _) rfl _ _ _
          obtain ⟨c34, w⟩ := w
          refine wk_b tt_119 2 (pc' := 14) (ls' := [(3, .inl ((v1 + 1))), (0, .inr (.inr (.ref 45))), (1, .inl (a1)), (2, .inl ((sx_at σ 23 12 (a1))))]) (st' := []) (σ' := σ31) rfl ?_
          obtain ⟨m35, hm35, w⟩ := w
          exact wk_ls [(0, .inr (.inr (.ref 45))), (1, .inl (a1)), (2, .inl ((sx_at σ 23 12 (a1)))), (3, .inl ((v1 + 1)))] rfl ⟨rfl, rfl, rfl, rfl, trivial⟩ (ih8 m35 hm35 ((v1 + 1)) σ31 c34 (sg_F_t (sg_F_t (sg_F_r [46] σ) (sg_F_m (L := [46]) hF3 rfl)) (sg_F_m (L := [46]) hF33 rfl)) w)
  exact wk_ls [(0, .inr (.inr (.ref 45))), (1, .inl (a1)), (2, .inl ((sx_at σ 23 12 (a1)))), (3, .inl (0))] rfl ⟨rfl, rfl, rfl, rfl, trivial⟩ (lp10 μ5 (0) σ (by decide) (sg_F_r _ _) w11)
-- NestedVectors$Machine.run
