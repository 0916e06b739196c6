/-! What the methods of the nested run of the class ask for (3). -/
def V_nPermute (σ : sg_S) (a1 : Int) (a2 : Int) (Q : sg_S → Prop) : Prop := (((v_nLengthOf σ (a1)) = (v_nLengthOf σ (a2)) → V_nAddAll σ (a2) (fun σ5 => sg_F [54, 22045] σ σ5 → V_yInvert σ5 ((v_nLengthOf σ (a1))) (fun q10 σ11 => (q10 = 0 ∨ q10 = 1) → sg_F [55] σ5 σ11 → ((¬ q10 = 0 → ∀ σ17, σ17 = (sg_w σ11 45 21 (0)) → (∃ (I23 : Nat → Int → sg_S → Prop) (X25 : sg_S → Prop), (∃ n, I23 n (0) σ17) ∧ (∀ (n33 : Nat) (v20 : Int) (σ21 : sg_S), sg_R v20 → sg_F [54, 22045] σ17 σ21 → I23 n33 v20 σ21 → (((v_nLengthOf σ (a1)) ≤ v20 → X25 σ21) ∧ (v20 < (v_nLengthOf σ (a1)) → p_nItemOf σ (a1) ((sx_at σ11 55 200 (v20))) ∧ V_nAdd σ21 ((v_nItemOf σ (a1) ((sx_at σ11 55 200 (v20))))) (fun σ45 => sg_F [54, 22045] σ21 σ45 → sg_R (v20 + 1) ∧ (∃ m, m < n33 ∧ I23 m ((v20 + 1)) σ45))))) ∧ (∀ (σ21 : sg_S), sg_F [54, 22045] σ17 σ21 → X25 σ21 → V_nGive σ21  (fun σ36 => sg_F [48, 53, 8045, 11045, 21045, 22045, 23045] σ21 σ36 → Q σ36)))) ∧ (q10 = 0 → ∀ σ52, σ52 = (sg_w σ11 45 10 (6)) → Q σ52))))) ∧ (¬ (v_nLengthOf σ (a1)) = (v_nLengthOf σ (a2)) → ∀ σ55, σ55 = (sg_w σ 45 10 (3)) → Q σ55))
set_option maxHeartbeats 4000000 in
set_option maxRecDepth 8000 in
theorem w_nPermute (z : Value) (σ : sg_S) (a1 : Int) (a2 : Int) (Q : sg_S → Prop) (ra1 : sg_R a1) (ra2 : sg_R a2) (w : V_nPermute σ a1 a2 Q) : wx z 3 154 0 [(0, .inr (.inr (.ref 45))), (1, .inl (a1)), (2, .inl (a2))] [] σ (fun v σ' => v = none ∧ sg_F [48, 53, 54, 55, 8045, 11045, 21045, 22045, 23045] σ σ' ∧ Q σ') := by
  unfold V_nPermute at w
  refine wk_b tt_154 2 (pc' := 2) (ls' := [(0, .inr (.inr (.ref 45))), (1, .inl (a1)), (2, .inl (a2))]) (st' := [.inl (a1), .inr (.inr (.ref 45))]) (σ' := σ) rfl ?_
  refine wk_callp tt_154 rfl rfl rfl rfl rfl tt_149 rfl (by decide) (w_nLengthOf z σ (a1) ra1 ) ?_
  have r1 := vr_nLengthOf σ  (a1) ra1 
  refine wk_b tt_154 4 (pc' := 9) (ls' := [(3, .inl ((v_nLengthOf σ (a1)))), (0, .inr (.inr (.ref 45))), (1, .inl (a1)), (2, .inl (a2))]) (st' := [.inl (a2), .inr (.inr (.ref 45)), .inl ((v_nLengthOf σ (a1)))]) (σ' := σ) rfl ?_
  refine wk_callp tt_154 rfl rfl rfl rfl rfl tt_149 rfl (by decide) (w_nLengthOf z σ (a2) ra2 ) ?_
  have r2 := vr_nLengthOf σ  (a2) ra2 
  refine wk_if2 tt_154 (tgt := 21) rfl rfl r1 r2 (fun (h3 : (v_nLengthOf σ (a1)) = (v_nLengthOf σ (a2))) => ?_) (fun (h3 : ¬ (v_nLengthOf σ (a1)) = (v_nLengthOf σ (a2))) => ?_)
  ·
    have w := w.1 h3
    refine wk_b tt_154 2 (pc' := 23) (ls' := [(3, .inl ((v_nLengthOf σ (a1)))), (0, .inr (.inr (.ref 45))), (1, .inl (a1)), (2, .inl (a2))]) (st' := [.inl (a2), .inr (.inr (.ref 45))]) (σ' := σ) rfl ?_
    refine wk_call tt_154 rfl rfl rfl rfl rfl tt_130 rfl (by decide) (w_nAddAll z σ (a2) _ ra2 w) (fun u9 σ5 hq7 => ?_)
    obtain ⟨rfl, hF6, w⟩ := hq7
    have w := w hF6
    refine wk_b tt_154 5 (pc' := 35) (ls' := [(3, .inl ((v_nLengthOf σ (a1)))), (0, .inr (.inr (.ref 45))), (1, .inl (a1)), (2, .inl (a2))]) (st' := [.inr (.inr (.ref 55)), .inl ((v_nLengthOf σ (a1))), .inr (.inr (.ref 54))]) (σ' := σ5) rfl ?_
    refine wk_call tt_154 rfl rfl rfl rfl rfl tt_17 rfl (by decide) (w_yInvert z σ5 ((v_nLengthOf σ (a1))) _ r1 w) (fun u15 σ11 hq13 => ?_)
    obtain ⟨q10, rfl, r14, hF12, w⟩ := hq13
    have w := w r14 hF12
    refine wk_if tt_154 (tgt := 48) rfl rfl (sg_Rz r14) (fun (h16 : ¬ q10 = 0) => ?_) (fun (h16 : q10 = 0) => ?_)
    ·
      have w := w.1 h16
      refine wk_b tt_154 3 (pc' := 53) (ls' := [(3, .inl ((v_nLengthOf σ (a1)))), (0, .inr (.inr (.ref 45))), (1, .inl (a1)), (2, .inl (a2))]) (st' := []) (σ' := (sg_w σ11 45 21 (0))) rfl ?_
      generalize hs18 : (sg_w σ11 45 21 (0)) = σ17
      have w := w σ17 hs18.symm
      have hF19 : sg_F [22045] σ11 σ17 := by rw [← hs18]; exact sg_F_w (sg_F_r _ _) rfl _
      refine wk_b tt_154 2 (pc' := 56) (ls' := [(4, .inl (0)), (3, .inl ((v_nLengthOf σ (a1)))), (0, .inr (.inr (.ref 45))), (1, .inl (a1)), (2, .inl (a2))]) (st' := []) (σ' := σ17) rfl ?_
      obtain ⟨I23, X25, ⟨μ24, w30⟩, w31, w32⟩ := w
      have ex34 : ∀ (σ21 : sg_S), sg_F [54, 22045] σ17 σ21 → X25 σ21 → wx z 3 154 86 [(0, .inr (.inr (.ref 45)))] [] σ21 (fun v σ' => v = none ∧ sg_F [48, 53, 54, 55, 8045, 11045, 21045, 22045, 23045] σ σ' ∧ Q σ') := by
        intro σ21 hF22 w
        have w := w32 σ21 hF22 w
        refine wk_b tt_154 1 (pc' := 87) (ls' := [(0, .inr (.inr (.ref 45)))]) (st' := [.inr (.inr (.ref 45))]) (σ' := σ21) rfl ?_
        refine wk_call tt_154 rfl rfl rfl rfl rfl tt_144 rfl (by decide) (w_nGive z σ21  _  w) (fun u40 σ36 hq38 => ?_)
        obtain ⟨rfl, hF37, w⟩ := hq38
        have w := w hF37
        exact wk_rV tt_154 rfl rfl ⟨rfl, (sg_F_t (sg_F_t (sg_F_t (sg_F_t (sg_F_t (sg_F_r [48, 53, 54, 55, 8045, 11045, 21045, 22045, 23045] σ) (sg_F_m (L := [48, 53, 54, 55, 8045, 11045, 21045, 22045, 23045]) hF6 rfl)) (sg_F_m (L := [48, 53, 54, 55, 8045, 11045, 21045, 22045, 23045]) hF12 rfl)) (sg_F_m (L := [48, 53, 54, 55, 8045, 11045, 21045, 22045, 23045]) hF19 rfl)) (sg_F_m (L := [48, 53, 54, 55, 8045, 11045, 21045, 22045, 23045]) hF22 rfl)) (sg_F_m (L := [48, 53, 54, 55, 8045, 11045, 21045, 22045, 23045]) hF37 rfl)), w⟩
      have lp29 : ∀ (n33 : Nat) (v20 : Int) (σ21 : sg_S), sg_R v20 → sg_F [54, 22045] σ17 σ21 → I23 n33 v20 σ21 → wx z 3 154 56 [(0, .inr (.inr (.ref 45))), (1, .inl (a1)), (3, .inl ((v_nLengthOf σ (a1)))), (4, .inl (v20))] [] σ21 (fun v σ' => v = none ∧ sg_F [48, 53, 54, 55, 8045, 11045, 21045, 22045, 23045] σ σ' ∧ Q σ') := by
        intro n33
        induction n33 using Nat.strongRecOn with
        | _ n33 ih27 =>
          intro v20 σ21 r26 hF22 w
          have w := w31 n33 v20 σ21 r26 hF22 w
          refine wk_b tt_154 2 (pc' := 59) (ls' := [(0, .inr (.inr (.ref 45))), (1, .inl (a1)), (3, .inl ((v_nLengthOf σ (a1)))), (4, .inl (v20))]) (st' := [.inl ((v_nLengthOf σ (a1))), .inl (v20)]) (σ' := σ21) rfl ?_
          refine wk_if2 tt_154 (tgt := 86) rfl rfl r26 r1 (fun (h41 : (v_nLengthOf σ (a1)) ≤ v20) => ?_) (fun (h41 : v20 < (v_nLengthOf σ (a1))) => ?_)
          ·
            have w := w.1 h41
            exact wk_ls [(0, .inr (.inr (.ref 45)))] rfl ⟨rfl, trivial⟩ (ex34  σ21  (sg_F_t (sg_F_r [54, 22045] σ17) (sg_F_m (L := [54, 22045]) hF22 rfl)) w)
          ·
            have w := w.2 h41
            refine wk_b tt_154 6 (pc' := 71) (ls' := [(0, .inr (.inr (.ref 45))), (1, .inl (a1)), (3, .inl ((v_nLengthOf σ (a1)))), (4, .inl (v20))]) (st' := [.inl (v20), .inr (.inr (.ref 55)), .inl (a1), .inr (.inr (.ref 45)), .inr (.inr (.ref 45))]) (σ' := σ21) rfl ?_
            refine wk_callp tt_154 rfl rfl rfl rfl rfl tt_5 rfl (by decide) (at_i0 z σ21 55 200 (v20) rfl (by decide) r26) ?_
            show wx z 3 154 74 [(0, .inr (.inr (.ref 45))), (1, .inl (a1)), (3, .inl ((v_nLengthOf σ (a1)))), (4, .inl (v20))] [.inl ((sx_at σ21 55 200 (v20))), .inl (a1), .inr (.inr (.ref 45)), .inr (.inr (.ref 45))] σ21 (fun v σ' => v = none ∧ sg_F [48, 53, 54, 55, 8045, 11045, 21045, 22045, 23045] σ σ' ∧ Q σ')
            rw [sx_F (a := 55) (n := 200) (i := (v20)) hF22 rfl, sx_F (a := 55) (n := 200) (i := (v20)) hF19 rfl]
            obtain ⟨c42, w⟩ := w
            have c42 : p_nItemOf σ21 (a1) ((sx_at σ11 55 200 (v20))) := by
              rw [pF_nItemOf hF22 rfl, pF_nItemOf hF19 rfl, pF_nItemOf hF12 rfl, pF_nItemOf hF6 rfl]; exact c42
            refine wk_callp tt_154 rfl rfl rfl rfl rfl tt_145 rfl (by decide) (w_nItemOf z σ21 (a1) ((sx_at σ11 55 200 (v20))) ra1 (sx_R ..) c42) ?_
            rw [vF_nItemOf hF22 rfl, vF_nItemOf hF19 rfl, vF_nItemOf hF12 rfl, vF_nItemOf hF6 rfl]
            have r43 := vr_nItemOf σ  (a1) ((sx_at σ11 55 200 (v20))) ra1 (sx_R ..) (by have q := c42; rw [pF_nItemOf hF22 rfl, pF_nItemOf hF19 rfl, pF_nItemOf hF12 rfl, pF_nItemOf hF6 rfl] at q; exact q)
            refine wk_call tt_154 rfl rfl rfl rfl rfl tt_129 rfl (by decide) (w_nAdd z σ21 ((v_nItemOf σ (a1) ((sx_at σ11 55 200 (v20))))) _ r43 w) (fun u49 σ45 hq47 => ?_)
            obtain ⟨rfl, hF46, w⟩ := hq47
            have w := w hF46
            obtain ⟨c50, w⟩ := w
            refine wk_b tt_154 2 (pc' := 56) (ls' := [(4, .inl ((v20 + 1))), (0, .inr (.inr (.ref 45))), (1, .inl (a1)), (3, .inl ((v_nLengthOf σ (a1))))]) (st' := []) (σ' := σ45) rfl ?_
            obtain ⟨m51, hm51, w⟩ := w
            exact wk_ls [(0, .inr (.inr (.ref 45))), (1, .inl (a1)), (3, .inl ((v_nLengthOf σ (a1)))), (4, .inl ((v20 + 1)))] rfl ⟨rfl, rfl, rfl, rfl, trivial⟩ (ih27 m51 hm51 ((v20 + 1)) σ45 c50 (sg_F_t (sg_F_t (sg_F_r [54, 22045] σ17) (sg_F_m (L := [54, 22045]) hF22 rfl)) (sg_F_m (L := [54, 22045]) hF46 rfl)) w)
      exact wk_ls [(0, .inr (.inr (.ref 45))), (1, .inl (a1)), (3, .inl ((v_nLengthOf σ (a1)))), (4, .inl (0))] rfl ⟨rfl, rfl, rfl, rfl, trivial⟩ (lp29 μ24 (0) σ17 (by decide) (sg_F_r _ _) w30)
    ·
      have w := w.2 h16
      refine wk_b tt_154 3 (pc' := 47) (ls' := [(3, .inl ((v_nLengthOf σ (a1)))), (0, .inr (.inr (.ref 45))), (1, .inl (a1)), (2, .inl (a2))]) (st' := []) (σ' := (sg_w σ11 45 10 (6))) rfl ?_
      generalize hs53 : (sg_w σ11 45 10 (6)) = σ52
      have w := w σ52 hs53.symm
      have hF54 : sg_F [11045] σ11 σ52 := by rw [← hs53]; exact sg_F_w (sg_F_r _ _) rfl _
      exact wk_rV tt_154 rfl rfl ⟨rfl, (sg_F_t (sg_F_t (sg_F_t (sg_F_r [48, 53, 54, 55, 8045, 11045, 21045, 22045, 23045] σ) (sg_F_m (L := [48, 53, 54, 55, 8045, 11045, 21045, 22045, 23045]) hF6 rfl)) (sg_F_m (L := [48, 53, 54, 55, 8045, 11045, 21045, 22045, 23045]) hF12 rfl)) (sg_F_m (L := [48, 53, 54, 55, 8045, 11045, 21045, 22045, 23045]) hF54 rfl)), w⟩
  ·
    have w := w.2 h3
    refine wk_b tt_154 3 (pc' := 20) (ls' := [(3, .inl ((v_nLengthOf σ (a1)))), (0, .inr (.inr (.ref 45))), (1, .inl (a1)), (2, .inl (a2))]) (st' := []) (σ' := (sg_w σ 45 10 (3))) rfl ?_
    generalize hs56 : (sg_w σ 45 10 (3)) = σ55
    have w := w σ55 hs56.symm
    have hF57 : sg_F [11045] σ σ55 := by rw [← hs56]; exact sg_F_w (sg_F_r _ _) rfl _
    exact wk_rV tt_154 rfl rfl ⟨rfl, (sg_F_t (sg_F_r [48, 53, 54, 55, 8045, 11045, 21045, 22045, 23045] σ) (sg_F_m (L := [48, 53, 54, 55, 8045, 11045, 21045, 22045, 23045]) hF57 rfl)), w⟩
-- NestedVectors$NestedRun.prepare
def V_nPrepare (σ : sg_S) (Q : sg_S → Prop) : Prop := ∀ σ1, σ1 = (sg_w σ 45 20 (0)) → ∀ σ4, σ4 = (sg_w σ1 45 21 (0)) → ∀ σ7, σ7 = (sg_w σ4 45 22 (0)) → ∀ σ10, σ10 = (sg_w σ7 45 23 (0)) → Q σ10
set_option maxHeartbeats 4000000 in
set_option maxRecDepth 8000 in
theorem w_nPrepare (z : Value) (σ : sg_S) (Q : sg_S → Prop)  (w : V_nPrepare σ  Q) : wx z 0 155 0 [(0, .inr (.inr (.ref 45)))] [] σ (fun v σ' => v = none ∧ sg_F [21045, 22045, 23045, 24045] σ σ' ∧ Q σ') := by
  unfold V_nPrepare at w
  refine wk_b tt_155 3 (pc' := 5) (ls' := [(0, .inr (.inr (.ref 45)))]) (st' := []) (σ' := (sg_w σ 45 20 (0))) rfl ?_
  generalize hs2 : (sg_w σ 45 20 (0)) = σ1
  have w := w σ1 hs2.symm
  have hF3 : sg_F [21045] σ σ1 := by rw [← hs2]; exact sg_F_w (sg_F_r _ _) rfl _
  refine wk_b tt_155 3 (pc' := 10) (ls' := [(0, .inr (.inr (.ref 45)))]) (st' := []) (σ' := (sg_w σ1 45 21 (0))) rfl ?_
  generalize hs5 : (sg_w σ1 45 21 (0)) = σ4
  have w := w σ4 hs5.symm
  have hF6 : sg_F [22045] σ1 σ4 := by rw [← hs5]; exact sg_F_w (sg_F_r _ _) rfl _
  refine wk_b tt_155 3 (pc' := 15) (ls' := [(0, .inr (.inr (.ref 45)))]) (st' := []) (σ' := (sg_w σ4 45 22 (0))) rfl ?_
  generalize hs8 : (sg_w σ4 45 22 (0)) = σ7
  have w := w σ7 hs8.symm
  have hF9 : sg_F [23045] σ4 σ7 := by rw [← hs8]; exact sg_F_w (sg_F_r _ _) rfl _
  refine wk_b tt_155 3 (pc' := 20) (ls' := [(0, .inr (.inr (.ref 45)))]) (st' := []) (σ' := (sg_w σ7 45 23 (0))) rfl ?_
  generalize hs11 : (sg_w σ7 45 23 (0)) = σ10
  have w := w σ10 hs11.symm
  have hF12 : sg_F [24045] σ7 σ10 := by rw [← hs11]; exact sg_F_w (sg_F_r _ _) rfl _
  exact wk_rV tt_155 rfl rfl ⟨rfl, (sg_F_t (sg_F_t (sg_F_t (sg_F_t (sg_F_r [21045, 22045, 23045, 24045] σ) (sg_F_m (L := [21045, 22045, 23045, 24045]) hF3 rfl)) (sg_F_m (L := [21045, 22045, 23045, 24045]) hF6 rfl)) (sg_F_m (L := [21045, 22045, 23045, 24045]) hF9 rfl)) (sg_F_m (L := [21045, 22045, 23045, 24045]) hF12 rfl)), w⟩
-- NestedVectors.fold
def V_yFold (σ : sg_S) (a0 : Int) (a1 : Int) (a2 : Int) (Q : Int → sg_S → Prop) : Prop := ((¬ a0 = 269 → ((¬ a0 = 270 → ∀ v3 : Int, v3 = (if a2 < a1 then a2 else a1) → sg_R v3 → Q (v3) σ) ∧ (a0 = 270 → ∀ v6 : Int, v6 = (if a1 < a2 then a2 else a1) → sg_R v6 → Q (v6) σ))) ∧ (a0 = 269 → Q ((sg_n (a1 + a2))) σ))
set_option maxHeartbeats 4000000 in
set_option maxRecDepth 8000 in
theorem w_yFold (z : Value) (σ : sg_S) (a0 : Int) (a1 : Int) (a2 : Int) (Q : Int → sg_S → Prop) (ra0 : sg_R a0) (ra1 : sg_R a1) (ra2 : sg_R a2) (w : V_yFold σ a0 a1 a2 Q) : wx z 1 16 0 [(0, .inl (a0)), (1, .inl (a1)), (2, .inl (a2))] [] σ (fun v σ' => ∃ q, v = some (.inl q) ∧ sg_R q ∧ σ = σ' ∧ Q q σ') := by
  unfold V_yFold at w
  refine wk_b tt_16 2 (pc' := 4) (ls' := [(0, .inl (a0)), (1, .inl (a1)), (2, .inl (a2))]) (st' := [.inl (269), .inl (a0)]) (σ' := σ) rfl ?_
  refine wk_if2 tt_16 (tgt := 13) rfl rfl ra0 (by decide) (fun (h1 : ¬ a0 = 269) => ?_) (fun (h1 : a0 = 269) => ?_)
  ·
    have w := w.1 h1
    refine wk_b tt_16 2 (pc' := 17) (ls' := [(0, .inl (a0)), (1, .inl (a1)), (2, .inl (a2))]) (st' := [.inl (270), .inl (a0)]) (σ' := σ) rfl ?_
    refine wk_if2 tt_16 (tgt := 28) rfl rfl ra0 (by decide) (fun (h2 : ¬ a0 = 270) => ?_) (fun (h2 : a0 = 270) => ?_)
    ·
      have w := w.1 h2
      refine wk_b tt_16 2 (pc' := 30) (ls' := [(0, .inl (a0)), (1, .inl (a1)), (2, .inl (a2))]) (st' := [.inl (a2), .inl (a1)]) (σ' := σ) rfl ?_
      refine wk_min (k0 := 0) tt_16 rfl ra1 ra2 rfl ?_
      obtain ⟨v3, e4⟩ : ∃ q, q = (if a2 < a1 then a2 else a1) := ⟨_, rfl⟩
      have r5 : sg_R v3 := by rw [e4]; split <;> first | exact ra1 | exact ra2
      rw [← e4]
      have w := w v3 e4 r5
      exact wk_rI tt_16 rfl rfl ⟨_, rfl, r5, rfl, w⟩
    ·
      have w := w.2 h2
      refine wk_b tt_16 2 (pc' := 22) (ls' := [(0, .inl (a0)), (1, .inl (a1)), (2, .inl (a2))]) (st' := [.inl (a2), .inl (a1)]) (σ' := σ) rfl ?_
      refine wk_max (k0 := 0) tt_16 rfl ra1 ra2 rfl ?_
      obtain ⟨v6, e7⟩ : ∃ q, q = (if a1 < a2 then a2 else a1) := ⟨_, rfl⟩
      have r8 : sg_R v6 := by rw [e7]; split <;> first | exact ra1 | exact ra2
      rw [← e7]
      have w := w v6 e7 r8
      refine wk_b tt_16 1 (pc' := 33) (ls' := [(0, .inl (a0)), (1, .inl (a1)), (2, .inl (a2))]) (st' := [.inl (v6)]) (σ' := σ) rfl ?_
      exact wk_rI tt_16 rfl rfl ⟨_, rfl, r8, rfl, w⟩
  ·
    have w := w.2 h1
    refine wk_b tt_16 3 (pc' := 10) (ls' := [(0, .inl (a0)), (1, .inl (a1)), (2, .inl (a2))]) (st' := [.inl ((a1 + a2))]) (σ' := σ) rfl ?_
    refine wk_n ?_
    refine wk_b tt_16 1 (pc' := 33) (ls' := [(0, .inl (a0)), (1, .inl (a1)), (2, .inl (a2))]) (st' := [.inl ((sg_n (a1 + a2)))]) (σ' := σ) rfl ?_
    exact wk_rI tt_16 rfl rfl ⟨_, rfl, (sg_Rn _), rfl, w⟩
-- NestedVectors$NestedRun.reduce
def V_nReduce (σ : sg_S) (a1 : Int) (a2 : Int) (Q : sg_S → Prop) : Prop := ((¬ (v_nLengthOf σ (a2)) = 0 → ((¬ (v_nLengthOf σ (a2)) = 0 → p_nItemOf σ (a2) (0) ∧ True) ∧ ((v_nLengthOf σ (a2)) = 0 → True)) ∧ ∀ v5 : Int, v5 = (if ¬ (v_nLengthOf σ (a2)) = 0 then (v_nItemOf σ (a2) (0)) else (0 : Int)) → sg_R v5 → (∃ (I12 : Nat → Int → Int → Prop) (X14 : Int → Prop), (∃ n, I12 n (v5) (1)) ∧ (∀ (n23 : Nat) (v8 : Int) (v9 : Int), sg_R v8 → sg_R v9 → I12 n23 v8 v9 → (((v_nLengthOf σ (a2)) ≤ v9 → X14 (v8)) ∧ (v9 < (v_nLengthOf σ (a2)) → p_nItemOf σ (a2) (v9) ∧ V_yFold σ (a1) (v8) ((v_nItemOf σ (a2) (v9))) (fun q41 _ => sg_R q41 → sg_R (v9 + 1) ∧ (∃ m, m < n23 ∧ I12 m (q41) ((v9 + 1))))))) ∧ (∀ (v8 : Int), sg_R v8 → X14 v8 → V_nSpend σ ((v_nLengthOf σ (a2))) (fun q25 σ26 => (q25 = 0 ∨ q25 = 1) → sg_F [11045, 23045] σ σ26 → ((q25 = 0 → Q σ26) ∧ (¬ q25 = 0 → V_mnPush σ26 (v8) (fun σ33 => sg_F [48, 8045] σ26 σ33 → Q σ33))))))) ∧ ((v_nLengthOf σ (a2)) = 0 → ((a1 = 269 → ((¬ (v_nLengthOf σ (a2)) = 0 → p_nItemOf σ (a2) (0) ∧ True) ∧ ((v_nLengthOf σ (a2)) = 0 → True)) ∧ ∀ v54 : Int, v54 = (if ¬ (v_nLengthOf σ (a2)) = 0 then (v_nItemOf σ (a2) (0)) else (0 : Int)) → sg_R v54 → (∃ (I61 : Nat → Int → Int → Prop) (X63 : Int → Prop), (∃ n, I61 n (v54) (1)) ∧ (∀ (n72 : Nat) (v57 : Int) (v58 : Int), sg_R v57 → sg_R v58 → I61 n72 v57 v58 → (((v_nLengthOf σ (a2)) ≤ v58 → X63 (v57)) ∧ (v58 < (v_nLengthOf σ (a2)) → p_nItemOf σ (a2) (v58) ∧ V_yFold σ (a1) (v57) ((v_nItemOf σ (a2) (v58))) (fun q90 _ => sg_R q90 → sg_R (v58 + 1) ∧ (∃ m, m < n72 ∧ I61 m (q90) ((v58 + 1))))))) ∧ (∀ (v57 : Int), sg_R v57 → X63 v57 → V_nSpend σ ((v_nLengthOf σ (a2))) (fun q74 σ75 => (q74 = 0 ∨ q74 = 1) → sg_F [11045, 23045] σ σ75 → ((q74 = 0 → Q σ75) ∧ (¬ q74 = 0 → V_mnPush σ75 (v57) (fun σ82 => sg_F [48, 8045] σ75 σ82 → Q σ82))))))) ∧ (¬ a1 = 269 → ∀ σ100, σ100 = (sg_w σ 45 10 (4)) → Q σ100))))
set_option maxHeartbeats 4000000 in
set_option maxRecDepth 8000 in
theorem w_nReduce (z : Value) (σ : sg_S) (a1 : Int) (a2 : Int) (Q : sg_S → Prop) (ra1 : sg_R a1) (ra2 : sg_R a2) (w : V_nReduce σ a1 a2 Q) : wx z 2 156 0 [(0, .inr (.inr (.ref 45))), (1, .inl (a1)), (2, .inl (a2))] [] σ (fun v σ' => v = none ∧ sg_F [48, 8045, 11045, 23045] σ σ' ∧ Q σ') := by
  unfold V_nReduce at w
  refine wk_b tt_156 2 (pc' := 2) (ls' := [(0, .inr (.inr (.ref 45))), (1, .inl (a1)), (2, .inl (a2))]) (st' := [.inl (a2), .inr (.inr (.ref 45))]) (σ' := σ) rfl ?_
  refine wk_callp tt_156 rfl rfl rfl rfl rfl tt_149 rfl (by decide) (w_nLengthOf z σ (a2) ra2 ) ?_
  have r1 := vr_nLengthOf σ  (a2) ra2 
  refine wk_b tt_156 2 (pc' := 7) (ls' := [(3, .inl ((v_nLengthOf σ (a2)))), (0, .inr (.inr (.ref 45))), (1, .inl (a1)), (2, .inl (a2))]) (st' := [.inl ((v_nLengthOf σ (a2)))]) (σ' := σ) rfl ?_
  refine wk_if tt_156 (tgt := 23) rfl rfl r1 (fun (h2 : ¬ (v_nLengthOf σ (a2)) = 0) => ?_) (fun (h2 : (v_nLengthOf σ (a2)) = 0) => ?_)
  ·
    have w := w.1 h2
    refine wk_b tt_156 1 (pc' := 24) (ls' := [(3, .inl ((v_nLengthOf σ (a2)))), (0, .inr (.inr (.ref 45))), (1, .inl (a1)), (2, .inl (a2))]) (st' := [.inl ((v_nLengthOf σ (a2)))]) (σ' := σ) rfl ?_
    obtain ⟨wp, w⟩ := w
    have jn4 : ∀ v5 : Int, v5 = (if ¬ (v_nLengthOf σ (a2)) = 0 then (v_nItemOf σ (a2) (0)) else (0 : Int)) → sg_R v5 → wx z 2 156 37 [(0, .inr (.inr (.ref 45))), (1, .inl (a1)), (2, .inl (a2)), (3, .inl ((v_nLengthOf σ (a2))))] [.inl (v5)] σ (fun v σ' => v = none ∧ sg_F [48, 8045, 11045, 23045] σ σ' ∧ Q σ') := by
      intro v5 e7 r6
      have w := w v5 e7 r6
      refine wk_b tt_156 3 (pc' := 42) (ls' := [(5, .inl (1)), (4, .inl (v5)), (0, .inr (.inr (.ref 45))), (1, .inl (a1)), (2, .inl (a2)), (3, .inl ((v_nLengthOf σ (a2))))]) (st' := []) (σ' := σ) rfl ?_
      obtain ⟨I12, X14, ⟨μ13, w20⟩, w21, w22⟩ := w
      have ex24 : ∀ (v8 : Int), sg_R v8 → X14 v8 → wx z 2 156 69 [(0, .inr (.inr (.ref 45))), (3, .inl ((v_nLengthOf σ (a2)))), (4, .inl (v8))] [] σ (fun v σ' => v = none ∧ sg_F [48, 8045, 11045, 23045] σ σ' ∧ Q σ') := by
        intro v8 r15 w
        have w := w22 v8 r15 w
        refine wk_b tt_156 2 (pc' := 71) (ls' := [(0, .inr (.inr (.ref 45))), (3, .inl ((v_nLengthOf σ (a2)))), (4, .inl (v8))]) (st' := [.inl ((v_nLengthOf σ (a2))), .inr (.inr (.ref 45))]) (σ' := σ) rfl ?_
        refine wk_call tt_156 rfl rfl rfl rfl rfl tt_162 rfl (by decide) (w_nSpend z σ ((v_nLengthOf σ (a2))) _ r1 w) (fun u30 σ26 hq28 => ?_)
        obtain ⟨q25, rfl, r29, hF27, w⟩ := hq28
        have w := w r29 hF27
        refine wk_if tt_156 (tgt := 83) rfl rfl (sg_Rz r29) (fun (h31 : q25 = 0) => ?_) (fun (h31 : ¬ q25 = 0) => ?_)
        ·
          have w := w.1 h31
          exact wk_rV tt_156 rfl rfl ⟨rfl, (sg_F_t (sg_F_r [48, 8045, 11045, 23045] σ) (sg_F_m (L := [48, 8045, 11045, 23045]) hF27 rfl)), w⟩
        ·
          have w := w.2 h31
          refine wk_b tt_156 2 (pc' := 80) (ls' := [(0, .inr (.inr (.ref 45))), (3, .inl ((v_nLengthOf σ (a2)))), (4, .inl (v8))]) (st' := [.inl (v8), .inr (.inr (.ref 45))]) (σ' := σ26) rfl ?_
          refine wk_call tt_156 rfl rfl rfl rfl rfl tt_125 rfl (by decide) (w_mnPush z σ26 (v8) _ r15 w) (fun u37 σ33 hq35 => ?_)
          obtain ⟨rfl, hF34, w⟩ := hq35
          have w := w hF34
          exact wk_rV tt_156 rfl rfl ⟨rfl, (sg_F_t (sg_F_t (sg_F_r [48, 8045, 11045, 23045] σ) (sg_F_m (L := [48, 8045, 11045, 23045]) hF27 rfl)) (sg_F_m (L := [48, 8045, 11045, 23045]) hF34 rfl)), w⟩
      have lp19 : ∀ (n23 : Nat) (v8 : Int) (v9 : Int), sg_R v8 → sg_R v9 → I12 n23 v8 v9 → wx z 2 156 42 [(0, .inr (.inr (.ref 45))), (1, .inl (a1)), (2, .inl (a2)), (3, .inl ((v_nLengthOf σ (a2)))), (4, .inl (v8)), (5, .inl (v9))] [] σ (fun v σ' => v = none ∧ sg_F [48, 8045, 11045, 23045] σ σ' ∧ Q σ') := by
        intro n23
        induction n23 using Nat.strongRecOn with
        | _ n23 ih17 =>
          intro v8 v9 r15 r16 w
          have w := w21 n23 v8 v9 r15 r16 w
          refine wk_b tt_156 2 (pc' := 45) (ls' := [(0, .inr (.inr (.ref 45))), (1, .inl (a1)), (2, .inl (a2)), (3, .inl ((v_nLengthOf σ (a2)))), (4, .inl (v8)), (5, .inl (v9))]) (st' := [.inl ((v_nLengthOf σ (a2))), .inl (v9)]) (σ' := σ) rfl ?_
          refine wk_if2 tt_156 (tgt := 69) rfl rfl r16 r1 (fun (h38 : (v_nLengthOf σ (a2)) ≤ v9) => ?_) (fun (h38 : v9 < (v_nLengthOf σ (a2))) => ?_)
          ·
            have w := w.1 h38
            exact wk_ls [(0, .inr (.inr (.ref 45))), (3, .inl ((v_nLengthOf σ (a2)))), (4, .inl (v8))] rfl ⟨rfl, rfl, rfl, trivial⟩ (ex24 (v8)  r15  w)
          ·
            have w := w.2 h38
            refine wk_b tt_156 5 (pc' := 55) (ls' := [(0, .inr (.inr (.ref 45))), (1, .inl (a1)), (2, .inl (a2)), (3, .inl ((v_nLengthOf σ (a2)))), (4, .inl (v8)), (5, .inl (v9))]) (st' := [.inl (v9), .inl (a2), .inr (.inr (.ref 45)), .inl (v8), .inl (a1)]) (σ' := σ) rfl ?_
            obtain ⟨c39, w⟩ := w
            refine wk_callp tt_156 rfl rfl rfl rfl rfl tt_145 rfl (by decide) (w_nItemOf z σ (a2) (v9) ra2 r16 c39) ?_
            have r40 := vr_nItemOf σ  (a2) (v9) ra2 r16 c39
            refine wk_call tt_156 rfl rfl rfl rfl rfl tt_16 rfl (by decide) (w_yFold z σ (a1) (v8) ((v_nItemOf σ (a2) (v9))) _ ra1 r15 r40 w) (fun u46 σ42 hq44 => ?_)
            obtain ⟨q41, rfl, r45, rfl, w⟩ := hq44
            have w := w r45
            obtain ⟨c47, w⟩ := w
            refine wk_b tt_156 3 (pc' := 42) (ls' := [(5, .inl ((v9 + 1))), (4, .inl (q41)), (0, .inr (.inr (.ref 45))), (1, .inl (a1)), (2, .inl (a2)), (3, .inl ((v_nLengthOf σ (a2))))]) (st' := []) (σ' := σ) rfl ?_
            obtain ⟨m48, hm48, w⟩ := w
            exact wk_ls [(0, .inr (.inr (.ref 45))), (1, .inl (a1)), (2, .inl (a2)), (3, .inl ((v_nLengthOf σ (a2)))), (4, .inl (q41)), (5, .inl ((v9 + 1)))] rfl ⟨rfl, rfl, rfl, rfl, rfl, rfl, trivial⟩ (ih17 m48 hm48 (q41) ((v9 + 1))  r45 c47  w)
      exact wk_ls [(0, .inr (.inr (.ref 45))), (1, .inl (a1)), (2, .inl (a2)), (3, .inl ((v_nLengthOf σ (a2)))), (4, .inl (v5)), (5, .inl (1))] rfl ⟨rfl, rfl, rfl, rfl, rfl, rfl, trivial⟩ (lp19 μ13 (v5) (1)  r6 (by decide)  w20)
    have w := wp
    refine wk_if tt_156 (tgt := 31) rfl rfl r1 (fun (h3 : ¬ (v_nLengthOf σ (a2)) = 0) => ?_) (fun (h3 : (v_nLengthOf σ (a2)) = 0) => ?_)
    ·
      have w := w.1 h3
      refine wk_b tt_156 3 (pc' := 34) (ls' := [(3, .inl ((v_nLengthOf σ (a2)))), (0, .inr (.inr (.ref 45))), (1, .inl (a1)), (2, .inl (a2))]) (st' := [.inl (0), .inl (a2), .inr (.inr (.ref 45))]) (σ' := σ) rfl ?_
      obtain ⟨c49, w⟩ := w
      refine wk_callp tt_156 rfl rfl rfl rfl rfl tt_145 rfl (by decide) (w_nItemOf z σ (a2) (0) ra2 (by decide) c49) ?_
      have r50 := vr_nItemOf σ  (a2) (0) ra2 (by decide) c49
      exact wk_ls [(0, .inr (.inr (.ref 45))), (1, .inl (a1)), (2, .inl (a2)), (3, .inl ((v_nLengthOf σ (a2))))] rfl ⟨rfl, rfl, rfl, rfl, trivial⟩ (jn4 ((v_nItemOf σ (a2) (0))) (by simp only [if_pos h3]) r50)
    ·
      have w := w.2 h3
      refine wk_b tt_156 2 (pc' := 37) (ls' := [(3, .inl ((v_nLengthOf σ (a2)))), (0, .inr (.inr (.ref 45))), (1, .inl (a1)), (2, .inl (a2))]) (st' := [.inl (0)]) (σ' := σ) rfl ?_
      exact wk_ls [(0, .inr (.inr (.ref 45))), (1, .inl (a1)), (2, .inl (a2)), (3, .inl ((v_nLengthOf σ (a2))))] rfl ⟨rfl, rfl, rfl, rfl, trivial⟩ (jn4 (0) (by simp only [if_neg (show ¬ (¬ (v_nLengthOf σ (a2)) = 0) by omega)]) (by decide))
  ·
    have w := w.2 h2
    refine wk_b tt_156 2 (pc' := 14) (ls' := [(3, .inl ((v_nLengthOf σ (a2)))), (0, .inr (.inr (.ref 45))), (1, .inl (a1)), (2, .inl (a2))]) (st' := [.inl (269), .inl (a1)]) (σ' := σ) rfl ?_
    refine wk_if2 tt_156 (tgt := 23) rfl rfl ra1 (by decide) (fun (h51 : a1 = 269) => ?_) (fun (h51 : ¬ a1 = 269) => ?_)
    ·
      have w := w.1 h51
      refine wk_b tt_156 1 (pc' := 24) (ls' := [(3, .inl ((v_nLengthOf σ (a2)))), (0, .inr (.inr (.ref 45))), (1, .inl (a1)), (2, .inl (a2))]) (st' := [.inl ((v_nLengthOf σ (a2)))]) (σ' := σ) rfl ?_
      obtain ⟨wp, w⟩ := w
      have jn53 : ∀ v54 : Int, v54 = (if ¬ (v_nLengthOf σ (a2)) = 0 then (v_nItemOf σ (a2) (0)) else (0 : Int)) → sg_R v54 → wx z 2 156 37 [(0, .inr (.inr (.ref 45))), (1, .inl (a1)), (2, .inl (a2)), (3, .inl ((v_nLengthOf σ (a2))))] [.inl (v54)] σ (fun v σ' => v = none ∧ sg_F [48, 8045, 11045, 23045] σ σ' ∧ Q σ') := by
        intro v54 e56 r55
        have w := w v54 e56 r55
        refine wk_b tt_156 3 (pc' := 42) (ls' := [(5, .inl (1)), (4, .inl (v54)), (0, .inr (.inr (.ref 45))), (1, .inl (a1)), (2, .inl (a2)), (3, .inl ((v_nLengthOf σ (a2))))]) (st' := []) (σ' := σ) rfl ?_
        obtain ⟨I61, X63, ⟨μ62, w69⟩, w70, w71⟩ := w
        have ex73 : ∀ (v57 : Int), sg_R v57 → X63 v57 → wx z 2 156 69 [(0, .inr (.inr (.ref 45))), (3, .inl ((v_nLengthOf σ (a2)))), (4, .inl (v57))] [] σ (fun v σ' => v = none ∧ sg_F [48, 8045, 11045, 23045] σ σ' ∧ Q σ') := by
          intro v57 r64 w
          have w := w71 v57 r64 w
          refine wk_b tt_156 2 (pc' := 71) (ls' := [(0, .inr (.inr (.ref 45))), (3, .inl ((v_nLengthOf σ (a2)))), (4, .inl (v57))]) (st' := [.inl ((v_nLengthOf σ (a2))), .inr (.inr (.ref 45))]) (σ' := σ) rfl ?_
          refine wk_call tt_156 rfl rfl rfl rfl rfl tt_162 rfl (by decide) (w_nSpend z σ ((v_nLengthOf σ (a2))) _ r1 w) (fun u79 σ75 hq77 => ?_)
          obtain ⟨q74, rfl, r78, hF76, w⟩ := hq77
          have w := w r78 hF76
          refine wk_if tt_156 (tgt := 83) rfl rfl (sg_Rz r78) (fun (h80 : q74 = 0) => ?_) (fun (h80 : ¬ q74 = 0) => ?_)
          ·
            have w := w.1 h80
            exact wk_rV tt_156 rfl rfl ⟨rfl, (sg_F_t (sg_F_r [48, 8045, 11045, 23045] σ) (sg_F_m (L := [48, 8045, 11045, 23045]) hF76 rfl)), w⟩
          ·
            have w := w.2 h80
            refine wk_b tt_156 2 (pc' := 80) (ls' := [(0, .inr (.inr (.ref 45))), (3, .inl ((v_nLengthOf σ (a2)))), (4, .inl (v57))]) (st' := [.inl (v57), .inr (.inr (.ref 45))]) (σ' := σ75) rfl ?_
            refine wk_call tt_156 rfl rfl rfl rfl rfl tt_125 rfl (by decide) (w_mnPush z σ75 (v57) _ r64 w) (fun u86 σ82 hq84 => ?_)
            obtain ⟨rfl, hF83, w⟩ := hq84
            have w := w hF83
            exact wk_rV tt_156 rfl rfl ⟨rfl, (sg_F_t (sg_F_t (sg_F_r [48, 8045, 11045, 23045] σ) (sg_F_m (L := [48, 8045, 11045, 23045]) hF76 rfl)) (sg_F_m (L := [48, 8045, 11045, 23045]) hF83 rfl)), w⟩
        have lp68 : ∀ (n72 : Nat) (v57 : Int) (v58 : Int), sg_R v57 → sg_R v58 → I61 n72 v57 v58 → wx z 2 156 42 [(0, .inr (.inr (.ref 45))), (1, .inl (a1)), (2, .inl (a2)), (3, .inl ((v_nLengthOf σ (a2)))), (4, .inl (v57)), (5, .inl (v58))] [] σ (fun v σ' => v = none ∧ sg_F [48, 8045, 11045, 23045] σ σ' ∧ Q σ') := by
          intro n72
          induction n72 using Nat.strongRecOn with
          | _ n72 ih66 =>
            intro v57 v58 r64 r65 w
            have w := w70 n72 v57 v58 r64 r65 w
            refine wk_b tt_156 2 (pc' := 45) (ls' := [(0, .inr (.inr (.ref 45))), (1, .inl (a1)), (2, .inl (a2)), (3, .inl ((v_nLengthOf σ (a2)))), (4, .inl (v57)), (5, .inl (v58))]) (st' := [.inl ((v_nLengthOf σ (a2))), .inl (v58)]) (σ' := σ) rfl ?_
            refine wk_if2 tt_156 (tgt := 69) rfl rfl r65 r1 (fun (h87 : (v_nLengthOf σ (a2)) ≤ v58) => ?_) (fun (h87 : v58 < (v_nLengthOf σ (a2))) => ?_)
            ·
              have w := w.1 h87
              exact wk_ls [(0, .inr (.inr (.ref 45))), (3, .inl ((v_nLengthOf σ (a2)))), (4, .inl (v57))] rfl ⟨rfl, rfl, rfl, trivial⟩ (ex73 (v57)  r64  w)
            ·
              have w := w.2 h87
              refine wk_b tt_156 5 (pc' := 55) (ls' := [(0, .inr (.inr (.ref 45))), (1, .inl (a1)), (2, .inl (a2)), (3, .inl ((v_nLengthOf σ (a2)))), (4, .inl (v57)), (5, .inl (v58))]) (st' := [.inl (v58), .inl (a2), .inr (.inr (.ref 45)), .inl (v57), .inl (a1)]) (σ' := σ) rfl ?_
              obtain ⟨c88, w⟩ := w
              refine wk_callp tt_156 rfl rfl rfl rfl rfl tt_145 rfl (by decide) (w_nItemOf z σ (a2) (v58) ra2 r65 c88) ?_
              have r89 := vr_nItemOf σ  (a2) (v58) ra2 r65 c88
              refine wk_call tt_156 rfl rfl rfl rfl rfl tt_16 rfl (by decide) (w_yFold z σ (a1) (v57) ((v_nItemOf σ (a2) (v58))) _ ra1 r64 r89 w) (fun u95 σ91 hq93 => ?_)
              obtain ⟨q90, rfl, r94, rfl, w⟩ := hq93
              have w := w r94
              obtain ⟨c96, w⟩ := w
              refine wk_b tt_156 3 (pc' := 42) (ls' := [(5, .inl ((v58 + 1))), (4, .inl (q90)), (0, .inr (.inr (.ref 45))), (1, .inl (a1)), (2, .inl (a2)), (3, .inl ((v_nLengthOf σ (a2))))]) (st' := []) (σ' := σ) rfl ?_
              obtain ⟨m97, hm97, w⟩ := w
              exact wk_ls [(0, .inr (.inr (.ref 45))), (1, .inl (a1)), (2, .inl (a2)), (3, .inl ((v_nLengthOf σ (a2)))), (4, .inl (q90)), (5, .inl ((v58 + 1)))] rfl ⟨rfl, rfl, rfl, rfl, rfl, rfl, trivial⟩ (ih66 m97 hm97 (q90) ((v58 + 1))  r94 c96  w)
        exact wk_ls [(0, .inr (.inr (.ref 45))), (1, .inl (a1)), (2, .inl (a2)), (3, .inl ((v_nLengthOf σ (a2)))), (4, .inl (v54)), (5, .inl (1))] rfl ⟨rfl, rfl, rfl, rfl, rfl, rfl, trivial⟩ (lp68 μ62 (v54) (1)  r55 (by decide)  w69)
      have w := wp
      refine wk_if tt_156 (tgt := 31) rfl rfl r1 (fun (h52 : ¬ (v_nLengthOf σ (a2)) = 0) => ?_) (fun (h52 : (v_nLengthOf σ (a2)) = 0) => ?_)
      ·
        have w := w.1 h52
        refine wk_b tt_156 3 (pc' := 34) (ls' := [(3, .inl ((v_nLengthOf σ (a2)))), (0, .inr (.inr (.ref 45))), (1, .inl (a1)), (2, .inl (a2))]) (st' := [.inl (0), .inl (a2), .inr (.inr (.ref 45))]) (σ' := σ) rfl ?_
        obtain ⟨c98, w⟩ := w
        refine wk_callp tt_156 rfl rfl rfl rfl rfl tt_145 rfl (by decide) (w_nItemOf z σ (a2) (0) ra2 (by decide) c98) ?_
        have r99 := vr_nItemOf σ  (a2) (0) ra2 (by decide) c98
        exact wk_ls [(0, .inr (.inr (.ref 45))), (1, .inl (a1)), (2, .inl (a2)), (3, .inl ((v_nLengthOf σ (a2))))] rfl ⟨rfl, rfl, rfl, rfl, trivial⟩ (jn53 ((v_nItemOf σ (a2) (0))) (by simp only [if_pos h52]) r99)
      ·
        have w := w.2 h52
        refine wk_b tt_156 2 (pc' := 37) (ls' := [(3, .inl ((v_nLengthOf σ (a2)))), (0, .inr (.inr (.ref 45))), (1, .inl (a1)), (2, .inl (a2))]) (st' := [.inl (0)]) (σ' := σ) rfl ?_
        exact wk_ls [(0, .inr (.inr (.ref 45))), (1, .inl (a1)), (2, .inl (a2)), (3, .inl ((v_nLengthOf σ (a2))))] rfl ⟨rfl, rfl, rfl, rfl, trivial⟩ (jn53 (0) (by simp only [if_neg (show ¬ (¬ (v_nLengthOf σ (a2)) = 0) by omega)]) (by decide))
    ·
      have w := w.2 h51
      refine wk_b tt_156 3 (pc' := 22) (ls' := [(3, .inl ((v_nLengthOf σ (a2)))), (0, .inr (.inr (.ref 45))), (1, .inl (a1)), (2, .inl (a2))]) (st' := []) (σ' := (sg_w σ 45 10 (4))) rfl ?_
      generalize hs101 : (sg_w σ 45 10 (4)) = σ100
      have w := w σ100 hs101.symm
      have hF102 : sg_F [11045] σ σ100 := by rw [← hs101]; exact sg_F_w (sg_F_r _ _) rfl _
      exact wk_rV tt_156 rfl rfl ⟨rfl, (sg_F_t (sg_F_r [48, 8045, 11045, 23045] σ) (sg_F_m (L := [48, 8045, 11045, 23045]) hF102 rfl)), w⟩
-- NestedVectors$NestedRun.repeat
def V_nRepeat (σ : sg_S) (a1 : Int) (a2 : Int) (Q : sg_S → Prop) : Prop := (((v_yBadSize (a2)) = 0 → (∃ (I5 : Nat → Int → sg_S → Prop) (X7 : sg_S → Prop), (∃ n, I5 n (0) σ) ∧ (∀ (n15 : Nat) (v2 : Int) (σ3 : sg_S), sg_R v2 → sg_F [54, 22045] σ σ3 → I5 n15 v2 σ3 → ((a2 ≤ v2 → X7 σ3) ∧ (v2 < a2 → V_nAdd σ3 (a1) (fun σ25 => sg_F [54, 22045] σ3 σ25 → sg_R (v2 + 1) ∧ (∃ m, m < n15 ∧ I5 m ((v2 + 1)) σ25))))) ∧ (∀ (σ3 : sg_S), sg_F [54, 22045] σ σ3 → X7 σ3 → V_nGive σ3  (fun σ18 => sg_F [48, 53, 8045, 11045, 21045, 22045, 23045] σ3 σ18 → Q σ18)))) ∧ (¬ (v_yBadSize (a2)) = 0 → ∀ σ32, σ32 = (sg_w σ 45 10 (5)) → Q σ32))
set_option maxHeartbeats 4000000 in
set_option maxRecDepth 8000 in
theorem w_nRepeat (z : Value) (σ : sg_S) (a1 : Int) (a2 : Int) (Q : sg_S → Prop) (ra1 : sg_R a1) (ra2 : sg_R a2) (w : V_nRepeat σ a1 a2 Q) : wx z 3 157 0 [(0, .inr (.inr (.ref 45))), (1, .inl (a1)), (2, .inl (a2))] [] σ (fun v σ' => v = none ∧ sg_F [48, 53, 54, 8045, 11045, 21045, 22045, 23045] σ σ' ∧ Q σ') := by
  unfold V_nRepeat at w
  refine wk_b tt_157 1 (pc' := 1) (ls' := [(0, .inr (.inr (.ref 45))), (1, .inl (a1)), (2, .inl (a2))]) (st' := [.inl (a2)]) (σ' := σ) rfl ?_
  refine wk_callp tt_157 rfl rfl rfl rfl rfl tt_7 rfl (by decide) (w_yBadSize z σ (a2) ra2 ) ?_
  refine wk_if tt_157 (tgt := 13) rfl rfl (sg_Rz (vz_yBadSize ..)) (fun (h1 : (v_yBadSize (a2)) = 0) => ?_) (fun (h1 : ¬ (v_yBadSize (a2)) = 0) => ?_)
  ·
    have w := w.1 h1
    refine wk_b tt_157 2 (pc' := 15) (ls' := [(3, .inl (0)), (0, .inr (.inr (.ref 45))), (1, .inl (a1)), (2, .inl (a2))]) (st' := []) (σ' := σ) rfl ?_
    obtain ⟨I5, X7, ⟨μ6, w12⟩, w13, w14⟩ := w
    have ex16 : ∀ (σ3 : sg_S), sg_F [54, 22045] σ σ3 → X7 σ3 → wx z 3 157 31 [(0, .inr (.inr (.ref 45)))] [] σ3 (fun v σ' => v = none ∧ sg_F [48, 53, 54, 8045, 11045, 21045, 22045, 23045] σ σ' ∧ Q σ') := by
      intro σ3 hF4 w
      have w := w14 σ3 hF4 w
      refine wk_b tt_157 1 (pc' := 32) (ls' := [(0, .inr (.inr (.ref 45)))]) (st' := [.inr (.inr (.ref 45))]) (σ' := σ3) rfl ?_
      refine wk_call tt_157 rfl rfl rfl rfl rfl tt_144 rfl (by decide) (w_nGive z σ3  _  w) (fun u22 σ18 hq20 => ?_)
      obtain ⟨rfl, hF19, w⟩ := hq20
      have w := w hF19
      exact wk_rV tt_157 rfl rfl ⟨rfl, (sg_F_t (sg_F_t (sg_F_r [48, 53, 54, 8045, 11045, 21045, 22045, 23045] σ) (sg_F_m (L := [48, 53, 54, 8045, 11045, 21045, 22045, 23045]) hF4 rfl)) (sg_F_m (L := [48, 53, 54, 8045, 11045, 21045, 22045, 23045]) hF19 rfl)), w⟩
    have lp11 : ∀ (n15 : Nat) (v2 : Int) (σ3 : sg_S), sg_R v2 → sg_F [54, 22045] σ σ3 → I5 n15 v2 σ3 → wx z 3 157 15 [(0, .inr (.inr (.ref 45))), (1, .inl (a1)), (2, .inl (a2)), (3, .inl (v2))] [] σ3 (fun v σ' => v = none ∧ sg_F [48, 53, 54, 8045, 11045, 21045, 22045, 23045] σ σ' ∧ Q σ') := by
      intro n15
      induction n15 using Nat.strongRecOn with
      | _ n15 ih9 =>
        intro v2 σ3 r8 hF4 w
        have w := w13 n15 v2 σ3 r8 hF4 w
        refine wk_b tt_157 2 (pc' := 17) (ls' := [(0, .inr (.inr (.ref 45))), (1, .inl (a1)), (2, .inl (a2)), (3, .inl (v2))]) (st' := [.inl (a2), .inl (v2)]) (σ' := σ3) rfl ?_
        refine wk_if2 tt_157 (tgt := 31) rfl rfl r8 ra2 (fun (h23 : a2 ≤ v2) => ?_) (fun (h23 : v2 < a2) => ?_)
        ·
          have w := w.1 h23
          exact wk_ls [(0, .inr (.inr (.ref 45)))] rfl ⟨rfl, trivial⟩ (ex16  σ3  (sg_F_t (sg_F_r [54, 22045] σ) (sg_F_m (L := [54, 22045]) hF4 rfl)) w)
        ·
          have w := w.2 h23
          refine wk_b tt_157 2 (pc' := 22) (ls' := [(0, .inr (.inr (.ref 45))), (1, .inl (a1)), (2, .inl (a2)), (3, .inl (v2))]) (st' := [.inl (a1), .inr (.inr (.ref 45))]) (σ' := σ3) rfl ?_
          refine wk_call tt_157 rfl rfl rfl rfl rfl tt_129 rfl (by decide) (w_nAdd z σ3 (a1) _ ra1 w) (fun u29 σ25 hq27 => ?_)
          obtain ⟨rfl, hF26, w⟩ := hq27
          have w := w hF26
          obtain ⟨c30, w⟩ := w
          refine wk_b tt_157 2 (pc' := 15) (ls' := [(3, .inl ((v2 + 1))), (0, .inr (.inr (.ref 45))), (1, .inl (a1)), (2, .inl (a2))]) (st' := []) (σ' := σ25) rfl ?_
          obtain ⟨m31, hm31, w⟩ := w
          exact wk_ls [(0, .inr (.inr (.ref 45))), (1, .inl (a1)), (2, .inl (a2)), (3, .inl ((v2 + 1)))] rfl ⟨rfl, rfl, rfl, rfl, trivial⟩ (ih9 m31 hm31 ((v2 + 1)) σ25 c30 (sg_F_t (sg_F_t (sg_F_r [54, 22045] σ) (sg_F_m (L := [54, 22045]) hF4 rfl)) (sg_F_m (L := [54, 22045]) hF26 rfl)) w)
    exact wk_ls [(0, .inr (.inr (.ref 45))), (1, .inl (a1)), (2, .inl (a2)), (3, .inl (0))] rfl ⟨rfl, rfl, rfl, rfl, trivial⟩ (lp11 μ6 (0) σ (by decide) (sg_F_r _ _) w12)
  ·
    have w := w.2 h1
    refine wk_b tt_157 3 (pc' := 12) (ls' := [(0, .inr (.inr (.ref 45))), (1, .inl (a1)), (2, .inl (a2))]) (st' := []) (σ' := (sg_w σ 45 10 (5))) rfl ?_
    generalize hs33 : (sg_w σ 45 10 (5)) = σ32
    have w := w σ32 hs33.symm
    have hF34 : sg_F [11045] σ σ32 := by rw [← hs33]; exact sg_F_w (sg_F_r _ _) rfl _
    exact wk_rV tt_157 rfl rfl ⟨rfl, (sg_F_t (sg_F_r [48, 53, 54, 8045, 11045, 21045, 22045, 23045] σ) (sg_F_m (L := [48, 53, 54, 8045, 11045, 21045, 22045, 23045]) hF34 rfl)), w⟩
-- NestedVectors$NestedRun.reverse
def V_nReverse (σ : sg_S) (a1 : Int) (Q : sg_S → Prop) : Prop := sg_R ((v_nLengthOf σ (a1)) - 1) ∧ (∃ (I6 : Nat → Int → sg_S → Prop) (X8 : sg_S → Prop), (∃ n, I6 n (((v_nLengthOf σ (a1)) - 1)) σ) ∧ (∀ (n16 : Nat) (v3 : Int) (σ4 : sg_S), sg_R v3 → sg_F [54, 22045] σ σ4 → I6 n16 v3 σ4 → ((v3 < 0 → X8 σ4) ∧ (0 ≤ v3 → p_nItemOf σ (a1) (v3) ∧ V_nAdd σ4 ((v_nItemOf σ (a1) (v3))) (fun σ28 => sg_F [54, 22045] σ4 σ28 → sg_R (v3 + (-1)) ∧ (∃ m, m < n16 ∧ I6 m ((v3 + (-1))) σ28))))) ∧ (∀ (σ4 : sg_S), sg_F [54, 22045] σ σ4 → X8 σ4 → V_nGive σ4  (fun σ19 => sg_F [48, 53, 8045, 11045, 21045, 22045, 23045] σ4 σ19 → Q σ19)))
set_option maxHeartbeats 4000000 in
set_option maxRecDepth 8000 in
theorem w_nReverse (z : Value) (σ : sg_S) (a1 : Int) (Q : sg_S → Prop) (ra1 : sg_R a1) (w : V_nReverse σ a1 Q) : wx z 3 158 0 [(0, .inr (.inr (.ref 45))), (1, .inl (a1))] [] σ (fun v σ' => v = none ∧ sg_F [48, 53, 54, 8045, 11045, 21045, 22045, 23045] σ σ' ∧ Q σ') := by
  unfold V_nReverse at w
  refine wk_b tt_158 2 (pc' := 2) (ls' := [(0, .inr (.inr (.ref 45))), (1, .inl (a1))]) (st' := [.inl (a1), .inr (.inr (.ref 45))]) (σ' := σ) rfl ?_
  refine wk_callp tt_158 rfl rfl rfl rfl rfl tt_149 rfl (by decide) (w_nLengthOf z σ (a1) ra1 ) ?_
  have r1 := vr_nLengthOf σ  (a1) ra1 
  obtain ⟨c2, w⟩ := w
  refine wk_b tt_158 3 (pc' := 8) (ls' := [(2, .inl (((v_nLengthOf σ (a1)) - 1))), (0, .inr (.inr (.ref 45))), (1, .inl (a1))]) (st' := []) (σ' := σ) rfl ?_
  obtain ⟨I6, X8, ⟨μ7, w13⟩, w14, w15⟩ := w
  have ex17 : ∀ (σ4 : sg_S), sg_F [54, 22045] σ σ4 → X8 σ4 → wx z 3 158 28 [(0, .inr (.inr (.ref 45)))] [] σ4 (fun v σ' => v = none ∧ sg_F [48, 53, 54, 8045, 11045, 21045, 22045, 23045] σ σ' ∧ Q σ') := by
    intro σ4 hF5 w
    have w := w15 σ4 hF5 w
    refine wk_b tt_158 1 (pc' := 29) (ls' := [(0, .inr (.inr (.ref 45)))]) (st' := [.inr (.inr (.ref 45))]) (σ' := σ4) rfl ?_
    refine wk_call tt_158 rfl rfl rfl rfl rfl tt_144 rfl (by decide) (w_nGive z σ4  _  w) (fun u23 σ19 hq21 => ?_)
    obtain ⟨rfl, hF20, w⟩ := hq21
    have w := w hF20
    exact wk_rV tt_158 rfl rfl ⟨rfl, (sg_F_t (sg_F_t (sg_F_r [48, 53, 54, 8045, 11045, 21045, 22045, 23045] σ) (sg_F_m (L := [48, 53, 54, 8045, 11045, 21045, 22045, 23045]) hF5 rfl)) (sg_F_m (L := [48, 53, 54, 8045, 11045, 21045, 22045, 23045]) hF20 rfl)), w⟩
  have lp12 : ∀ (n16 : Nat) (v3 : Int) (σ4 : sg_S), sg_R v3 → sg_F [54, 22045] σ σ4 → I6 n16 v3 σ4 → wx z 3 158 8 [(0, .inr (.inr (.ref 45))), (1, .inl (a1)), (2, .inl (v3))] [] σ4 (fun v σ' => v = none ∧ sg_F [48, 53, 54, 8045, 11045, 21045, 22045, 23045] σ σ' ∧ Q σ') := by
    intro n16
    induction n16 using Nat.strongRecOn with
    | _ n16 ih10 =>
      intro v3 σ4 r9 hF5 w
      have w := w14 n16 v3 σ4 r9 hF5 w
      refine wk_b tt_158 1 (pc' := 9) (ls' := [(0, .inr (.inr (.ref 45))), (1, .inl (a1)), (2, .inl (v3))]) (st' := [.inl (v3)]) (σ' := σ4) rfl ?_
      refine wk_if tt_158 (tgt := 28) rfl rfl r9 (fun (h24 : v3 < 0) => ?_) (fun (h24 : 0 ≤ v3) => ?_)
      ·
        have w := w.1 h24
        exact wk_ls [(0, .inr (.inr (.ref 45)))] rfl ⟨rfl, trivial⟩ (ex17  σ4  (sg_F_t (sg_F_r [54, 22045] σ) (sg_F_m (L := [54, 22045]) hF5 rfl)) w)
      ·
        have w := w.2 h24
        refine wk_b tt_158 4 (pc' := 16) (ls' := [(0, .inr (.inr (.ref 45))), (1, .inl (a1)), (2, .inl (v3))]) (st' := [.inl (v3), .inl (a1), .inr (.inr (.ref 45)), .inr (.inr (.ref 45))]) (σ' := σ4) rfl ?_
        obtain ⟨c25, w⟩ := w
        have c25 : p_nItemOf σ4 (a1) (v3) := by
          rw [pF_nItemOf hF5 rfl]; exact c25
        refine wk_callp tt_158 rfl rfl rfl rfl rfl tt_145 rfl (by decide) (w_nItemOf z σ4 (a1) (v3) ra1 r9 c25) ?_
        rw [vF_nItemOf hF5 rfl]
        have r26 := vr_nItemOf σ  (a1) (v3) ra1 r9 (by have q := c25; rw [pF_nItemOf hF5 rfl] at q; exact q)
        refine wk_call tt_158 rfl rfl rfl rfl rfl tt_129 rfl (by decide) (w_nAdd z σ4 ((v_nItemOf σ (a1) (v3))) _ r26 w) (fun u32 σ28 hq30 => ?_)
        obtain ⟨rfl, hF29, w⟩ := hq30
        have w := w hF29
        obtain ⟨c33, w⟩ := w
        refine wk_b tt_158 2 (pc' := 8) (ls' := [(2, .inl ((v3 + (-1)))), (0, .inr (.inr (.ref 45))), (1, .inl (a1))]) (st' := []) (σ' := σ28) rfl ?_
        obtain ⟨m34, hm34, w⟩ := w
        exact wk_ls [(0, .inr (.inr (.ref 45))), (1, .inl (a1)), (2, .inl ((v3 + (-1))))] rfl ⟨rfl, rfl, rfl, trivial⟩ (ih10 m34 hm34 ((v3 + (-1))) σ28 c33 (sg_F_t (sg_F_t (sg_F_r [54, 22045] σ) (sg_F_m (L := [54, 22045]) hF5 rfl)) (sg_F_m (L := [54, 22045]) hF29 rfl)) w)
  exact wk_ls [(0, .inr (.inr (.ref 45))), (1, .inl (a1)), (2, .inl (((v_nLengthOf σ (a1)) - 1)))] rfl ⟨rfl, rfl, rfl, trivial⟩ (lp12 μ7 (((v_nLengthOf σ (a1)) - 1)) σ c2 (sg_F_r _ _) w13)
-- NestedVectors$NestedRun.row
def V_nRow (σ : sg_S) (a1 : Int) (Q : sg_S → Prop) : Prop := V_nGather σ (a1) (fun σ2 => sg_F [54, 8045, 22045] σ σ2 → V_nGive σ2  (fun σ8 => sg_F [48, 53, 8045, 11045, 21045, 22045, 23045] σ2 σ8 → Q σ8))
set_option maxHeartbeats 4000000 in
set_option maxRecDepth 8000 in
theorem w_nRow (z : Value) (σ : sg_S) (a1 : Int) (Q : sg_S → Prop) (ra1 : sg_R a1) (w : V_nRow σ a1 Q) : wx z 3 159 0 [(0, .inr (.inr (.ref 45))), (1, .inl (a1))] [] σ (fun v σ' => v = none ∧ sg_F [48, 53, 54, 8045, 11045, 21045, 22045, 23045] σ σ' ∧ Q σ') := by
  unfold V_nRow at w
  refine wk_b tt_159 2 (pc' := 2) (ls' := [(0, .inr (.inr (.ref 45))), (1, .inl (a1))]) (st' := [.inl (a1), .inr (.inr (.ref 45))]) (σ' := σ) rfl ?_
  refine wk_call tt_159 rfl rfl rfl rfl rfl tt_143 rfl (by decide) (w_nGather z σ (a1) _ ra1 w) (fun u6 σ2 hq4 => ?_)
  obtain ⟨rfl, hF3, w⟩ := hq4
  have w := w hF3
  refine wk_b tt_159 1 (pc' := 6) (ls' := [(0, .inr (.inr (.ref 45))), (1, .inl (a1))]) (st' := [.inr (.inr (.ref 45))]) (σ' := σ2) rfl ?_
  refine wk_call tt_159 rfl rfl rfl rfl rfl tt_144 rfl (by decide) (w_nGive z σ2  _  w) (fun u12 σ8 hq10 => ?_)
  obtain ⟨rfl, hF9, w⟩ := hq10
  have w := w hF9
  exact wk_rV tt_159 rfl rfl ⟨rfl, (sg_F_t (sg_F_t (sg_F_r [48, 53, 54, 8045, 11045, 21045, 22045, 23045] σ) (sg_F_m (L := [48, 53, 54, 8045, 11045, 21045, 22045, 23045]) hF3 rfl)) (sg_F_m (L := [48, 53, 54, 8045, 11045, 21045, 22045, 23045]) hF9 rfl)), w⟩
-- NestedVectors$NestedRun.select
def V_nSelect (σ : sg_S) (a1 : Int) (a2 : Int) (Q : sg_S → Prop) : Prop := ((a2 < 0 → ∀ σ2, σ2 = (sg_w σ 45 10 (2)) → Q σ2) ∧ (0 ≤ a2 → ((a2 < (v_nLengthOf σ (a1)) → p_nItemOf σ (a1) (a2) ∧ V_mnPush σ ((v_nItemOf σ (a1) (a2))) (fun σ10 => sg_F [48, 8045] σ σ10 → Q σ10)) ∧ ((v_nLengthOf σ (a1)) ≤ a2 → ∀ σ15, σ15 = (sg_w σ 45 10 (2)) → Q σ15))))
set_option maxHeartbeats 4000000 in
set_option maxRecDepth 8000 in
theorem w_nSelect (z : Value) (σ : sg_S) (a1 : Int) (a2 : Int) (Q : sg_S → Prop) (ra1 : sg_R a1) (ra2 : sg_R a2) (w : V_nSelect σ a1 a2 Q) : wx z 2 160 0 [(0, .inr (.inr (.ref 45))), (1, .inl (a1)), (2, .inl (a2))] [] σ (fun v σ' => v = none ∧ sg_F [48, 8045, 11045] σ σ' ∧ Q σ') := by
  unfold V_nSelect at w
  refine wk_b tt_160 1 (pc' := 1) (ls' := [(0, .inr (.inr (.ref 45))), (1, .inl (a1)), (2, .inl (a2))]) (st' := [.inl (a2)]) (σ' := σ) rfl ?_
  refine wk_if tt_160 (tgt := 13) rfl rfl ra2 (fun (h1 : a2 < 0) => ?_) (fun (h1 : 0 ≤ a2) => ?_)
  ·
    have w := w.1 h1
    refine wk_b tt_160 3 (pc' := 18) (ls' := [(0, .inr (.inr (.ref 45))), (1, .inl (a1)), (2, .inl (a2))]) (st' := []) (σ' := (sg_w σ 45 10 (2))) rfl ?_
    generalize hs3 : (sg_w σ 45 10 (2)) = σ2
    have w := w σ2 hs3.symm
    have hF4 : sg_F [11045] σ σ2 := by rw [← hs3]; exact sg_F_w (sg_F_r _ _) rfl _
    refine wk_b tt_160 1 (pc' := 31) (ls' := [(0, .inr (.inr (.ref 45))), (1, .inl (a1)), (2, .inl (a2))]) (st' := []) (σ' := σ2) rfl ?_
    exact wk_rV tt_160 rfl rfl ⟨rfl, (sg_F_t (sg_F_r [48, 8045, 11045] σ) (sg_F_m (L := [48, 8045, 11045]) hF4 rfl)), w⟩
  ·
    have w := w.2 h1
    refine wk_b tt_160 3 (pc' := 7) (ls' := [(0, .inr (.inr (.ref 45))), (1, .inl (a1)), (2, .inl (a2))]) (st' := [.inl (a1), .inr (.inr (.ref 45)), .inl (a2)]) (σ' := σ) rfl ?_
    refine wk_callp tt_160 rfl rfl rfl rfl rfl tt_149 rfl (by decide) (w_nLengthOf z σ (a1) ra1 ) ?_
    have r5 := vr_nLengthOf σ  (a1) ra1 
    refine wk_if2 tt_160 (tgt := 21) rfl rfl ra2 r5 (fun (h6 : a2 < (v_nLengthOf σ (a1))) => ?_) (fun (h6 : (v_nLengthOf σ (a1)) ≤ a2) => ?_)
    ·
      have w := w.1 h6
      refine wk_b tt_160 4 (pc' := 25) (ls' := [(0, .inr (.inr (.ref 45))), (1, .inl (a1)), (2, .inl (a2))]) (st' := [.inl (a2), .inl (a1), .inr (.inr (.ref 45)), .inr (.inr (.ref 45))]) (σ' := σ) rfl ?_
      obtain ⟨c7, w⟩ := w
      refine wk_callp tt_160 rfl rfl rfl rfl rfl tt_145 rfl (by decide) (w_nItemOf z σ (a1) (a2) ra1 ra2 c7) ?_
      have r8 := vr_nItemOf σ  (a1) (a2) ra1 ra2 c7
      refine wk_call tt_160 rfl rfl rfl rfl rfl tt_125 rfl (by decide) (w_mnPush z σ ((v_nItemOf σ (a1) (a2))) _ r8 w) (fun u14 σ10 hq12 => ?_)
      obtain ⟨rfl, hF11, w⟩ := hq12
      have w := w hF11
      exact wk_rV tt_160 rfl rfl ⟨rfl, (sg_F_t (sg_F_r [48, 8045, 11045] σ) (sg_F_m (L := [48, 8045, 11045]) hF11 rfl)), w⟩
    ·
      have w := w.2 h6
      refine wk_b tt_160 3 (pc' := 18) (ls' := [(0, .inr (.inr (.ref 45))), (1, .inl (a1)), (2, .inl (a2))]) (st' := []) (σ' := (sg_w σ 45 10 (2))) rfl ?_
      generalize hs16 : (sg_w σ 45 10 (2)) = σ15
      have w := w σ15 hs16.symm
      have hF17 : sg_F [11045] σ σ15 := by rw [← hs16]; exact sg_F_w (sg_F_r _ _) rfl _
      refine wk_b tt_160 1 (pc' := 31) (ls' := [(0, .inr (.inr (.ref 45))), (1, .inl (a1)), (2, .inl (a2))]) (st' := []) (σ' := σ15) rfl ?_
      exact wk_rV tt_160 rfl rfl ⟨rfl, (sg_F_t (sg_F_r [48, 8045, 11045] σ) (sg_F_m (L := [48, 8045, 11045]) hF17 rfl)), w⟩
-- NestedVectors$NestedRun.sift
def V_nSift (σ : sg_S) (a1 : Int) (Q : sg_S → Prop) : Prop := V_mnPop σ  (fun q1 σ2 => sg_R q1 → sg_F [8045] σ σ2 → ((¬ q1 = 0 → Q σ2) ∧ (q1 = 0 → V_nNext σ2 (a1) (fun σ9 => sg_F [46, 57, 60, 9045, 24045] σ2 σ9 → Q σ9))))
set_option maxHeartbeats 4000000 in
set_option maxRecDepth 8000 in
theorem w_nSift (z : Value) (σ : sg_S) (a1 : Int) (Q : sg_S → Prop) (ra1 : sg_R a1) (w : V_nSift σ a1 Q) : wx z 4 161 0 [(0, .inr (.inr (.ref 45))), (1, .inl (a1))] [] σ (fun v σ' => v = none ∧ sg_F [46, 57, 60, 8045, 9045, 24045] σ σ' ∧ Q σ') := by
  unfold V_nSift at w
  refine wk_b tt_161 1 (pc' := 1) (ls' := [(0, .inr (.inr (.ref 45))), (1, .inl (a1))]) (st' := [.inr (.inr (.ref 45))]) (σ' := σ) rfl ?_
  refine wk_call tt_161 rfl rfl rfl rfl rfl tt_124 rfl (by decide) (w_mnPop z σ  _  w) (fun u6 σ2 hq4 => ?_)
  obtain ⟨q1, rfl, r5, hF3, w⟩ := hq4
  have w := w r5 hF3
  refine wk_if tt_161 (tgt := 12) rfl rfl r5 (fun (h7 : ¬ q1 = 0) => ?_) (fun (h7 : q1 = 0) => ?_)
  ·
    have w := w.1 h7
    exact wk_rV tt_161 rfl rfl ⟨rfl, (sg_F_t (sg_F_r [46, 57, 60, 8045, 9045, 24045] σ) (sg_F_m (L := [46, 57, 60, 8045, 9045, 24045]) hF3 rfl)), w⟩
  ·
    have w := w.2 h7
    refine wk_b tt_161 2 (pc' := 9) (ls' := [(0, .inr (.inr (.ref 45))), (1, .inl (a1))]) (st' := [.inl (a1), .inr (.inr (.ref 45))]) (σ' := σ2) rfl ?_
    refine wk_call tt_161 rfl rfl rfl rfl rfl tt_151 rfl (by decide) (w_nNext z σ2 (a1) _ ra1 w) (fun u13 σ9 hq11 => ?_)
    obtain ⟨rfl, hF10, w⟩ := hq11
    have w := w hF10
    exact wk_rV tt_161 rfl rfl ⟨rfl, (sg_F_t (sg_F_t (sg_F_r [46, 57, 60, 8045, 9045, 24045] σ) (sg_F_m (L := [46, 57, 60, 8045, 9045, 24045]) hF3 rfl)) (sg_F_m (L := [46, 57, 60, 8045, 9045, 24045]) hF10 rfl)), w⟩
-- NestedVectors$NestedRun.sumUp
def V_nSumUp (σ : sg_S) (a1 : Int) (Q : sg_S → Prop) : Prop := (∃ (I5 : Nat → Int → Int → sg_S → Prop) (X7 : sg_S → Prop), (∃ n, I5 n (0) (0) σ) ∧ (∀ (n16 : Nat) (v1 : Int) (v2 : Int) (σ3 : sg_S), sg_R v1 → sg_R v2 → sg_F [54, 22045] σ σ3 → I5 n16 v1 v2 σ3 → (((v_nLengthOf σ (a1)) ≤ v2 → X7 σ3) ∧ (v2 < (v_nLengthOf σ (a1)) → V_nAdd σ3 (v1) (fun σ27 => sg_F [54, 22045] σ3 σ27 → p_nItemOf σ (a1) (v2) ∧ sg_R (v2 + 1) ∧ (∃ m, m < n16 ∧ I5 m ((sg_n (v1 + (v_nItemOf σ (a1) (v2))))) ((v2 + 1)) σ27))))) ∧ (∀ (σ3 : sg_S), sg_F [54, 22045] σ σ3 → X7 σ3 → V_nGive σ3  (fun σ19 => sg_F [48, 53, 8045, 11045, 21045, 22045, 23045] σ3 σ19 → Q σ19)))
set_option maxHeartbeats 4000000 in
set_option maxRecDepth 8000 in
theorem w_nSumUp (z : Value) (σ : sg_S) (a1 : Int) (Q : sg_S → Prop) (ra1 : sg_R a1) (w : V_nSumUp σ a1 Q) : wx z 3 163 0 [(0, .inr (.inr (.ref 45))), (1, .inl (a1))] [] σ (fun v σ' => v = none ∧ sg_F [48, 53, 54, 8045, 11045, 21045, 22045, 23045] σ σ' ∧ Q σ') := by
  unfold V_nSumUp at w
  refine wk_b tt_163 4 (pc' := 4) (ls' := [(3, .inl (0)), (2, .inl (0)), (0, .inr (.inr (.ref 45))), (1, .inl (a1))]) (st' := []) (σ' := σ) rfl ?_
  obtain ⟨I5, X7, ⟨μ6, w13⟩, w14, w15⟩ := w
  have ex17 : ∀ (σ3 : sg_S), sg_F [54, 22045] σ σ3 → X7 σ3 → wx z 3 163 33 [(0, .inr (.inr (.ref 45)))] [] σ3 (fun v σ' => v = none ∧ sg_F [48, 53, 54, 8045, 11045, 21045, 22045, 23045] σ σ' ∧ Q σ') := by
    intro σ3 hF4 w
    have w := w15 σ3 hF4 w
    refine wk_b tt_163 1 (pc' := 34) (ls' := [(0, .inr (.inr (.ref 45)))]) (st' := [.inr (.inr (.ref 45))]) (σ' := σ3) rfl ?_
    refine wk_call tt_163 rfl rfl rfl rfl rfl tt_144 rfl (by decide) (w_nGive z σ3  _  w) (fun u23 σ19 hq21 => ?_)
    obtain ⟨rfl, hF20, w⟩ := hq21
    have w := w hF20
    exact wk_rV tt_163 rfl rfl ⟨rfl, (sg_F_t (sg_F_t (sg_F_r [48, 53, 54, 8045, 11045, 21045, 22045, 23045] σ) (sg_F_m (L := [48, 53, 54, 8045, 11045, 21045, 22045, 23045]) hF4 rfl)) (sg_F_m (L := [48, 53, 54, 8045, 11045, 21045, 22045, 23045]) hF20 rfl)), w⟩
  have lp12 : ∀ (n16 : Nat) (v1 : Int) (v2 : Int) (σ3 : sg_S), sg_R v1 → sg_R v2 → sg_F [54, 22045] σ σ3 → I5 n16 v1 v2 σ3 → wx z 3 163 4 [(0, .inr (.inr (.ref 45))), (1, .inl (a1)), (2, .inl (v1)), (3, .inl (v2))] [] σ3 (fun v σ' => v = none ∧ sg_F [48, 53, 54, 8045, 11045, 21045, 22045, 23045] σ σ' ∧ Q σ') := by
    intro n16
    induction n16 using Nat.strongRecOn with
    | _ n16 ih10 =>
      intro v1 v2 σ3 r8 r9 hF4 w
      have w := w14 n16 v1 v2 σ3 r8 r9 hF4 w
      refine wk_b tt_163 3 (pc' := 7) (ls' := [(0, .inr (.inr (.ref 45))), (1, .inl (a1)), (2, .inl (v1)), (3, .inl (v2))]) (st' := [.inl (a1), .inr (.inr (.ref 45)), .inl (v2)]) (σ' := σ3) rfl ?_
      refine wk_callp tt_163 rfl rfl rfl rfl rfl tt_149 rfl (by decide) (w_nLengthOf z σ3 (a1) ra1 ) ?_
      rw [vF_nLengthOf hF4 rfl]
      have r24 := vr_nLengthOf σ  (a1) ra1 
      refine wk_if2 tt_163 (tgt := 33) rfl rfl r9 r24 (fun (h25 : (v_nLengthOf σ (a1)) ≤ v2) => ?_) (fun (h25 : v2 < (v_nLengthOf σ (a1))) => ?_)
      ·
        have w := w.1 h25
        exact wk_ls [(0, .inr (.inr (.ref 45)))] rfl ⟨rfl, trivial⟩ (ex17  σ3  (sg_F_t (sg_F_r [54, 22045] σ) (sg_F_m (L := [54, 22045]) hF4 rfl)) w)
      ·
        have w := w.2 h25
        refine wk_b tt_163 2 (pc' := 15) (ls' := [(0, .inr (.inr (.ref 45))), (1, .inl (a1)), (2, .inl (v1)), (3, .inl (v2))]) (st' := [.inl (v1), .inr (.inr (.ref 45))]) (σ' := σ3) rfl ?_
        refine wk_call tt_163 rfl rfl rfl rfl rfl tt_129 rfl (by decide) (w_nAdd z σ3 (v1) _ r8 w) (fun u31 σ27 hq29 => ?_)
        obtain ⟨rfl, hF28, w⟩ := hq29
        have w := w hF28
        refine wk_b tt_163 4 (pc' := 22) (ls' := [(0, .inr (.inr (.ref 45))), (1, .inl (a1)), (2, .inl (v1)), (3, .inl (v2))]) (st' := [.inl (v2), .inl (a1), .inr (.inr (.ref 45)), .inl (v1)]) (σ' := σ27) rfl ?_
        obtain ⟨c32, w⟩ := w
        have c32 : p_nItemOf σ27 (a1) (v2) := by
          rw [pF_nItemOf hF28 rfl, pF_nItemOf hF4 rfl]; exact c32
        refine wk_callp tt_163 rfl rfl rfl rfl rfl tt_145 rfl (by decide) (w_nItemOf z σ27 (a1) (v2) ra1 r9 c32) ?_
        rw [vF_nItemOf hF28 rfl, vF_nItemOf hF4 rfl]
        have r33 := vr_nItemOf σ  (a1) (v2) ra1 r9 (by have q := c32; rw [pF_nItemOf hF28 rfl, pF_nItemOf hF4 rfl] at q; exact q)
        refine wk_b tt_163 1 (pc' := 26) (ls' := [(0, .inr (.inr (.ref 45))), (1, .inl (a1)), (2, .inl (v1)), (3, .inl (v2))]) (st' := [.inl ((v1 + (v_nItemOf σ (a1) (v2))))]) (σ' := σ27) rfl ?_
        refine wk_n ?_
        obtain ⟨c34, w⟩ := w
        refine wk_b tt_163 3 (pc' := 4) (ls' := [(3, .inl ((v2 + 1))), (2, .inl ((sg_n (v1 + (v_nItemOf σ (a1) (v2)))))), (0, .inr (.inr (.ref 45))), (1, .inl (a1))]) (st' := []) (σ' := σ27) rfl ?_
        obtain ⟨m35, hm35, w⟩ := w
        exact wk_ls [(0, .inr (.inr (.ref 45))), (1, .inl (a1)), (2, .inl ((sg_n (v1 + (v_nItemOf σ (a1) (v2)))))), (3, .inl ((v2 + 1)))] rfl ⟨rfl, rfl, rfl, rfl, trivial⟩ (ih10 m35 hm35 ((sg_n (v1 + (v_nItemOf σ (a1) (v2))))) ((v2 + 1)) σ27 (sg_Rn _) c34 (sg_F_t (sg_F_t (sg_F_r [54, 22045] σ) (sg_F_m (L := [54, 22045]) hF4 rfl)) (sg_F_m (L := [54, 22045]) hF28 rfl)) w)
  exact wk_ls [(0, .inr (.inr (.ref 45))), (1, .inl (a1)), (2, .inl (0)), (3, .inl (0))] rfl ⟨rfl, rfl, rfl, rfl, trivial⟩ (lp12 μ6 (0) (0) σ (by decide) (by decide) (sg_F_r _ _) w13)
-- NestedVectors$NestedRun.turn
