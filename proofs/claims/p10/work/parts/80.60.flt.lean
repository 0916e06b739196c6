/-! What the methods of the flat run ask for (1). -/
/-! What the methods of the flat run ask for. -/
def V_fNext (σ : sg_S) (a1 : Int) (Q : sg_S → Prop) : Prop := Q σ
theorem w_fNext (z : Value) (σ : sg_S) (a1 : Int) (Q : sg_S → Prop) (_ : sg_R a1) (w : V_fNext σ a1 Q) : wx z 0 70 0 [(0, .inr (.inr (.ref 61))), (1, .inl a1)] [] σ (fun v σ' => v = none ∧ sg_F [] σ σ' ∧ Q σ') := wk_rV tt_70 rfl rfl ⟨rfl, sg_F_r _ _, w⟩
def V_fConcl (σ : sg_S) (a1 : Int) (Q : sg_S → Prop) : Prop := ∀ z, wx z 7 118 0 [(0, .inr (.inr (.ref 61))), (1, .inl a1)] [] σ (fun v σ' => v = none ∧ sg_F [61, 65, 66, 67, 68] σ σ' ∧ Q σ')
theorem w_fConcl (z : Value) (σ : sg_S) (a1 : Int) (Q : sg_S → Prop) (_ : sg_R a1) (w : V_fConcl σ a1 Q) : wx z 7 118 0 [(0, .inr (.inr (.ref 61))), (1, .inl a1)] [] σ (fun v σ' => v = none ∧ sg_F [61, 65, 66, 67, 68] σ σ' ∧ Q σ') := w z
-- NestedVectors$Lanes.cell
def v_lCell (σ : sg_S) (a1 : Int) (a2 : Int) : Int := (if a1 < 0 then (0 : Int) else (if a1 < 8000 then (if ((sg_g σ 80 (a1)) + a2) < 0 then (0 : Int) else (if 6000 ≤ ((sg_g σ 80 (a1)) + a2) then (0 : Int) else (sg_g σ 78 (((sg_g σ 80 (a1)) + a2))))) else (0 : Int)))
def p_lCell (σ : sg_S) (a1 : Int) (a2 : Int) : Prop := ((a1 < 0 → True) ∧ (0 ≤ a1 → ((a1 < 8000 → (0 ≤ a1 ∧ a1 < 8000) ∧ sg_R ((sg_g σ 80 (a1)) + a2) ∧ ((((sg_g σ 80 (a1)) + a2) < 0 → True) ∧ (0 ≤ ((sg_g σ 80 (a1)) + a2) → ((6000 ≤ ((sg_g σ 80 (a1)) + a2) → True) ∧ (((sg_g σ 80 (a1)) + a2) < 6000 → (0 ≤ ((sg_g σ 80 (a1)) + a2) ∧ ((sg_g σ 80 (a1)) + a2) < 6000) ∧ True))))) ∧ (8000 ≤ a1 → True))))
set_option maxHeartbeats 4000000 in
set_option maxRecDepth 8000 in
theorem w_lCell (z : Value) (σ : sg_S) (a1 : Int) (a2 : Int) (ra1 : sg_R a1) (ra2 : sg_R a2) (w : p_lCell σ a1 a2) : wx z 0 100 0 [(0, .inr (.inr (.ref 77))), (1, .inl (a1)), (2, .inl (a2))] [] σ (fun v σ' => v = some (.inl (v_lCell σ a1 a2)) ∧ σ' = σ) := by
  unfold p_lCell at w
  refine wk_b tt_100 1 (pc' := 1) (ls' := [(0, .inr (.inr (.ref 77))), (1, .inl (a1)), (2, .inl (a2))]) (st' := [.inl (a1)]) (σ' := σ) rfl ?_
  refine wk_if tt_100 (tgt := 11) rfl rfl ra1 (fun (h1 : a1 < 0) => ?_) (fun (h1 : 0 ≤ a1) => ?_)
  ·
    have w := w.1 h1
    refine wk_b tt_100 1 (pc' := 12) (ls' := [(0, .inr (.inr (.ref 77))), (1, .inl (a1)), (2, .inl (a2))]) (st' := [.inl (0)]) (σ' := σ) rfl ?_
    exact wk_rI tt_100 rfl rfl ⟨by rw [v_lCell, if_pos h1], rfl⟩
  ·
    have w := w.2 h1
    refine wk_b tt_100 2 (pc' := 8) (ls' := [(0, .inr (.inr (.ref 77))), (1, .inl (a1)), (2, .inl (a2))]) (st' := [.inl (8000), .inl (a1)]) (σ' := σ) rfl ?_
    refine wk_if2 tt_100 (tgt := 13) rfl rfl ra1 (by decide) (fun (h2 : a1 < 8000) => ?_) (fun (h2 : 8000 ≤ a1) => ?_)
    ·
      have w := w.1 h2
      refine wk_b tt_100 3 (pc' := 18) (ls' := [(0, .inr (.inr (.ref 77))), (1, .inl (a1)), (2, .inl (a2))]) (st' := [.inl (a1), .inr (.inr (.ref 80))]) (σ' := σ) rfl ?_
      obtain ⟨c3, w⟩ := w
      refine wk_ia tt_100 rfl rfl c3.1 c3.2 ra1 ?_
      obtain ⟨c4, w⟩ := w
      refine wk_b tt_100 4 (pc' := 23) (ls' := [(3, .inl (((sg_g σ 80 (a1)) + a2))), (0, .inr (.inr (.ref 77))), (1, .inl (a1)), (2, .inl (a2))]) (st' := [.inl (((sg_g σ 80 (a1)) + a2))]) (σ' := σ) rfl ?_
      refine wk_if tt_100 (tgt := 42) rfl rfl c4 (fun (h5 : ((sg_g σ 80 (a1)) + a2) < 0) => ?_) (fun (h5 : 0 ≤ ((sg_g σ 80 (a1)) + a2)) => ?_)
      ·
        have w := w.1 h5
        refine wk_b tt_100 1 (pc' := 43) (ls' := [(3, .inl (((sg_g σ 80 (a1)) + a2))), (0, .inr (.inr (.ref 77))), (1, .inl (a1)), (2, .inl (a2))]) (st' := [.inl (0)]) (σ' := σ) rfl ?_
        exact wk_rI tt_100 rfl rfl ⟨by rw [v_lCell, if_neg (show ¬ (a1 < 0) by omega), if_pos h2, if_pos h5], rfl⟩
      ·
        have w := w.2 h5
        refine wk_b tt_100 2 (pc' := 30) (ls' := [(3, .inl (((sg_g σ 80 (a1)) + a2))), (0, .inr (.inr (.ref 77))), (1, .inl (a1)), (2, .inl (a2))]) (st' := [.inl (6000), .inl (((sg_g σ 80 (a1)) + a2))]) (σ' := σ) rfl ?_
        refine wk_if2 tt_100 (tgt := 42) rfl rfl c4 (by decide) (fun (h6 : 6000 ≤ ((sg_g σ 80 (a1)) + a2)) => ?_) (fun (h6 : ((sg_g σ 80 (a1)) + a2) < 6000) => ?_)
        ·
          have w := w.1 h6
          refine wk_b tt_100 1 (pc' := 43) (ls' := [(3, .inl (((sg_g σ 80 (a1)) + a2))), (0, .inr (.inr (.ref 77))), (1, .inl (a1)), (2, .inl (a2))]) (st' := [.inl (0)]) (σ' := σ) rfl ?_
          exact wk_rI tt_100 rfl rfl ⟨by rw [v_lCell, if_neg (show ¬ (a1 < 0) by omega), if_pos h2, if_neg (show ¬ (((sg_g σ 80 (a1)) + a2) < 0) by omega), if_pos h6], rfl⟩
        ·
          have w := w.2 h6
          refine wk_b tt_100 3 (pc' := 38) (ls' := [(3, .inl (((sg_g σ 80 (a1)) + a2))), (0, .inr (.inr (.ref 77))), (1, .inl (a1)), (2, .inl (a2))]) (st' := [.inl (((sg_g σ 80 (a1)) + a2)), .inr (.inr (.ref 78))]) (σ' := σ) rfl ?_
          obtain ⟨c7, w⟩ := w
          refine wk_ia tt_100 rfl rfl c7.1 c7.2 c4 ?_
          refine wk_b tt_100 1 (pc' := 43) (ls' := [(3, .inl (((sg_g σ 80 (a1)) + a2))), (0, .inr (.inr (.ref 77))), (1, .inl (a1)), (2, .inl (a2))]) (st' := [.inl ((sg_g σ 78 (((sg_g σ 80 (a1)) + a2))))]) (σ' := σ) rfl ?_
          exact wk_rI tt_100 rfl rfl ⟨by rw [v_lCell, if_neg (show ¬ (a1 < 0) by omega), if_pos h2, if_neg (show ¬ (((sg_g σ 80 (a1)) + a2) < 0) by omega), if_neg (show ¬ (6000 ≤ ((sg_g σ 80 (a1)) + a2)) by omega)], rfl⟩
    ·
      have w := w.2 h2
      refine wk_b tt_100 1 (pc' := 12) (ls' := [(0, .inr (.inr (.ref 77))), (1, .inl (a1)), (2, .inl (a2))]) (st' := [.inl (0)]) (σ' := σ) rfl ?_
      exact wk_rI tt_100 rfl rfl ⟨by rw [v_lCell, if_neg (show ¬ (a1 < 0) by omega), if_neg (show ¬ (a1 < 8000) by omega)], rfl⟩
theorem vF_lCell {L : List Nat} {σ σ' : sg_S} {a1 : Int} {a2 : Int} (hF : sg_F L σ σ') (h0 : sg_ca L 78 = true) (h1 : sg_ca L 80 = true) : v_lCell σ' a1 a2 = v_lCell σ a1 a2 := by
  unfold v_lCell
  simp only [sg_F_ga (k := _) hF h0, sg_F_gal (k := _) hF h0, sg_F_ga (k := _) hF h1, sg_F_gal (k := _) hF h1, sx_F hF h0, sx_Fl hF h0, sx_F hF h1, sx_Fl hF h1]
theorem pF_lCell {L : List Nat} {σ σ' : sg_S} {a1 : Int} {a2 : Int} (hF : sg_F L σ σ') (h0 : sg_ca L 78 = true) (h1 : sg_ca L 80 = true) : p_lCell σ' a1 a2 = p_lCell σ a1 a2 := by
  unfold p_lCell
  simp only [sg_F_ga (k := _) hF h0, sg_F_gal (k := _) hF h0, sg_F_ga (k := _) hF h1, sg_F_gal (k := _) hF h1, sx_F hF h0, sx_Fl hF h0, sx_F hF h1, sx_Fl hF h1]
theorem vr_lCell (σ : sg_S) (a1 : Int) (a2 : Int) (ra1 : sg_R a1) (ra2 : sg_R a2) (w : p_lCell σ a1 a2) : sg_R (v_lCell σ a1 a2) := by
  unfold v_lCell
  unfold p_lCell at w
  by_cases h : a1 < 0
  · rw [if_pos h]
    first | (have w := w.1 h) | (have w := w.2.1 h) | (have w := w.2.2.1 h) | skip
    decide
  · rw [if_neg h]
    first | (have w := w.2 (by omega)) | (have w := w.2.2 (by omega)) | (have w := w.2.2.2 (by omega)) | skip
    by_cases h : a1 < 8000
    · rw [if_pos h]
      first | (have w := w.1 h) | (have w := w.2.1 h) | (have w := w.2.2.1 h) | skip
      by_cases h : ((sg_g σ 80 (a1)) + a2) < 0
      · rw [if_pos h]
        first | (have w := w.1 h) | (have w := w.2.1 h) | (have w := w.2.2.1 h) | skip
        decide
      · rw [if_neg h]
        first | (have w := w.2 (by omega)) | (have w := w.2.2 (by omega)) | (have w := w.2.2.2 (by omega)) | skip
        by_cases h : 6000 ≤ ((sg_g σ 80 (a1)) + a2)
        · rw [if_pos h]
          first | (have w := w.1 h) | (have w := w.2.1 h) | (have w := w.2.2.1 h) | skip
          decide
        · rw [if_neg h]
          first | (have w := w.2 (by omega)) | (have w := w.2.2 (by omega)) | (have w := w.2.2.2 (by omega)) | skip
          first | exact sx_R .. | exact sx_Rl .. | exact w.1 | exact w.2.1 | exact w.2.2.1 | exact sg_Rg _ _ _ | exact sg_Rgl _ _ _ | exact sg_Rr _ | exact sg_RLr _ | assumption | omega | (constructor <;> omega)
    · rw [if_neg h]
      first | (have w := w.2 (by omega)) | (have w := w.2.2 (by omega)) | (have w := w.2.2.2 (by omega)) | skip
      decide
-- NestedVectors$Lanes.layOut
def V_lLayOut (σ : sg_S) (a1 : Int) (Q : sg_S → Prop) : Prop := (∃ (I5 : Nat → Int → Int → sg_S → Prop) (X7 : sg_S → Prop), (∃ n, I5 n (0) (0) σ) ∧ (∀ (n16 : Nat) (v1 : Int) (v2 : Int) (σ3 : sg_S), sg_R v1 → sg_R v2 → sg_F [79] σ σ3 → I5 n16 v1 v2 σ3 → (((sx_at σ 81 8000 (a1)) ≤ v2 → X7 σ3) ∧ (v2 < (sx_at σ 81 8000 (a1)) → sg_R ((sx_at σ 80 8000 (a1)) + v2) ∧ ∀ σ20, σ20 = (sx_put σ3 79 6000 (((sx_at σ 80 8000 (a1)) + v2)) (v1)) → p_lCell σ (a1) (v2) ∧ sg_R (v1 + (v_lCell σ (a1) (v2))) ∧ sg_R (v2 + 1) ∧ (∃ m, m < n16 ∧ I5 m ((v1 + (v_lCell σ (a1) (v2)))) ((v2 + 1)) σ20)))) ∧ (∀ (σ3 : sg_S), sg_F [79] σ σ3 → X7 σ3 → Q σ3))
set_option maxHeartbeats 4000000 in
set_option maxRecDepth 8000 in
theorem w_lLayOut (z : Value) (σ : sg_S) (a1 : Int) (Q : sg_S → Prop) (ra1 : sg_R a1) (w : V_lLayOut σ a1 Q) : wx z 1 107 0 [(0, .inr (.inr (.ref 77))), (1, .inl (a1))] [] σ (fun v σ' => v = none ∧ sg_F [79] σ σ' ∧ Q σ') := by
  unfold V_lLayOut at w
  refine wk_b tt_107 4 (pc' := 4) (ls' := [(3, .inl (0)), (2, .inl (0)), (0, .inr (.inr (.ref 77))), (1, .inl (a1))]) (st' := []) (σ' := σ) rfl ?_
  obtain ⟨I5, X7, ⟨μ6, w13⟩, w14, w15⟩ := w
  have ex17 : ∀ (σ3 : sg_S), sg_F [79] σ σ3 → X7 σ3 → wx z 1 107 49 [] [] σ3 (fun v σ' => v = none ∧ sg_F [79] σ σ' ∧ Q σ') := by
    intro σ3 hF4 w
    have w := w15 σ3 hF4 w
    exact wk_rV tt_107 rfl rfl ⟨rfl, (sg_F_t (sg_F_r [79] σ) (sg_F_m (L := [79]) hF4 rfl)), w⟩
  have lp12 : ∀ (n16 : Nat) (v1 : Int) (v2 : Int) (σ3 : sg_S), sg_R v1 → sg_R v2 → sg_F [79] σ σ3 → I5 n16 v1 v2 σ3 → wx z 1 107 4 [(0, .inr (.inr (.ref 77))), (1, .inl (a1)), (2, .inl (v1)), (3, .inl (v2))] [] σ3 (fun v σ' => v = none ∧ sg_F [79] σ σ' ∧ Q σ') := by
    intro n16
    induction n16 using Nat.strongRecOn with
    | _ n16 ih10 =>
      intro v1 v2 σ3 r8 r9 hF4 w
      have w := w14 n16 v1 v2 σ3 r8 r9 hF4 w
      refine wk_b tt_107 4 (pc' := 10) (ls' := [(0, .inr (.inr (.ref 77))), (1, .inl (a1)), (2, .inl (v1)), (3, .inl (v2))]) (st' := [.inl (a1), .inr (.inr (.ref 81)), .inl (v2)]) (σ' := σ3) rfl ?_
      refine wk_callp tt_107 rfl rfl rfl rfl rfl tt_5 rfl (by decide) (at_i0 z σ3 81 8000 (a1) rfl (by decide) ra1) ?_
      show wx z 1 107 13 [(0, .inr (.inr (.ref 77))), (1, .inl (a1)), (2, .inl (v1)), (3, .inl (v2))] [.inl ((sx_at σ3 81 8000 (a1))), .inl (v2)] σ3 (fun v σ' => v = none ∧ sg_F [79] σ σ' ∧ Q σ')
      rw [sx_F (a := 81) (n := 8000) (i := (a1)) hF4 rfl]
      refine wk_if2 tt_107 (tgt := 49) rfl rfl r9 (sx_R ..) (fun (h18 : (sx_at σ 81 8000 (a1)) ≤ v2) => ?_) (fun (h18 : v2 < (sx_at σ 81 8000 (a1))) => ?_)
      ·
        have w := w.1 h18
        exact wk_ls [] rfl trivial (ex17  σ3  (sg_F_t (sg_F_r [79] σ) (sg_F_m (L := [79]) hF4 rfl)) w)
      ·
        have w := w.2 h18
        refine wk_b tt_107 5 (pc' := 25) (ls' := [(0, .inr (.inr (.ref 77))), (1, .inl (a1)), (2, .inl (v1)), (3, .inl (v2))]) (st' := [.inl (a1), .inr (.inr (.ref 80)), .inr (.inr (.ref 79))]) (σ' := σ3) rfl ?_
        refine wk_callp tt_107 rfl rfl rfl rfl rfl tt_5 rfl (by decide) (at_i0 z σ3 80 8000 (a1) rfl (by decide) ra1) ?_
        show wx z 1 107 28 [(0, .inr (.inr (.ref 77))), (1, .inl (a1)), (2, .inl (v1)), (3, .inl (v2))] [.inl ((sx_at σ3 80 8000 (a1))), .inr (.inr (.ref 79))] σ3 (fun v σ' => v = none ∧ sg_F [79] σ σ' ∧ Q σ')
        rw [sx_F (a := 80) (n := 8000) (i := (a1)) hF4 rfl]
        obtain ⟨c19, w⟩ := w
        refine wk_b tt_107 3 (pc' := 31) (ls' := [(0, .inr (.inr (.ref 77))), (1, .inl (a1)), (2, .inl (v1)), (3, .inl (v2))]) (st' := [.inl (v1), .inl (((sx_at σ 80 8000 (a1)) + v2)), .inr (.inr (.ref 79))]) (σ' := σ3) rfl ?_
        refine wk_callp tt_107 rfl rfl rfl rfl rfl tt_21 rfl (by decide) (pt_i0 z σ3 79 6000 (((sx_at σ 80 8000 (a1)) + v2)) (v1) rfl (by decide) c19) ?_
        show wx z 1 107 34 [(0, .inr (.inr (.ref 77))), (1, .inl (a1)), (2, .inl (v1)), (3, .inl (v2))] [] (sx_put σ3 79 6000 (((sx_at σ 80 8000 (a1)) + v2)) (v1)) (fun v σ' => v = none ∧ sg_F [79] σ σ' ∧ Q σ')
        generalize hs21 : (sx_put σ3 79 6000 (((sx_at σ 80 8000 (a1)) + v2)) (v1)) = σ20
        have w := w σ20 hs21.symm
        have hF22 : sg_F [79] σ3 σ20 := by rw [← hs21]; exact sg_F_p (sg_F_r _ _) rfl _ _ _
        refine wk_b tt_107 4 (pc' := 38) (ls' := [(0, .inr (.inr (.ref 77))), (1, .inl (a1)), (2, .inl (v1)), (3, .inl (v2))]) (st' := [.inl (v2), .inl (a1), .inr (.inr (.ref 77)), .inl (v1)]) (σ' := σ20) rfl ?_
        obtain ⟨c23, w⟩ := w
        have c23 : p_lCell σ20 (a1) (v2) := by
          rw [pF_lCell hF22 rfl rfl, pF_lCell hF4 rfl rfl]; exact c23
        refine wk_callp tt_107 rfl rfl rfl rfl rfl tt_100 rfl (by decide) (w_lCell z σ20 (a1) (v2) ra1 r9 c23) ?_
        rw [vF_lCell hF22 rfl rfl, vF_lCell hF4 rfl rfl]
        have r24 := vr_lCell σ  (a1) (v2) ra1 r9 (by have q := c23; rw [pF_lCell hF22 rfl rfl, pF_lCell hF4 rfl rfl] at q; exact q)
        obtain ⟨c25, w⟩ := w
        obtain ⟨c26, w⟩ := w
        refine wk_b tt_107 4 (pc' := 4) (ls' := [(3, .inl ((v2 + 1))), (2, .inl ((v1 + (v_lCell σ (a1) (v2))))), (0, .inr (.inr (.ref 77))), (1, .inl (a1))]) (st' := []) (σ' := σ20) rfl ?_
        obtain ⟨m27, hm27, w⟩ := w
        exact wk_ls [(0, .inr (.inr (.ref 77))), (1, .inl (a1)), (2, .inl ((v1 + (v_lCell σ (a1) (v2))))), (3, .inl ((v2 + 1)))] rfl ⟨rfl, rfl, rfl, rfl, trivial⟩ (ih10 m27 hm27 ((v1 + (v_lCell σ (a1) (v2)))) ((v2 + 1)) σ20 c25 c26 (sg_F_t (sg_F_t (sg_F_r [79] σ) (sg_F_m (L := [79]) hF4 rfl)) (sg_F_m (L := [79]) hF22 rfl)) w)
  exact wk_ls [(0, .inr (.inr (.ref 77))), (1, .inl (a1)), (2, .inl (0)), (3, .inl (0))] rfl ⟨rfl, rfl, rfl, rfl, trivial⟩ (lp12 μ6 (0) (0) σ (by decide) (by decide) (sg_F_r _ _) w13)
-- NestedVectors$Lanes.bundle
def V_lBundle (σ : sg_S) (a1 : Int) (a2 : Int) (Q : Int → sg_S → Prop) : Prop := ∀ σ1, σ1 = (sx_put σ 80 8000 ((sg_g σ 77 10)) ((sx_at σ 80 8000 (a1)))) → ∀ σ4, σ4 = (sx_put σ1 81 8000 ((sg_g σ 77 10)) ((sx_at σ 81 8000 (a1)))) → ∀ σ7, σ7 = (sx_put σ4 82 8000 ((sg_g σ 77 10)) (a2)) → V_lLayOut σ7 ((sg_g σ 77 10)) (fun σ11 => sg_F [79] σ7 σ11 → sg_R ((sg_g σ 77 10) + 1) ∧ ∀ σ17, σ17 = (sg_w σ11 77 10 (((sg_g σ 77 10) + 1))) → sg_R (((sg_g σ 77 10) + 1) - 1) ∧ Q ((((sg_g σ 77 10) + 1) - 1)) σ17)
set_option maxHeartbeats 4000000 in
set_option maxRecDepth 8000 in
theorem w_lBundle (z : Value) (σ : sg_S) (a1 : Int) (a2 : Int) (Q : Int → sg_S → Prop) (ra1 : sg_R a1) (ra2 : sg_R a2) (w : V_lBundle σ a1 a2 Q) : wx z 2 99 0 [(0, .inr (.inr (.ref 77))), (1, .inl (a1)), (2, .inl (a2))] [] σ (fun v σ' => ∃ q, v = some (.inl q) ∧ sg_R q ∧ sg_F [79, 80, 81, 82, 11077] σ σ' ∧ Q q σ') := by
  unfold V_lBundle at w
  refine wk_b tt_99 7 (pc' := 13) (ls' := [(0, .inr (.inr (.ref 77))), (1, .inl (a1)), (2, .inl (a2))]) (st' := [.inl (a1), .inr (.inr (.ref 80)), .inl ((sg_g σ 77 10)), .inr (.inr (.ref 80))]) (σ' := σ) rfl ?_
  refine wk_callp tt_99 rfl rfl rfl rfl rfl tt_5 rfl (by decide) (at_i0 z σ 80 8000 (a1) rfl (by decide) ra1) ?_
  show wx z 2 99 16 [(0, .inr (.inr (.ref 77))), (1, .inl (a1)), (2, .inl (a2))] [.inl ((sx_at σ 80 8000 (a1))), .inl ((sg_g σ 77 10)), .inr (.inr (.ref 80))] σ (fun v σ' => ∃ q, v = some (.inl q) ∧ sg_R q ∧ sg_F [79, 80, 81, 82, 11077] σ σ' ∧ Q q σ')
  refine wk_callp tt_99 rfl rfl rfl rfl rfl tt_21 rfl (by decide) (pt_i0 z σ 80 8000 ((sg_g σ 77 10)) ((sx_at σ 80 8000 (a1))) rfl (by decide) (sg_Rg _ _ _)) ?_
  show wx z 2 99 19 [(0, .inr (.inr (.ref 77))), (1, .inl (a1)), (2, .inl (a2))] [] (sx_put σ 80 8000 ((sg_g σ 77 10)) ((sx_at σ 80 8000 (a1)))) (fun v σ' => ∃ q, v = some (.inl q) ∧ sg_R q ∧ sg_F [79, 80, 81, 82, 11077] σ σ' ∧ Q q σ')
  generalize hs2 : (sx_put σ 80 8000 ((sg_g σ 77 10)) ((sx_at σ 80 8000 (a1)))) = σ1
  have w := w σ1 hs2.symm
  have hF3 : sg_F [80] σ σ1 := by rw [← hs2]; exact sg_F_p (sg_F_r _ _) rfl _ _ _
  refine wk_b tt_99 7 (pc' := 32) (ls' := [(0, .inr (.inr (.ref 77))), (1, .inl (a1)), (2, .inl (a2))]) (st' := [.inl (a1), .inr (.inr (.ref 81)), .inl ((sg_g σ1 77 10)), .inr (.inr (.ref 81))]) (σ' := σ1) rfl ?_
  rw [show (sg_g σ1 77 10) = (sg_g σ 77 10) from by rw [sg_F_ga hF3 rfl]]
  refine wk_callp tt_99 rfl rfl rfl rfl rfl tt_5 rfl (by decide) (at_i0 z σ1 81 8000 (a1) rfl (by decide) ra1) ?_
  show wx z 2 99 35 [(0, .inr (.inr (.ref 77))), (1, .inl (a1)), (2, .inl (a2))] [.inl ((sx_at σ1 81 8000 (a1))), .inl ((sg_g σ 77 10)), .inr (.inr (.ref 81))] σ1 (fun v σ' => ∃ q, v = some (.inl q) ∧ sg_R q ∧ sg_F [79, 80, 81, 82, 11077] σ σ' ∧ Q q σ')
  rw [sx_F (a := 81) (n := 8000) (i := (a1)) hF3 rfl]
  refine wk_callp tt_99 rfl rfl rfl rfl rfl tt_21 rfl (by decide) (pt_i0 z σ1 81 8000 ((sg_g σ 77 10)) ((sx_at σ 81 8000 (a1))) rfl (by decide) (sg_Rg _ _ _)) ?_
  show wx z 2 99 38 [(0, .inr (.inr (.ref 77))), (1, .inl (a1)), (2, .inl (a2))] [] (sx_put σ1 81 8000 ((sg_g σ 77 10)) ((sx_at σ 81 8000 (a1)))) (fun v σ' => ∃ q, v = some (.inl q) ∧ sg_R q ∧ sg_F [79, 80, 81, 82, 11077] σ σ' ∧ Q q σ')
  generalize hs5 : (sx_put σ1 81 8000 ((sg_g σ 77 10)) ((sx_at σ 81 8000 (a1)))) = σ4
  have w := w σ4 hs5.symm
  have hF6 : sg_F [81] σ1 σ4 := by rw [← hs5]; exact sg_F_p (sg_F_r _ _) rfl _ _ _
  refine wk_b tt_99 5 (pc' := 47) (ls' := [(0, .inr (.inr (.ref 77))), (1, .inl (a1)), (2, .inl (a2))]) (st' := [.inl (a2), .inl ((sg_g σ4 77 10)), .inr (.inr (.ref 82))]) (σ' := σ4) rfl ?_
  rw [show (sg_g σ4 77 10) = (sg_g σ 77 10) from by rw [sg_F_ga hF6 rfl, sg_F_ga hF3 rfl]]
  refine wk_callp tt_99 rfl rfl rfl rfl rfl tt_21 rfl (by decide) (pt_i0 z σ4 82 8000 ((sg_g σ 77 10)) (a2) rfl (by decide) (sg_Rg _ _ _)) ?_
  show wx z 2 99 50 [(0, .inr (.inr (.ref 77))), (1, .inl (a1)), (2, .inl (a2))] [] (sx_put σ4 82 8000 ((sg_g σ 77 10)) (a2)) (fun v σ' => ∃ q, v = some (.inl q) ∧ sg_R q ∧ sg_F [79, 80, 81, 82, 11077] σ σ' ∧ Q q σ')
  generalize hs8 : (sx_put σ4 82 8000 ((sg_g σ 77 10)) (a2)) = σ7
  have w := w σ7 hs8.symm
  have hF9 : sg_F [82] σ4 σ7 := by rw [← hs8]; exact sg_F_p (sg_F_r _ _) rfl _ _ _
  refine wk_b tt_99 3 (pc' := 55) (ls' := [(0, .inr (.inr (.ref 77))), (1, .inl (a1)), (2, .inl (a2))]) (st' := [.inl ((sg_g σ7 77 10)), .inr (.inr (.ref 77))]) (σ' := σ7) rfl ?_
  rw [show (sg_g σ7 77 10) = (sg_g σ 77 10) from by rw [sg_F_ga hF9 rfl, sg_F_ga hF6 rfl, sg_F_ga hF3 rfl]]
  refine wk_call tt_99 rfl rfl rfl rfl rfl tt_107 rfl (by decide) (w_lLayOut z σ7 ((sg_g σ 77 10)) _ (sg_Rg _ _ _) w) (fun u15 σ11 hq13 => ?_)
  obtain ⟨rfl, hF12, w⟩ := hq13
  have w := w hF12
  obtain ⟨c16, w⟩ := w
  refine wk_b tt_99 6 (pc' := 68) (ls' := [(0, .inr (.inr (.ref 77))), (1, .inl (a1)), (2, .inl (a2))]) (st' := []) (σ' := (sg_w σ11 77 10 (((sg_g σ11 77 10) + 1)))) rfl ?_
  rw [show (sg_g σ11 77 10) = (sg_g σ 77 10) from by rw [sg_F_ga hF12 rfl, sg_F_ga hF9 rfl, sg_F_ga hF6 rfl, sg_F_ga hF3 rfl]]
  generalize hs18 : (sg_w σ11 77 10 (((sg_g σ 77 10) + 1))) = σ17
  have w := w σ17 hs18.symm
  have hF19 : sg_F [11077] σ11 σ17 := by rw [← hs18]; exact sg_F_w (sg_F_r _ _) rfl _
  obtain ⟨c20, w⟩ := w
  refine wk_b tt_99 4 (pc' := 74) (ls' := [(0, .inr (.inr (.ref 77))), (1, .inl (a1)), (2, .inl (a2))]) (st' := [.inl (((sg_g σ17 77 10) - 1))]) (σ' := σ17) rfl ?_
  rw [show (sg_g σ17 77 10) = ((sg_g σ 77 10) + 1) from by rw [(show sg_g σ17 77 10 = ((sg_g σ 77 10) + 1) from by rw [← hs18]; exact sg_gw_e _ _ _ _ c16)]]
  exact wk_rI tt_99 rfl rfl ⟨_, rfl, c20, (sg_F_t (sg_F_t (sg_F_t (sg_F_t (sg_F_t (sg_F_r [79, 80, 81, 82, 11077] σ) (sg_F_m (L := [79, 80, 81, 82, 11077]) hF3 rfl)) (sg_F_m (L := [79, 80, 81, 82, 11077]) hF6 rfl)) (sg_F_m (L := [79, 80, 81, 82, 11077]) hF9 rfl)) (sg_F_m (L := [79, 80, 81, 82, 11077]) hF12 rfl)) (sg_F_m (L := [79, 80, 81, 82, 11077]) hF19 rfl)), w⟩
-- NestedVectors$Lanes.reset
def V_lReset (σ : sg_S) (Q : sg_S → Prop) : Prop := ∀ σ1, σ1 = (sg_w σ 77 11 (0)) → ∀ σ4, σ4 = (sg_w σ1 77 12 (0)) → ∀ σ7, σ7 = (sg_w σ4 77 13 (0)) → ∀ σ10, σ10 = (sg_w σ7 77 14 (0)) → ∀ σ13, σ13 = (sg_w σ10 77 15 (0)) → Q σ13
set_option maxHeartbeats 4000000 in
set_option maxRecDepth 8000 in
theorem w_lReset (z : Value) (σ : sg_S) (Q : sg_S → Prop)  (w : V_lReset σ  Q) : wx z 0 110 0 [(0, .inr (.inr (.ref 77)))] [] σ (fun v σ' => v = none ∧ sg_F [12077, 13077, 14077, 15077, 16077] σ σ' ∧ Q σ') := by
  unfold V_lReset at w
  refine wk_b tt_110 3 (pc' := 5) (ls' := [(0, .inr (.inr (.ref 77)))]) (st' := []) (σ' := (sg_w σ 77 11 (0))) rfl ?_
  generalize hs2 : (sg_w σ 77 11 (0)) = σ1
  have w := w σ1 hs2.symm
  have hF3 : sg_F [12077] σ σ1 := by rw [← hs2]; exact sg_F_w (sg_F_r _ _) rfl _
  refine wk_b tt_110 3 (pc' := 10) (ls' := [(0, .inr (.inr (.ref 77)))]) (st' := []) (σ' := (sg_w σ1 77 12 (0))) rfl ?_
  generalize hs5 : (sg_w σ1 77 12 (0)) = σ4
  have w := w σ4 hs5.symm
  have hF6 : sg_F [13077] σ1 σ4 := by rw [← hs5]; exact sg_F_w (sg_F_r _ _) rfl _
  refine wk_b tt_110 3 (pc' := 15) (ls' := [(0, .inr (.inr (.ref 77)))]) (st' := []) (σ' := (sg_w σ4 77 13 (0))) rfl ?_
  generalize hs8 : (sg_w σ4 77 13 (0)) = σ7
  have w := w σ7 hs8.symm
  have hF9 : sg_F [14077] σ4 σ7 := by rw [← hs8]; exact sg_F_w (sg_F_r _ _) rfl _
  refine wk_b tt_110 3 (pc' := 20) (ls' := [(0, .inr (.inr (.ref 77)))]) (st' := []) (σ' := (sg_w σ7 77 14 (0))) rfl ?_
  generalize hs11 : (sg_w σ7 77 14 (0)) = σ10
  have w := w σ10 hs11.symm
  have hF12 : sg_F [15077] σ7 σ10 := by rw [← hs11]; exact sg_F_w (sg_F_r _ _) rfl _
  refine wk_b tt_110 3 (pc' := 25) (ls' := [(0, .inr (.inr (.ref 77)))]) (st' := []) (σ' := (sg_w σ10 77 15 (0))) rfl ?_
  generalize hs14 : (sg_w σ10 77 15 (0)) = σ13
  have w := w σ13 hs14.symm
  have hF15 : sg_F [16077] σ10 σ13 := by rw [← hs14]; exact sg_F_w (sg_F_r _ _) rfl _
  exact wk_rV tt_110 rfl rfl ⟨rfl, (sg_F_t (sg_F_t (sg_F_t (sg_F_t (sg_F_t (sg_F_r [12077, 13077, 14077, 15077, 16077] σ) (sg_F_m (L := [12077, 13077, 14077, 15077, 16077]) hF3 rfl)) (sg_F_m (L := [12077, 13077, 14077, 15077, 16077]) hF6 rfl)) (sg_F_m (L := [12077, 13077, 14077, 15077, 16077]) hF9 rfl)) (sg_F_m (L := [12077, 13077, 14077, 15077, 16077]) hF12 rfl)) (sg_F_m (L := [12077, 13077, 14077, 15077, 16077]) hF15 rfl)), w⟩
-- NestedVectors$Lanes.clear
def V_lClear (σ : sg_S) (Q : sg_S → Prop) : Prop := ∀ σ1, σ1 = (sg_w σ 77 10 (0)) → ∀ σ4, σ4 = (sg_w σ1 77 16 (0)) → ∀ σ7, σ7 = (sg_w σ4 77 17 (0)) → ∀ σ10, σ10 = (sg_w σ7 77 18 (0)) → V_lReset σ10  (fun σ14 => sg_F [12077, 13077, 14077, 15077, 16077] σ10 σ14 → Q σ14)
set_option maxHeartbeats 4000000 in
set_option maxRecDepth 8000 in
theorem w_lClear (z : Value) (σ : sg_S) (Q : sg_S → Prop)  (w : V_lClear σ  Q) : wx z 1 101 0 [(0, .inr (.inr (.ref 77)))] [] σ (fun v σ' => v = none ∧ sg_F [11077, 12077, 13077, 14077, 15077, 16077, 17077, 18077, 19077] σ σ' ∧ Q σ') := by
  unfold V_lClear at w
  refine wk_b tt_101 3 (pc' := 5) (ls' := [(0, .inr (.inr (.ref 77)))]) (st' := []) (σ' := (sg_w σ 77 10 (0))) rfl ?_
  generalize hs2 : (sg_w σ 77 10 (0)) = σ1
  have w := w σ1 hs2.symm
  have hF3 : sg_F [11077] σ σ1 := by rw [← hs2]; exact sg_F_w (sg_F_r _ _) rfl _
  refine wk_b tt_101 3 (pc' := 10) (ls' := [(0, .inr (.inr (.ref 77)))]) (st' := []) (σ' := (sg_w σ1 77 16 (0))) rfl ?_
  generalize hs5 : (sg_w σ1 77 16 (0)) = σ4
  have w := w σ4 hs5.symm
  have hF6 : sg_F [17077] σ1 σ4 := by rw [← hs5]; exact sg_F_w (sg_F_r _ _) rfl _
  refine wk_b tt_101 3 (pc' := 15) (ls' := [(0, .inr (.inr (.ref 77)))]) (st' := []) (σ' := (sg_w σ4 77 17 (0))) rfl ?_
  generalize hs8 : (sg_w σ4 77 17 (0)) = σ7
  have w := w σ7 hs8.symm
  have hF9 : sg_F [18077] σ4 σ7 := by rw [← hs8]; exact sg_F_w (sg_F_r _ _) rfl _
  refine wk_b tt_101 3 (pc' := 20) (ls' := [(0, .inr (.inr (.ref 77)))]) (st' := []) (σ' := (sg_w σ7 77 18 (0))) rfl ?_
  generalize hs11 : (sg_w σ7 77 18 (0)) = σ10
  have w := w σ10 hs11.symm
  have hF12 : sg_F [19077] σ7 σ10 := by rw [← hs11]; exact sg_F_w (sg_F_r _ _) rfl _
  refine wk_b tt_101 1 (pc' := 21) (ls' := [(0, .inr (.inr (.ref 77)))]) (st' := [.inr (.inr (.ref 77))]) (σ' := σ10) rfl ?_
  refine wk_call tt_101 rfl rfl rfl rfl rfl tt_110 rfl (by decide) (w_lReset z σ10  _  w) (fun u18 σ14 hq16 => ?_)
  obtain ⟨rfl, hF15, w⟩ := hq16
  have w := w hF15
  exact wk_rV tt_101 rfl rfl ⟨rfl, (sg_F_t (sg_F_t (sg_F_t (sg_F_t (sg_F_t (sg_F_r [11077, 12077, 13077, 14077, 15077, 16077, 17077, 18077, 19077] σ) (sg_F_m (L := [11077, 12077, 13077, 14077, 15077, 16077, 17077, 18077, 19077]) hF3 rfl)) (sg_F_m (L := [11077, 12077, 13077, 14077, 15077, 16077, 17077, 18077, 19077]) hF6 rfl)) (sg_F_m (L := [11077, 12077, 13077, 14077, 15077, 16077, 17077, 18077, 19077]) hF9 rfl)) (sg_F_m (L := [11077, 12077, 13077, 14077, 15077, 16077, 17077, 18077, 19077]) hF12 rfl)) (sg_F_m (L := [11077, 12077, 13077, 14077, 15077, 16077, 17077, 18077, 19077]) hF15 rfl)), w⟩
-- NestedVectors$Lanes.store
def V_lStore (σ : sg_S) (a1 : Int) (Q : sg_S → Prop) : Prop := (((sg_g σ 77 16) < 0 → ∀ σ2, σ2 = (sg_w σ 77 15 (1)) → Q σ2) ∧ (0 ≤ (sg_g σ 77 16) → ((6000 ≤ (sg_g σ 77 16) → ∀ σ6, σ6 = (sg_w σ 77 15 (1)) → Q σ6) ∧ ((sg_g σ 77 16) < 6000 → (0 ≤ (sg_g σ 77 16) ∧ (sg_g σ 77 16) < 6000) ∧ ∀ σ10, σ10 = (sg_w σ 78 ((sg_g σ 77 16)) (a1)) → sg_R ((sg_g σ 77 16) + 1) ∧ ∀ σ14, σ14 = (sg_w σ10 77 16 (((sg_g σ 77 16) + 1))) → Q σ14))))
set_option maxHeartbeats 4000000 in
set_option maxRecDepth 8000 in
theorem w_lStore (z : Value) (σ : sg_S) (a1 : Int) (Q : sg_S → Prop) (ra1 : sg_R a1) (w : V_lStore σ a1 Q) : wx z 0 116 0 [(0, .inr (.inr (.ref 77))), (1, .inl (a1))] [] σ (fun v σ' => v = none ∧ sg_F [78, 16077, 17077] σ σ' ∧ Q σ') := by
  unfold V_lStore at w
  refine wk_b tt_116 2 (pc' := 4) (ls' := [(0, .inr (.inr (.ref 77))), (1, .inl (a1))]) (st' := [.inl ((sg_g σ 77 16))]) (σ' := σ) rfl ?_
  refine wk_if tt_116 (tgt := 40) rfl rfl (sg_Rg _ _ _) (fun (h1 : (sg_g σ 77 16) < 0) => ?_) (fun (h1 : 0 ≤ (sg_g σ 77 16)) => ?_)
  ·
    have w := w.1 h1
    refine wk_b tt_116 3 (pc' := 45) (ls' := [(0, .inr (.inr (.ref 77))), (1, .inl (a1))]) (st' := []) (σ' := (sg_w σ 77 15 (1))) rfl ?_
    generalize hs3 : (sg_w σ 77 15 (1)) = σ2
    have w := w σ2 hs3.symm
    have hF4 : sg_F [16077] σ σ2 := by rw [← hs3]; exact sg_F_w (sg_F_r _ _) rfl _
    exact wk_rV tt_116 rfl rfl ⟨rfl, (sg_F_t (sg_F_r [78, 16077, 17077] σ) (sg_F_m (L := [78, 16077, 17077]) hF4 rfl)), w⟩
  ·
    have w := w.2 h1
    refine wk_b tt_116 3 (pc' := 14) (ls' := [(0, .inr (.inr (.ref 77))), (1, .inl (a1))]) (st' := [.inl (6000), .inl ((sg_g σ 77 16))]) (σ' := σ) rfl ?_
    refine wk_if2 tt_116 (tgt := 40) rfl rfl (sg_Rg _ _ _) (by decide) (fun (h5 : 6000 ≤ (sg_g σ 77 16)) => ?_) (fun (h5 : (sg_g σ 77 16) < 6000) => ?_)
    ·
      have w := w.1 h5
      refine wk_b tt_116 3 (pc' := 45) (ls' := [(0, .inr (.inr (.ref 77))), (1, .inl (a1))]) (st' := []) (σ' := (sg_w σ 77 15 (1))) rfl ?_
      generalize hs7 : (sg_w σ 77 15 (1)) = σ6
      have w := w σ6 hs7.symm
      have hF8 : sg_F [16077] σ σ6 := by rw [← hs7]; exact sg_F_w (sg_F_r _ _) rfl _
      exact wk_rV tt_116 rfl rfl ⟨rfl, (sg_F_t (sg_F_r [78, 16077, 17077] σ) (sg_F_m (L := [78, 16077, 17077]) hF8 rfl)), w⟩
    ·
      have w := w.2 h5
      refine wk_b tt_116 5 (pc' := 26) (ls' := [(0, .inr (.inr (.ref 77))), (1, .inl (a1))]) (st' := [.inl (a1), .inl ((sg_g σ 77 16)), .inr (.inr (.ref 78))]) (σ' := σ) rfl ?_
      obtain ⟨c9, w⟩ := w
      refine wk_is tt_116 rfl rfl c9.1 c9.2 (sg_Rg _ _ _) ?_
      generalize hs11 : (sg_w σ 78 ((sg_g σ 77 16)) (a1)) = σ10
      have w := w σ10 hs11.symm
      have hF12 : sg_F [78] σ σ10 := by rw [← hs11]; exact sg_F_w (sg_F_r _ _) rfl _
      obtain ⟨c13, w⟩ := w
      refine wk_b tt_116 6 (pc' := 37) (ls' := [(0, .inr (.inr (.ref 77))), (1, .inl (a1))]) (st' := []) (σ' := (sg_w σ10 77 16 (((sg_g σ10 77 16) + 1)))) rfl ?_
      rw [show (sg_g σ10 77 16) = (sg_g σ 77 16) from by rw [sg_F_ga hF12 rfl]]
      generalize hs15 : (sg_w σ10 77 16 (((sg_g σ 77 16) + 1))) = σ14
      have w := w σ14 hs15.symm
      have hF16 : sg_F [17077] σ10 σ14 := by rw [← hs15]; exact sg_F_w (sg_F_r _ _) rfl _
      refine wk_b tt_116 1 (pc' := 45) (ls' := [(0, .inr (.inr (.ref 77))), (1, .inl (a1))]) (st' := []) (σ' := σ14) rfl ?_
      exact wk_rV tt_116 rfl rfl ⟨rfl, (sg_F_t (sg_F_t (sg_F_r [78, 16077, 17077] σ) (sg_F_m (L := [78, 16077, 17077]) hF12 rfl)) (sg_F_m (L := [78, 16077, 17077]) hF16 rfl)), w⟩
-- NestedVectors$Lanes.items
def v_lItems (σ : sg_S) (a1 : Int) : Int := (if a1 < 0 then ((-1) : Int) else (if 8000 ≤ a1 then ((-1) : Int) else (sg_g σ 82 (a1))))
def p_lItems (σ : sg_S) (a1 : Int) : Prop := ((a1 < 0 → True) ∧ (0 ≤ a1 → ((8000 ≤ a1 → True) ∧ (a1 < 8000 → (0 ≤ a1 ∧ a1 < 8000) ∧ True))))
set_option maxHeartbeats 4000000 in
set_option maxRecDepth 8000 in
theorem w_lItems (z : Value) (σ : sg_S) (a1 : Int) (ra1 : sg_R a1) (w : p_lItems σ a1) : wx z 0 106 0 [(0, .inr (.inr (.ref 77))), (1, .inl (a1))] [] σ (fun v σ' => v = some (.inl (v_lItems σ a1)) ∧ σ' = σ) := by
  unfold p_lItems at w
  refine wk_b tt_106 1 (pc' := 1) (ls' := [(0, .inr (.inr (.ref 77))), (1, .inl (a1))]) (st' := [.inl (a1)]) (σ' := σ) rfl ?_
  refine wk_if tt_106 (tgt := 20) rfl rfl ra1 (fun (h1 : a1 < 0) => ?_) (fun (h1 : 0 ≤ a1) => ?_)
  ·
    have w := w.1 h1
    refine wk_b tt_106 1 (pc' := 21) (ls' := [(0, .inr (.inr (.ref 77))), (1, .inl (a1))]) (st' := [.inl ((-1))]) (σ' := σ) rfl ?_
    exact wk_rI tt_106 rfl rfl ⟨by rw [v_lItems, if_pos h1], rfl⟩
  ·
    have w := w.2 h1
    refine wk_b tt_106 2 (pc' := 8) (ls' := [(0, .inr (.inr (.ref 77))), (1, .inl (a1))]) (st' := [.inl (8000), .inl (a1)]) (σ' := σ) rfl ?_
    refine wk_if2 tt_106 (tgt := 20) rfl rfl ra1 (by decide) (fun (h2 : 8000 ≤ a1) => ?_) (fun (h2 : a1 < 8000) => ?_)
    ·
      have w := w.1 h2
      refine wk_b tt_106 1 (pc' := 21) (ls' := [(0, .inr (.inr (.ref 77))), (1, .inl (a1))]) (st' := [.inl ((-1))]) (σ' := σ) rfl ?_
      exact wk_rI tt_106 rfl rfl ⟨by rw [v_lItems, if_neg (show ¬ (a1 < 0) by omega), if_pos h2], rfl⟩
    ·
      have w := w.2 h2
      refine wk_b tt_106 3 (pc' := 16) (ls' := [(0, .inr (.inr (.ref 77))), (1, .inl (a1))]) (st' := [.inl (a1), .inr (.inr (.ref 82))]) (σ' := σ) rfl ?_
      obtain ⟨c3, w⟩ := w
      refine wk_ia tt_106 rfl rfl c3.1 c3.2 ra1 ?_
      refine wk_b tt_106 1 (pc' := 21) (ls' := [(0, .inr (.inr (.ref 77))), (1, .inl (a1))]) (st' := [.inl ((sg_g σ 82 (a1)))]) (σ' := σ) rfl ?_
      exact wk_rI tt_106 rfl rfl ⟨by rw [v_lItems, if_neg (show ¬ (a1 < 0) by omega), if_neg (show ¬ (8000 ≤ a1) by omega)], rfl⟩
theorem vF_lItems {L : List Nat} {σ σ' : sg_S} {a1 : Int} (hF : sg_F L σ σ') (h0 : sg_ca L 82 = true) : v_lItems σ' a1 = v_lItems σ a1 := by
  unfold v_lItems
  simp only [sg_F_ga (k := _) hF h0, sg_F_gal (k := _) hF h0, sx_F hF h0, sx_Fl hF h0]
theorem pF_lItems {L : List Nat} {σ σ' : sg_S} {a1 : Int} (hF : sg_F L σ σ') (h0 : sg_ca L 82 = true) : p_lItems σ' a1 = p_lItems σ a1 := by
  unfold p_lItems
  simp only [sg_F_ga (k := _) hF h0, sg_F_gal (k := _) hF h0, sx_F hF h0, sx_Fl hF h0]
theorem vr_lItems (σ : sg_S) (a1 : Int) (ra1 : sg_R a1) (w : p_lItems σ a1) : sg_R (v_lItems σ a1) := by
  unfold v_lItems
  unfold p_lItems at w
  by_cases h : a1 < 0
  · rw [if_pos h]
    first | (have w := w.1 h) | (have w := w.2.1 h) | (have w := w.2.2.1 h) | skip
    decide
  · rw [if_neg h]
    first | (have w := w.2 (by omega)) | (have w := w.2.2 (by omega)) | (have w := w.2.2.2 (by omega)) | skip
    by_cases h : 8000 ≤ a1
    · rw [if_pos h]
      first | (have w := w.1 h) | (have w := w.2.1 h) | (have w := w.2.2.1 h) | skip
      decide
    · rw [if_neg h]
      first | (have w := w.2 (by omega)) | (have w := w.2.2 (by omega)) | (have w := w.2.2.2 (by omega)) | skip
      first | exact sx_R .. | exact sx_Rl .. | exact w.1 | exact w.2.1 | exact w.2.2.1 | exact sg_Rg _ _ _ | exact sg_Rgl _ _ _ | exact sg_Rr _ | exact sg_RLr _ | assumption | omega | (constructor <;> omega)
-- NestedVectors$Lanes.start
def v_lStart (σ : sg_S) (a1 : Int) (a2 : Int) : Int := (if a1 < 0 then (0 : Int) else (if a1 < 8000 then (if ((sg_g σ 80 (a1)) + a2) < 0 then (0 : Int) else (if 6000 ≤ ((sg_g σ 80 (a1)) + a2) then (0 : Int) else (sg_g σ 79 (((sg_g σ 80 (a1)) + a2))))) else (0 : Int)))
def p_lStart (σ : sg_S) (a1 : Int) (a2 : Int) : Prop := ((a1 < 0 → True) ∧ (0 ≤ a1 → ((a1 < 8000 → (0 ≤ a1 ∧ a1 < 8000) ∧ sg_R ((sg_g σ 80 (a1)) + a2) ∧ ((((sg_g σ 80 (a1)) + a2) < 0 → True) ∧ (0 ≤ ((sg_g σ 80 (a1)) + a2) → ((6000 ≤ ((sg_g σ 80 (a1)) + a2) → True) ∧ (((sg_g σ 80 (a1)) + a2) < 6000 → (0 ≤ ((sg_g σ 80 (a1)) + a2) ∧ ((sg_g σ 80 (a1)) + a2) < 6000) ∧ True))))) ∧ (8000 ≤ a1 → True))))
set_option maxHeartbeats 4000000 in
set_option maxRecDepth 8000 in
theorem w_lStart (z : Value) (σ : sg_S) (a1 : Int) (a2 : Int) (ra1 : sg_R a1) (ra2 : sg_R a2) (w : p_lStart σ a1 a2) : wx z 0 114 0 [(0, .inr (.inr (.ref 77))), (1, .inl (a1)), (2, .inl (a2))] [] σ (fun v σ' => v = some (.inl (v_lStart σ a1 a2)) ∧ σ' = σ) := by
  unfold p_lStart at w
  refine wk_b tt_114 1 (pc' := 1) (ls' := [(0, .inr (.inr (.ref 77))), (1, .inl (a1)), (2, .inl (a2))]) (st' := [.inl (a1)]) (σ' := σ) rfl ?_
  refine wk_if tt_114 (tgt := 11) rfl rfl ra1 (fun (h1 : a1 < 0) => ?_) (fun (h1 : 0 ≤ a1) => ?_)
  ·
    have w := w.1 h1
    refine wk_b tt_114 1 (pc' := 12) (ls' := [(0, .inr (.inr (.ref 77))), (1, .inl (a1)), (2, .inl (a2))]) (st' := [.inl (0)]) (σ' := σ) rfl ?_
    exact wk_rI tt_114 rfl rfl ⟨by rw [v_lStart, if_pos h1], rfl⟩
  ·
    have w := w.2 h1
    refine wk_b tt_114 2 (pc' := 8) (ls' := [(0, .inr (.inr (.ref 77))), (1, .inl (a1)), (2, .inl (a2))]) (st' := [.inl (8000), .inl (a1)]) (σ' := σ) rfl ?_
    refine wk_if2 tt_114 (tgt := 13) rfl rfl ra1 (by decide) (fun (h2 : a1 < 8000) => ?_) (fun (h2 : 8000 ≤ a1) => ?_)
    ·
      have w := w.1 h2
      refine wk_b tt_114 3 (pc' := 18) (ls' := [(0, .inr (.inr (.ref 77))), (1, .inl (a1)), (2, .inl (a2))]) (st' := [.inl (a1), .inr (.inr (.ref 80))]) (σ' := σ) rfl ?_
      obtain ⟨c3, w⟩ := w
      refine wk_ia tt_114 rfl rfl c3.1 c3.2 ra1 ?_
      obtain ⟨c4, w⟩ := w
      refine wk_b tt_114 4 (pc' := 23) (ls' := [(3, .inl (((sg_g σ 80 (a1)) + a2))), (0, .inr (.inr (.ref 77))), (1, .inl (a1)), (2, .inl (a2))]) (st' := [.inl (((sg_g σ 80 (a1)) + a2))]) (σ' := σ) rfl ?_
      refine wk_if tt_114 (tgt := 42) rfl rfl c4 (fun (h5 : ((sg_g σ 80 (a1)) + a2) < 0) => ?_) (fun (h5 : 0 ≤ ((sg_g σ 80 (a1)) + a2)) => ?_)
      ·
        have w := w.1 h5
        refine wk_b tt_114 1 (pc' := 43) (ls' := [(3, .inl (((sg_g σ 80 (a1)) + a2))), (0, .inr (.inr (.ref 77))), (1, .inl (a1)), (2, .inl (a2))]) (st' := [.inl (0)]) (σ' := σ) rfl ?_
        exact wk_rI tt_114 rfl rfl ⟨by rw [v_lStart, if_neg (show ¬ (a1 < 0) by omega), if_pos h2, if_pos h5], rfl⟩
      ·
        have w := w.2 h5
        refine wk_b tt_114 2 (pc' := 30) (ls' := [(3, .inl (((sg_g σ 80 (a1)) + a2))), (0, .inr (.inr (.ref 77))), (1, .inl (a1)), (2, .inl (a2))]) (st' := [.inl (6000), .inl (((sg_g σ 80 (a1)) + a2))]) (σ' := σ) rfl ?_
        refine wk_if2 tt_114 (tgt := 42) rfl rfl c4 (by decide) (fun (h6 : 6000 ≤ ((sg_g σ 80 (a1)) + a2)) => ?_) (fun (h6 : ((sg_g σ 80 (a1)) + a2) < 6000) => ?_)
        ·
          have w := w.1 h6
          refine wk_b tt_114 1 (pc' := 43) (ls' := [(3, .inl (((sg_g σ 80 (a1)) + a2))), (0, .inr (.inr (.ref 77))), (1, .inl (a1)), (2, .inl (a2))]) (st' := [.inl (0)]) (σ' := σ) rfl ?_
          exact wk_rI tt_114 rfl rfl ⟨by rw [v_lStart, if_neg (show ¬ (a1 < 0) by omega), if_pos h2, if_neg (show ¬ (((sg_g σ 80 (a1)) + a2) < 0) by omega), if_pos h6], rfl⟩
        ·
          have w := w.2 h6
          refine wk_b tt_114 3 (pc' := 38) (ls' := [(3, .inl (((sg_g σ 80 (a1)) + a2))), (0, .inr (.inr (.ref 77))), (1, .inl (a1)), (2, .inl (a2))]) (st' := [.inl (((sg_g σ 80 (a1)) + a2)), .inr (.inr (.ref 79))]) (σ' := σ) rfl ?_
          obtain ⟨c7, w⟩ := w
          refine wk_ia tt_114 rfl rfl c7.1 c7.2 c4 ?_
          refine wk_b tt_114 1 (pc' := 43) (ls' := [(3, .inl (((sg_g σ 80 (a1)) + a2))), (0, .inr (.inr (.ref 77))), (1, .inl (a1)), (2, .inl (a2))]) (st' := [.inl ((sg_g σ 79 (((sg_g σ 80 (a1)) + a2))))]) (σ' := σ) rfl ?_
          exact wk_rI tt_114 rfl rfl ⟨by rw [v_lStart, if_neg (show ¬ (a1 < 0) by omega), if_pos h2, if_neg (show ¬ (((sg_g σ 80 (a1)) + a2) < 0) by omega), if_neg (show ¬ (6000 ≤ ((sg_g σ 80 (a1)) + a2)) by omega)], rfl⟩
    ·
      have w := w.2 h2
      refine wk_b tt_114 1 (pc' := 12) (ls' := [(0, .inr (.inr (.ref 77))), (1, .inl (a1)), (2, .inl (a2))]) (st' := [.inl (0)]) (σ' := σ) rfl ?_
      exact wk_rI tt_114 rfl rfl ⟨by rw [v_lStart, if_neg (show ¬ (a1 < 0) by omega), if_neg (show ¬ (a1 < 8000) by omega)], rfl⟩
theorem vF_lStart {L : List Nat} {σ σ' : sg_S} {a1 : Int} {a2 : Int} (hF : sg_F L σ σ') (h0 : sg_ca L 79 = true) (h1 : sg_ca L 80 = true) : v_lStart σ' a1 a2 = v_lStart σ a1 a2 := by
  unfold v_lStart
  simp only [sg_F_ga (k := _) hF h0, sg_F_gal (k := _) hF h0, sg_F_ga (k := _) hF h1, sg_F_gal (k := _) hF h1, sx_F hF h0, sx_Fl hF h0, sx_F hF h1, sx_Fl hF h1]
theorem pF_lStart {L : List Nat} {σ σ' : sg_S} {a1 : Int} {a2 : Int} (hF : sg_F L σ σ') (h0 : sg_ca L 79 = true) (h1 : sg_ca L 80 = true) : p_lStart σ' a1 a2 = p_lStart σ a1 a2 := by
  unfold p_lStart
  simp only [sg_F_ga (k := _) hF h0, sg_F_gal (k := _) hF h0, sg_F_ga (k := _) hF h1, sg_F_gal (k := _) hF h1, sx_F hF h0, sx_Fl hF h0, sx_F hF h1, sx_Fl hF h1]
theorem vr_lStart (σ : sg_S) (a1 : Int) (a2 : Int) (ra1 : sg_R a1) (ra2 : sg_R a2) (w : p_lStart σ a1 a2) : sg_R (v_lStart σ a1 a2) := by
  unfold v_lStart
  unfold p_lStart at w
  by_cases h : a1 < 0
  · rw [if_pos h]
    first | (have w := w.1 h) | (have w := w.2.1 h) | (have w := w.2.2.1 h) | skip
    decide
  · rw [if_neg h]
    first | (have w := w.2 (by omega)) | (have w := w.2.2 (by omega)) | (have w := w.2.2.2 (by omega)) | skip
    by_cases h : a1 < 8000
    · rw [if_pos h]
      first | (have w := w.1 h) | (have w := w.2.1 h) | (have w := w.2.2.1 h) | skip
      by_cases h : ((sg_g σ 80 (a1)) + a2) < 0
      · rw [if_pos h]
        first | (have w := w.1 h) | (have w := w.2.1 h) | (have w := w.2.2.1 h) | skip
        decide
      · rw [if_neg h]
        first | (have w := w.2 (by omega)) | (have w := w.2.2 (by omega)) | (have w := w.2.2.2 (by omega)) | skip
        by_cases h : 6000 ≤ ((sg_g σ 80 (a1)) + a2)
        · rw [if_pos h]
          first | (have w := w.1 h) | (have w := w.2.1 h) | (have w := w.2.2.1 h) | skip
          decide
        · rw [if_neg h]
          first | (have w := w.2 (by omega)) | (have w := w.2.2 (by omega)) | (have w := w.2.2.2 (by omega)) | skip
          first | exact sx_R .. | exact sx_Rl .. | exact w.1 | exact w.2.1 | exact w.2.2.1 | exact sg_Rg _ _ _ | exact sg_Rgl _ _ _ | exact sg_Rr _ | exact sg_RLr _ | assumption | omega | (constructor <;> omega)
    · rw [if_neg h]
      first | (have w := w.2 (by omega)) | (have w := w.2.2 (by omega)) | (have w := w.2.2.2 (by omega)) | skip
      decide
-- NestedVectors$Lanes.copyPicks
def V_lCopyPicks (σ : sg_S) (Q : sg_S → Prop) : Prop := (∃ (I4 : Nat → Int → sg_S → Prop) (X6 : sg_S → Prop), (∃ n, I4 n (0) σ) ∧ (∀ (n14 : Nat) (v1 : Int) (σ2 : sg_S), sg_R v1 → sg_F [78, 85, 86, 87, 16077, 17077] σ σ2 → I4 n14 v1 σ2 → (((sg_g σ 77 13) ≤ v1 → X6 σ2) ∧ (v1 < (sg_g σ 77 13) → ((¬ (sg_g σ2 77 15) = 0 → X6 σ2) ∧ ((sg_g σ2 77 15) = 0 → (∃ (I21 : Nat → Int → sg_S → Prop) (X23 : sg_S → Prop), (∃ n, I21 n ((sx_at σ2 86 6000 (v1))) σ2) ∧ (∀ (n31 : Nat) (v18 : Int) (σ19 : sg_S), sg_R v18 → sg_F [78, 16077, 17077] σ2 σ19 → I21 n31 v18 σ19 → (((sx_at σ2 87 6000 (v1)) ≤ v18 → X23 σ19) ∧ (v18 < (sx_at σ2 87 6000 (v1)) → ((¬ (sg_g σ19 77 15) = 0 → X23 σ19) ∧ ((sg_g σ19 77 15) = 0 → p_lCell σ19 ((sx_at σ2 85 6000 (v1))) (v18) ∧ V_lStore σ19 ((v_lCell σ19 ((sx_at σ2 85 6000 (v1))) (v18))) (fun σ68 => sg_F [78, 16077, 17077] σ19 σ68 → sg_R (v18 + 1) ∧ (∃ m, m < n31 ∧ I21 m ((v18 + 1)) σ68))))))) ∧ (∀ (σ19 : sg_S), sg_F [78, 16077, 17077] σ2 σ19 → X23 σ19 → p_lItems σ ((sx_at σ2 85 6000 (v1))) ∧ ∀ σ35, σ35 = (sx_put σ19 85 6000 (v1) ((v_lItems σ ((sx_at σ2 85 6000 (v1)))))) → (((sx_at σ2 87 6000 (v1)) ≤ (sx_at σ2 86 6000 (v1)) → True) ∧ ((sx_at σ2 86 6000 (v1)) < (sx_at σ2 87 6000 (v1)) → p_lStart σ ((sx_at σ2 85 6000 (v1))) ((sx_at σ2 86 6000 (v1))) ∧ True)) ∧ ∀ v40 : Int, v40 = (if (sx_at σ2 87 6000 (v1)) ≤ (sx_at σ2 86 6000 (v1)) then (0 : Int) else (v_lStart σ ((sx_at σ2 85 6000 (v1))) ((sx_at σ2 86 6000 (v1))))) → sg_R v40 → ∀ σ43, σ43 = (sx_put σ35 86 6000 (v1) (v40)) → (((sx_at σ2 87 6000 (v1)) ≤ (sx_at σ2 86 6000 (v1)) → True) ∧ ((sx_at σ2 86 6000 (v1)) < (sx_at σ2 87 6000 (v1)) → sg_R ((sx_at σ2 87 6000 (v1)) - 1) ∧ p_lStart σ ((sx_at σ2 85 6000 (v1))) (((sx_at σ2 87 6000 (v1)) - 1)) ∧ p_lCell σ19 ((sx_at σ2 85 6000 (v1))) (((sx_at σ2 87 6000 (v1)) - 1)) ∧ True)) ∧ ∀ v48 : Int, v48 = (if (sx_at σ2 87 6000 (v1)) ≤ (sx_at σ2 86 6000 (v1)) then (0 : Int) else (sg_n ((v_lStart σ ((sx_at σ2 85 6000 (v1))) (((sx_at σ2 87 6000 (v1)) - 1))) + (v_lCell σ19 ((sx_at σ2 85 6000 (v1))) (((sx_at σ2 87 6000 (v1)) - 1)))))) → sg_R v48 → ∀ σ51, σ51 = (sx_put σ43 87 6000 (v1) (v48)) → sg_R (v1 + 1) ∧ (∃ m, m < n14 ∧ I4 m ((v1 + 1)) σ51)))))))) ∧ (∀ (σ2 : sg_S), sg_F [78, 85, 86, 87, 16077, 17077] σ σ2 → X6 σ2 → Q σ2))
set_option maxHeartbeats 4000000 in
set_option maxRecDepth 8000 in
theorem w_lCopyPicks (z : Value) (σ : sg_S) (Q : sg_S → Prop)  (w : V_lCopyPicks σ  Q) : wx z 1 103 0 [(0, .inr (.inr (.ref 77)))] [] σ (fun v σ' => v = none ∧ sg_F [78, 85, 86, 87, 16077, 17077] σ σ' ∧ Q σ') := by
  unfold V_lCopyPicks at w
  refine wk_b tt_103 2 (pc' := 2) (ls' := [(1, .inl (0)), (0, .inr (.inr (.ref 77)))]) (st' := []) (σ' := σ) rfl ?_
  obtain ⟨I4, X6, ⟨μ5, w11⟩, w12, w13⟩ := w
  have ex15 : ∀ (σ2 : sg_S), sg_F [78, 85, 86, 87, 16077, 17077] σ σ2 → X6 σ2 → wx z 1 103 159 [] [] σ2 (fun v σ' => v = none ∧ sg_F [78, 85, 86, 87, 16077, 17077] σ σ' ∧ Q σ') := by
    intro σ2 hF3 w
    have w := w13 σ2 hF3 w
    exact wk_rV tt_103 rfl rfl ⟨rfl, (sg_F_t (sg_F_r [78, 85, 86, 87, 16077, 17077] σ) (sg_F_m (L := [78, 85, 86, 87, 16077, 17077]) hF3 rfl)), w⟩
  have lp10 : ∀ (n14 : Nat) (v1 : Int) (σ2 : sg_S), sg_R v1 → sg_F [78, 85, 86, 87, 16077, 17077] σ σ2 → I4 n14 v1 σ2 → wx z 1 103 2 [(0, .inr (.inr (.ref 77))), (1, .inl (v1))] [] σ2 (fun v σ' => v = none ∧ sg_F [78, 85, 86, 87, 16077, 17077] σ σ' ∧ Q σ') := by
    intro n14
    induction n14 using Nat.strongRecOn with
    | _ n14 ih8 =>
      intro v1 σ2 r7 hF3 w
      have w := w12 n14 v1 σ2 r7 hF3 w
      refine wk_b tt_103 3 (pc' := 7) (ls' := [(0, .inr (.inr (.ref 77))), (1, .inl (v1))]) (st' := [.inl ((sg_g σ2 77 13)), .inl (v1)]) (σ' := σ2) rfl ?_
      rw [show (sg_g σ2 77 13) = (sg_g σ 77 13) from by rw [sg_F_g hF3 rfl]]
      refine wk_if2 tt_103 (tgt := 159) rfl rfl r7 (sg_Rg _ _ _) (fun (h16 : (sg_g σ 77 13) ≤ v1) => ?_) (fun (h16 : v1 < (sg_g σ 77 13)) => ?_)
      ·
        have w := w.1 h16
        exact wk_ls [] rfl trivial (ex15  σ2  (sg_F_t (sg_F_r [78, 85, 86, 87, 16077, 17077] σ) (sg_F_m (L := [78, 85, 86, 87, 16077, 17077]) hF3 rfl)) w)
      ·
        have w := w.2 h16
        refine wk_b tt_103 2 (pc' := 14) (ls' := [(0, .inr (.inr (.ref 77))), (1, .inl (v1))]) (st' := [.inl ((sg_g σ2 77 15))]) (σ' := σ2) rfl ?_
        refine wk_if tt_103 (tgt := 159) rfl rfl (sg_Rg _ _ _) (fun (h17 : ¬ (sg_g σ2 77 15) = 0) => ?_) (fun (h17 : (sg_g σ2 77 15) = 0) => ?_)
        ·
          have w := w.1 h17
          exact wk_ls [] rfl trivial (ex15  σ2  (sg_F_t (sg_F_r [78, 85, 86, 87, 16077, 17077] σ) (sg_F_m (L := [78, 85, 86, 87, 16077, 17077]) hF3 rfl)) w)
        ·
          have w := w.2 h17
          refine wk_b tt_103 3 (pc' := 22) (ls' := [(0, .inr (.inr (.ref 77))), (1, .inl (v1))]) (st' := [.inl (v1), .inr (.inr (.ref 85))]) (σ' := σ2) rfl ?_
          refine wk_callp tt_103 rfl rfl rfl rfl rfl tt_5 rfl (by decide) (at_i0 z σ2 85 6000 (v1) rfl (by decide) r7) ?_
          show wx z 1 103 25 [(0, .inr (.inr (.ref 77))), (1, .inl (v1))] [.inl ((sx_at σ2 85 6000 (v1)))] σ2 (fun v σ' => v = none ∧ sg_F [78, 85, 86, 87, 16077, 17077] σ σ' ∧ Q σ')
          refine wk_b tt_103 4 (pc' := 31) (ls' := [(2, .inl ((sx_at σ2 85 6000 (v1)))), (0, .inr (.inr (.ref 77))), (1, .inl (v1))]) (st' := [.inl (v1), .inr (.inr (.ref 86))]) (σ' := σ2) rfl ?_
          refine wk_callp tt_103 rfl rfl rfl rfl rfl tt_5 rfl (by decide) (at_i0 z σ2 86 6000 (v1) rfl (by decide) r7) ?_
          show wx z 1 103 34 [(2, .inl ((sx_at σ2 85 6000 (v1)))), (0, .inr (.inr (.ref 77))), (1, .inl (v1))] [.inl ((sx_at σ2 86 6000 (v1)))] σ2 (fun v σ' => v = none ∧ sg_F [78, 85, 86, 87, 16077, 17077] σ σ' ∧ Q σ')
          refine wk_b tt_103 4 (pc' := 40) (ls' := [(3, .inl ((sx_at σ2 86 6000 (v1)))), (2, .inl ((sx_at σ2 85 6000 (v1)))), (0, .inr (.inr (.ref 77))), (1, .inl (v1))]) (st' := [.inl (v1), .inr (.inr (.ref 87))]) (σ' := σ2) rfl ?_
          refine wk_callp tt_103 rfl rfl rfl rfl rfl tt_5 rfl (by decide) (at_i0 z σ2 87 6000 (v1) rfl (by decide) r7) ?_
          show wx z 1 103 43 [(3, .inl ((sx_at σ2 86 6000 (v1)))), (2, .inl ((sx_at σ2 85 6000 (v1)))), (0, .inr (.inr (.ref 77))), (1, .inl (v1))] [.inl ((sx_at σ2 87 6000 (v1)))] σ2 (fun v σ' => v = none ∧ sg_F [78, 85, 86, 87, 16077, 17077] σ σ' ∧ Q σ')
          refine wk_b tt_103 3 (pc' := 48) (ls' := [(5, .inl ((sx_at σ2 86 6000 (v1)))), (4, .inl ((sx_at σ2 87 6000 (v1)))), (3, .inl ((sx_at σ2 86 6000 (v1)))), (2, .inl ((sx_at σ2 85 6000 (v1)))), (0, .inr (.inr (.ref 77))), (1, .inl (v1))]) (st' := []) (σ' := σ2) rfl ?_
          obtain ⟨I21, X23, ⟨μ22, w28⟩, w29, w30⟩ := w
          have ex32 : ∀ (σ19 : sg_S), sg_F [78, 16077, 17077] σ2 σ19 → X23 σ19 → wx z 1 103 79 [(0, .inr (.inr (.ref 77))), (1, .inl (v1)), (2, .inl ((sx_at σ2 85 6000 (v1)))), (3, .inl ((sx_at σ2 86 6000 (v1)))), (4, .inl ((sx_at σ2 87 6000 (v1))))] [] σ19 (fun v σ' => v = none ∧ sg_F [78, 85, 86, 87, 16077, 17077] σ σ' ∧ Q σ') := by
            intro σ19 hF20 w
            have w := w30 σ19 hF20 w
            refine wk_b tt_103 5 (pc' := 86) (ls' := [(0, .inr (.inr (.ref 77))), (1, .inl (v1)), (2, .inl ((sx_at σ2 85 6000 (v1)))), (3, .inl ((sx_at σ2 86 6000 (v1)))), (4, .inl ((sx_at σ2 87 6000 (v1))))]) (st' := [.inl ((sx_at σ2 85 6000 (v1))), .inr (.inr (.ref 77)), .inl (v1), .inr (.inr (.ref 85))]) (σ' := σ19) rfl ?_
            obtain ⟨c33, w⟩ := w
            have c33 : p_lItems σ19 ((sx_at σ2 85 6000 (v1))) := by
              rw [pF_lItems hF20 rfl, pF_lItems hF3 rfl]; exact c33
            refine wk_callp tt_103 rfl rfl rfl rfl rfl tt_106 rfl (by decide) (w_lItems z σ19 ((sx_at σ2 85 6000 (v1))) (sx_R ..) c33) ?_
            rw [vF_lItems hF20 rfl, vF_lItems hF3 rfl]
            have r34 := vr_lItems σ  ((sx_at σ2 85 6000 (v1))) (sx_R ..) (by have q := c33; rw [pF_lItems hF20 rfl, pF_lItems hF3 rfl] at q; exact q)
            refine wk_callp tt_103 rfl rfl rfl rfl rfl tt_21 rfl (by decide) (pt_i0 z σ19 85 6000 (v1) ((v_lItems σ ((sx_at σ2 85 6000 (v1))))) rfl (by decide) r7) ?_
            show wx z 1 103 92 [(0, .inr (.inr (.ref 77))), (1, .inl (v1)), (2, .inl ((sx_at σ2 85 6000 (v1)))), (3, .inl ((sx_at σ2 86 6000 (v1)))), (4, .inl ((sx_at σ2 87 6000 (v1))))] [] (sx_put σ19 85 6000 (v1) ((v_lItems σ ((sx_at σ2 85 6000 (v1)))))) (fun v σ' => v = none ∧ sg_F [78, 85, 86, 87, 16077, 17077] σ σ' ∧ Q σ')
            generalize hs36 : (sx_put σ19 85 6000 (v1) ((v_lItems σ ((sx_at σ2 85 6000 (v1)))))) = σ35
            have w := w σ35 hs36.symm
            have hF37 : sg_F [85] σ19 σ35 := by rw [← hs36]; exact sg_F_p (sg_F_r _ _) rfl _ _ _
            refine wk_b tt_103 5 (pc' := 100) (ls' := [(0, .inr (.inr (.ref 77))), (1, .inl (v1)), (2, .inl ((sx_at σ2 85 6000 (v1)))), (3, .inl ((sx_at σ2 86 6000 (v1)))), (4, .inl ((sx_at σ2 87 6000 (v1))))]) (st' := [.inl ((sx_at σ2 87 6000 (v1))), .inl ((sx_at σ2 86 6000 (v1))), .inl (v1), .inr (.inr (.ref 86))]) (σ' := σ35) rfl ?_
            obtain ⟨wp, w⟩ := w
            have jn39 : ∀ v40 : Int, v40 = (if (sx_at σ2 87 6000 (v1)) ≤ (sx_at σ2 86 6000 (v1)) then (0 : Int) else (v_lStart σ ((sx_at σ2 85 6000 (v1))) ((sx_at σ2 86 6000 (v1))))) → sg_R v40 → wx z 1 103 113 [(0, .inr (.inr (.ref 77))), (1, .inl (v1)), (2, .inl ((sx_at σ2 85 6000 (v1)))), (3, .inl ((sx_at σ2 86 6000 (v1)))), (4, .inl ((sx_at σ2 87 6000 (v1))))] [.inl (v40), .inl (v1), .inr (.inr (.ref 86))] σ35 (fun v σ' => v = none ∧ sg_F [78, 85, 86, 87, 16077, 17077] σ σ' ∧ Q σ') := by
              intro v40 e42 r41
              have w := w v40 e42 r41
              refine wk_callp tt_103 rfl rfl rfl rfl rfl tt_21 rfl (by decide) (pt_i0 z σ35 86 6000 (v1) (v40) rfl (by decide) r7) ?_
              show wx z 1 103 116 [(0, .inr (.inr (.ref 77))), (1, .inl (v1)), (2, .inl ((sx_at σ2 85 6000 (v1)))), (3, .inl ((sx_at σ2 86 6000 (v1)))), (4, .inl ((sx_at σ2 87 6000 (v1))))] [] (sx_put σ35 86 6000 (v1) (v40)) (fun v σ' => v = none ∧ sg_F [78, 85, 86, 87, 16077, 17077] σ σ' ∧ Q σ')
              generalize hs44 : (sx_put σ35 86 6000 (v1) (v40)) = σ43
              have w := w σ43 hs44.symm
              have hF45 : sg_F [86] σ35 σ43 := by rw [← hs44]; exact sg_F_p (sg_F_r _ _) rfl _ _ _
              refine wk_b tt_103 5 (pc' := 124) (ls' := [(0, .inr (.inr (.ref 77))), (1, .inl (v1)), (2, .inl ((sx_at σ2 85 6000 (v1)))), (3, .inl ((sx_at σ2 86 6000 (v1)))), (4, .inl ((sx_at σ2 87 6000 (v1))))]) (st' := [.inl ((sx_at σ2 87 6000 (v1))), .inl ((sx_at σ2 86 6000 (v1))), .inl (v1), .inr (.inr (.ref 87))]) (σ' := σ43) rfl ?_
              obtain ⟨wp, w⟩ := w
              have jn47 : ∀ v48 : Int, v48 = (if (sx_at σ2 87 6000 (v1)) ≤ (sx_at σ2 86 6000 (v1)) then (0 : Int) else (sg_n ((v_lStart σ ((sx_at σ2 85 6000 (v1))) (((sx_at σ2 87 6000 (v1)) - 1))) + (v_lCell σ19 ((sx_at σ2 85 6000 (v1))) (((sx_at σ2 87 6000 (v1)) - 1)))))) → sg_R v48 → wx z 1 103 150 [(0, .inr (.inr (.ref 77))), (1, .inl (v1))] [.inl (v48), .inl (v1), .inr (.inr (.ref 87))] σ43 (fun v σ' => v = none ∧ sg_F [78, 85, 86, 87, 16077, 17077] σ σ' ∧ Q σ') := by
                intro v48 e50 r49
                have w := w v48 e50 r49
                refine wk_callp tt_103 rfl rfl rfl rfl rfl tt_21 rfl (by decide) (pt_i0 z σ43 87 6000 (v1) (v48) rfl (by decide) r7) ?_
                show wx z 1 103 153 [(0, .inr (.inr (.ref 77))), (1, .inl (v1))] [] (sx_put σ43 87 6000 (v1) (v48)) (fun v σ' => v = none ∧ sg_F [78, 85, 86, 87, 16077, 17077] σ σ' ∧ Q σ')
                generalize hs52 : (sx_put σ43 87 6000 (v1) (v48)) = σ51
                have w := w σ51 hs52.symm
                have hF53 : sg_F [87] σ43 σ51 := by rw [← hs52]; exact sg_F_p (sg_F_r _ _) rfl _ _ _
                obtain ⟨c54, w⟩ := w
                refine wk_b tt_103 2 (pc' := 2) (ls' := [(1, .inl ((v1 + 1))), (0, .inr (.inr (.ref 77)))]) (st' := []) (σ' := σ51) rfl ?_
                obtain ⟨m55, hm55, w⟩ := w
                exact wk_ls [(0, .inr (.inr (.ref 77))), (1, .inl ((v1 + 1)))] rfl ⟨rfl, rfl, trivial⟩ (ih8 m55 hm55 ((v1 + 1)) σ51 c54 (sg_F_t (sg_F_t (sg_F_t (sg_F_t (sg_F_t (sg_F_r [78, 85, 86, 87, 16077, 17077] σ) (sg_F_m (L := [78, 85, 86, 87, 16077, 17077]) hF3 rfl)) (sg_F_m (L := [78, 85, 86, 87, 16077, 17077]) hF20 rfl)) (sg_F_m (L := [78, 85, 86, 87, 16077, 17077]) hF37 rfl)) (sg_F_m (L := [78, 85, 86, 87, 16077, 17077]) hF45 rfl)) (sg_F_m (L := [78, 85, 86, 87, 16077, 17077]) hF53 rfl)) w)
              have w := wp
              refine wk_if2 tt_103 (tgt := 149) rfl rfl (sx_R ..) (sx_R ..) (fun (h46 : (sx_at σ2 87 6000 (v1)) ≤ (sx_at σ2 86 6000 (v1))) => ?_) (fun (h46 : (sx_at σ2 86 6000 (v1)) < (sx_at σ2 87 6000 (v1))) => ?_)
              ·
                have w := w.1 h46
                refine wk_b tt_103 1 (pc' := 150) (ls' := [(0, .inr (.inr (.ref 77))), (1, .inl (v1)), (2, .inl ((sx_at σ2 85 6000 (v1)))), (3, .inl ((sx_at σ2 86 6000 (v1)))), (4, .inl ((sx_at σ2 87 6000 (v1))))]) (st' := [.inl (0), .inl (v1), .inr (.inr (.ref 87))]) (σ' := σ43) rfl ?_
                exact wk_ls [(0, .inr (.inr (.ref 77))), (1, .inl (v1))] rfl ⟨rfl, rfl, trivial⟩ (jn47 (0) (by simp only [if_pos h46]) (by decide))
              ·
                have w := w.2 h46
                obtain ⟨c56, w⟩ := w
                refine wk_b tt_103 5 (pc' := 133) (ls' := [(0, .inr (.inr (.ref 77))), (1, .inl (v1)), (2, .inl ((sx_at σ2 85 6000 (v1)))), (3, .inl ((sx_at σ2 86 6000 (v1)))), (4, .inl ((sx_at σ2 87 6000 (v1))))]) (st' := [.inl (((sx_at σ2 87 6000 (v1)) - 1)), .inl ((sx_at σ2 85 6000 (v1))), .inr (.inr (.ref 77)), .inl (v1), .inr (.inr (.ref 87))]) (σ' := σ43) rfl ?_
                obtain ⟨c57, w⟩ := w
                have c57 : p_lStart σ43 ((sx_at σ2 85 6000 (v1))) (((sx_at σ2 87 6000 (v1)) - 1)) := by
                  rw [pF_lStart hF45 rfl rfl, pF_lStart hF37 rfl rfl, pF_lStart hF20 rfl rfl, pF_lStart hF3 rfl rfl]; exact c57
                refine wk_callp tt_103 rfl rfl rfl rfl rfl tt_114 rfl (by decide) (w_lStart z σ43 ((sx_at σ2 85 6000 (v1))) (((sx_at σ2 87 6000 (v1)) - 1)) (sx_R ..) c56 c57) ?_
                rw [vF_lStart hF45 rfl rfl, vF_lStart hF37 rfl rfl, vF_lStart hF20 rfl rfl, vF_lStart hF3 rfl rfl]
                have r58 := vr_lStart σ  ((sx_at σ2 85 6000 (v1))) (((sx_at σ2 87 6000 (v1)) - 1)) (sx_R ..) c56 (by have q := c57; rw [pF_lStart hF45 rfl rfl, pF_lStart hF37 rfl rfl, pF_lStart hF20 rfl rfl, pF_lStart hF3 rfl rfl] at q; exact q)
                refine wk_b tt_103 5 (pc' := 142) (ls' := [(0, .inr (.inr (.ref 77))), (1, .inl (v1)), (2, .inl ((sx_at σ2 85 6000 (v1)))), (3, .inl ((sx_at σ2 86 6000 (v1)))), (4, .inl ((sx_at σ2 87 6000 (v1))))]) (st' := [.inl (((sx_at σ2 87 6000 (v1)) - 1)), .inl ((sx_at σ2 85 6000 (v1))), .inr (.inr (.ref 77)), .inl ((v_lStart σ ((sx_at σ2 85 6000 (v1))) (((sx_at σ2 87 6000 (v1)) - 1)))), .inl (v1), .inr (.inr (.ref 87))]) (σ' := σ43) rfl ?_
                obtain ⟨c59, w⟩ := w
                have c59 : p_lCell σ43 ((sx_at σ2 85 6000 (v1))) (((sx_at σ2 87 6000 (v1)) - 1)) := by
                  rw [pF_lCell hF45 rfl rfl, pF_lCell hF37 rfl rfl]; exact c59
                refine wk_callp tt_103 rfl rfl rfl rfl rfl tt_100 rfl (by decide) (w_lCell z σ43 ((sx_at σ2 85 6000 (v1))) (((sx_at σ2 87 6000 (v1)) - 1)) (sx_R ..) c56 c59) ?_
                rw [vF_lCell hF45 rfl rfl, vF_lCell hF37 rfl rfl]
                have r60 := vr_lCell σ19  ((sx_at σ2 85 6000 (v1))) (((sx_at σ2 87 6000 (v1)) - 1)) (sx_R ..) c56 (by have q := c59; rw [pF_lCell hF45 rfl rfl, pF_lCell hF37 rfl rfl] at q; exact q)
                refine wk_b tt_103 1 (pc' := 146) (ls' := [(0, .inr (.inr (.ref 77))), (1, .inl (v1)), (2, .inl ((sx_at σ2 85 6000 (v1)))), (3, .inl ((sx_at σ2 86 6000 (v1)))), (4, .inl ((sx_at σ2 87 6000 (v1))))]) (st' := [.inl (((v_lStart σ ((sx_at σ2 85 6000 (v1))) (((sx_at σ2 87 6000 (v1)) - 1))) + (v_lCell σ19 ((sx_at σ2 85 6000 (v1))) (((sx_at σ2 87 6000 (v1)) - 1))))), .inl (v1), .inr (.inr (.ref 87))]) (σ' := σ43) rfl ?_
                refine wk_n ?_
                refine wk_b tt_103 1 (pc' := 150) (ls' := [(0, .inr (.inr (.ref 77))), (1, .inl (v1)), (2, .inl ((sx_at σ2 85 6000 (v1)))), (3, .inl ((sx_at σ2 86 6000 (v1)))), (4, .inl ((sx_at σ2 87 6000 (v1))))]) (st' := [.inl ((sg_n ((v_lStart σ ((sx_at σ2 85 6000 (v1))) (((sx_at σ2 87 6000 (v1)) - 1))) + (v_lCell σ19 ((sx_at σ2 85 6000 (v1))) (((sx_at σ2 87 6000 (v1)) - 1)))))), .inl (v1), .inr (.inr (.ref 87))]) (σ' := σ43) rfl ?_
                exact wk_ls [(0, .inr (.inr (.ref 77))), (1, .inl (v1))] rfl ⟨rfl, rfl, trivial⟩ (jn47 ((sg_n ((v_lStart σ ((sx_at σ2 85 6000 (v1))) (((sx_at σ2 87 6000 (v1)) - 1))) + (v_lCell σ19 ((sx_at σ2 85 6000 (v1))) (((sx_at σ2 87 6000 (v1)) - 1)))))) (by simp only [if_neg (show ¬ ((sx_at σ2 87 6000 (v1)) ≤ (sx_at σ2 86 6000 (v1))) by omega)]) (sg_Rn _))
            have w := wp
            refine wk_if2 tt_103 (tgt := 112) rfl rfl (sx_R ..) (sx_R ..) (fun (h38 : (sx_at σ2 87 6000 (v1)) ≤ (sx_at σ2 86 6000 (v1))) => ?_) (fun (h38 : (sx_at σ2 86 6000 (v1)) < (sx_at σ2 87 6000 (v1))) => ?_)
            ·
              have w := w.1 h38
              refine wk_b tt_103 1 (pc' := 113) (ls' := [(0, .inr (.inr (.ref 77))), (1, .inl (v1)), (2, .inl ((sx_at σ2 85 6000 (v1)))), (3, .inl ((sx_at σ2 86 6000 (v1)))), (4, .inl ((sx_at σ2 87 6000 (v1))))]) (st' := [.inl (0), .inl (v1), .inr (.inr (.ref 86))]) (σ' := σ35) rfl ?_
              exact wk_ls [(0, .inr (.inr (.ref 77))), (1, .inl (v1)), (2, .inl ((sx_at σ2 85 6000 (v1)))), (3, .inl ((sx_at σ2 86 6000 (v1)))), (4, .inl ((sx_at σ2 87 6000 (v1))))] rfl ⟨rfl, rfl, rfl, rfl, rfl, trivial⟩ (jn39 (0) (by simp only [if_pos h38]) (by decide))
            ·
              have w := w.2 h38
              refine wk_b tt_103 3 (pc' := 106) (ls' := [(0, .inr (.inr (.ref 77))), (1, .inl (v1)), (2, .inl ((sx_at σ2 85 6000 (v1)))), (3, .inl ((sx_at σ2 86 6000 (v1)))), (4, .inl ((sx_at σ2 87 6000 (v1))))]) (st' := [.inl ((sx_at σ2 86 6000 (v1))), .inl ((sx_at σ2 85 6000 (v1))), .inr (.inr (.ref 77)), .inl (v1), .inr (.inr (.ref 86))]) (σ' := σ35) rfl ?_
              obtain ⟨c61, w⟩ := w
              have c61 : p_lStart σ35 ((sx_at σ2 85 6000 (v1))) ((sx_at σ2 86 6000 (v1))) := by
                rw [pF_lStart hF37 rfl rfl, pF_lStart hF20 rfl rfl, pF_lStart hF3 rfl rfl]; exact c61
              refine wk_callp tt_103 rfl rfl rfl rfl rfl tt_114 rfl (by decide) (w_lStart z σ35 ((sx_at σ2 85 6000 (v1))) ((sx_at σ2 86 6000 (v1))) (sx_R ..) (sx_R ..) c61) ?_
              rw [vF_lStart hF37 rfl rfl, vF_lStart hF20 rfl rfl, vF_lStart hF3 rfl rfl]
              have r62 := vr_lStart σ  ((sx_at σ2 85 6000 (v1))) ((sx_at σ2 86 6000 (v1))) (sx_R ..) (sx_R ..) (by have q := c61; rw [pF_lStart hF37 rfl rfl, pF_lStart hF20 rfl rfl, pF_lStart hF3 rfl rfl] at q; exact q)
              refine wk_b tt_103 1 (pc' := 113) (ls' := [(0, .inr (.inr (.ref 77))), (1, .inl (v1)), (2, .inl ((sx_at σ2 85 6000 (v1)))), (3, .inl ((sx_at σ2 86 6000 (v1)))), (4, .inl ((sx_at σ2 87 6000 (v1))))]) (st' := [.inl ((v_lStart σ ((sx_at σ2 85 6000 (v1))) ((sx_at σ2 86 6000 (v1))))), .inl (v1), .inr (.inr (.ref 86))]) (σ' := σ35) rfl ?_
              exact wk_ls [(0, .inr (.inr (.ref 77))), (1, .inl (v1)), (2, .inl ((sx_at σ2 85 6000 (v1)))), (3, .inl ((sx_at σ2 86 6000 (v1)))), (4, .inl ((sx_at σ2 87 6000 (v1))))] rfl ⟨rfl, rfl, rfl, rfl, rfl, trivial⟩ (jn39 ((v_lStart σ ((sx_at σ2 85 6000 (v1))) ((sx_at σ2 86 6000 (v1))))) (by simp only [if_neg (show ¬ ((sx_at σ2 87 6000 (v1)) ≤ (sx_at σ2 86 6000 (v1))) by omega)]) r62)
          have lp27 : ∀ (n31 : Nat) (v18 : Int) (σ19 : sg_S), sg_R v18 → sg_F [78, 16077, 17077] σ2 σ19 → I21 n31 v18 σ19 → wx z 1 103 48 [(0, .inr (.inr (.ref 77))), (1, .inl (v1)), (2, .inl ((sx_at σ2 85 6000 (v1)))), (3, .inl ((sx_at σ2 86 6000 (v1)))), (4, .inl ((sx_at σ2 87 6000 (v1)))), (5, .inl (v18))] [] σ19 (fun v σ' => v = none ∧ sg_F [78, 85, 86, 87, 16077, 17077] σ σ' ∧ Q σ') := by
            intro n31
            induction n31 using Nat.strongRecOn with
            | _ n31 ih25 =>
              intro v18 σ19 r24 hF20 w
              have w := w29 n31 v18 σ19 r24 hF20 w
              refine wk_b tt_103 2 (pc' := 52) (ls' := [(0, .inr (.inr (.ref 77))), (1, .inl (v1)), (2, .inl ((sx_at σ2 85 6000 (v1)))), (3, .inl ((sx_at σ2 86 6000 (v1)))), (4, .inl ((sx_at σ2 87 6000 (v1)))), (5, .inl (v18))]) (st' := [.inl ((sx_at σ2 87 6000 (v1))), .inl (v18)]) (σ' := σ19) rfl ?_
              refine wk_if2 tt_103 (tgt := 79) rfl rfl r24 (sx_R ..) (fun (h63 : (sx_at σ2 87 6000 (v1)) ≤ v18) => ?_) (fun (h63 : v18 < (sx_at σ2 87 6000 (v1))) => ?_)
              ·
                have w := w.1 h63
                exact wk_ls [(0, .inr (.inr (.ref 77))), (1, .inl (v1)), (2, .inl ((sx_at σ2 85 6000 (v1)))), (3, .inl ((sx_at σ2 86 6000 (v1)))), (4, .inl ((sx_at σ2 87 6000 (v1))))] rfl ⟨rfl, rfl, rfl, rfl, rfl, trivial⟩ (ex32  σ19  (sg_F_t (sg_F_r [78, 16077, 17077] σ2) (sg_F_m (L := [78, 16077, 17077]) hF20 rfl)) w)
              ·
                have w := w.2 h63
                refine wk_b tt_103 2 (pc' := 59) (ls' := [(0, .inr (.inr (.ref 77))), (1, .inl (v1)), (2, .inl ((sx_at σ2 85 6000 (v1)))), (3, .inl ((sx_at σ2 86 6000 (v1)))), (4, .inl ((sx_at σ2 87 6000 (v1)))), (5, .inl (v18))]) (st' := [.inl ((sg_g σ19 77 15))]) (σ' := σ19) rfl ?_
                refine wk_if tt_103 (tgt := 79) rfl rfl (sg_Rg _ _ _) (fun (h64 : ¬ (sg_g σ19 77 15) = 0) => ?_) (fun (h64 : (sg_g σ19 77 15) = 0) => ?_)
                ·
                  have w := w.1 h64
                  exact wk_ls [(0, .inr (.inr (.ref 77))), (1, .inl (v1)), (2, .inl ((sx_at σ2 85 6000 (v1)))), (3, .inl ((sx_at σ2 86 6000 (v1)))), (4, .inl ((sx_at σ2 87 6000 (v1))))] rfl ⟨rfl, rfl, rfl, rfl, rfl, trivial⟩ (ex32  σ19  (sg_F_t (sg_F_r [78, 16077, 17077] σ2) (sg_F_m (L := [78, 16077, 17077]) hF20 rfl)) w)
                ·
                  have w := w.2 h64
                  refine wk_b tt_103 4 (pc' := 67) (ls' := [(0, .inr (.inr (.ref 77))), (1, .inl (v1)), (2, .inl ((sx_at σ2 85 6000 (v1)))), (3, .inl ((sx_at σ2 86 6000 (v1)))), (4, .inl ((sx_at σ2 87 6000 (v1)))), (5, .inl (v18))]) (st' := [.inl (v18), .inl ((sx_at σ2 85 6000 (v1))), .inr (.inr (.ref 77)), .inr (.inr (.ref 77))]) (σ' := σ19) rfl ?_
                  obtain ⟨c65, w⟩ := w
                  refine wk_callp tt_103 rfl rfl rfl rfl rfl tt_100 rfl (by decide) (w_lCell z σ19 ((sx_at σ2 85 6000 (v1))) (v18) (sx_R ..) r24 c65) ?_
                  have r66 := vr_lCell σ19  ((sx_at σ2 85 6000 (v1))) (v18) (sx_R ..) r24 c65
                  refine wk_call tt_103 rfl rfl rfl rfl rfl tt_116 rfl (by decide) (w_lStore z σ19 ((v_lCell σ19 ((sx_at σ2 85 6000 (v1))) (v18))) _ r66 w) (fun u72 σ68 hq70 => ?_)
                  obtain ⟨rfl, hF69, w⟩ := hq70
                  have w := w hF69
                  obtain ⟨c73, w⟩ := w
                  refine wk_b tt_103 2 (pc' := 48) (ls' := [(5, .inl ((v18 + 1))), (0, .inr (.inr (.ref 77))), (1, .inl (v1)), (2, .inl ((sx_at σ2 85 6000 (v1)))), (3, .inl ((sx_at σ2 86 6000 (v1)))), (4, .inl ((sx_at σ2 87 6000 (v1))))]) (st' := []) (σ' := σ68) rfl ?_
                  obtain ⟨m74, hm74, w⟩ := w
                  exact wk_ls [(0, .inr (.inr (.ref 77))), (1, .inl (v1)), (2, .inl ((sx_at σ2 85 6000 (v1)))), (3, .inl ((sx_at σ2 86 6000 (v1)))), (4, .inl ((sx_at σ2 87 6000 (v1)))), (5, .inl ((v18 + 1)))] rfl ⟨rfl, rfl, rfl, rfl, rfl, rfl, trivial⟩ (ih25 m74 hm74 ((v18 + 1)) σ68 c73 (sg_F_t (sg_F_t (sg_F_r [78, 16077, 17077] σ2) (sg_F_m (L := [78, 16077, 17077]) hF20 rfl)) (sg_F_m (L := [78, 16077, 17077]) hF69 rfl)) w)
          exact wk_ls [(0, .inr (.inr (.ref 77))), (1, .inl (v1)), (2, .inl ((sx_at σ2 85 6000 (v1)))), (3, .inl ((sx_at σ2 86 6000 (v1)))), (4, .inl ((sx_at σ2 87 6000 (v1)))), (5, .inl ((sx_at σ2 86 6000 (v1))))] rfl ⟨rfl, rfl, rfl, rfl, rfl, rfl, trivial⟩ (lp27 μ22 ((sx_at σ2 86 6000 (v1))) σ2 (sx_R ..) (sg_F_r _ _) w28)
  exact wk_ls [(0, .inr (.inr (.ref 77))), (1, .inl (0))] rfl ⟨rfl, rfl, trivial⟩ (lp10 μ5 (0) σ (by decide) (sg_F_r _ _) w11)
-- NestedVectors$Lanes.end
def v_lEnd (σ : sg_S) (a1 : Int) (a2 : Int) : Int := ((v_lStart σ (a1) (a2)) + (v_lCell σ (a1) (a2)))
def p_lEnd (σ : sg_S) (a1 : Int) (a2 : Int) : Prop := p_lStart σ (a1) (a2) ∧ p_lCell σ (a1) (a2) ∧ sg_R ((v_lStart σ (a1) (a2)) + (v_lCell σ (a1) (a2))) ∧ True
set_option maxHeartbeats 4000000 in
set_option maxRecDepth 8000 in
theorem w_lEnd (z : Value) (σ : sg_S) (a1 : Int) (a2 : Int) (ra1 : sg_R a1) (ra2 : sg_R a2) (w : p_lEnd σ a1 a2) : wx z 1 104 0 [(0, .inr (.inr (.ref 77))), (1, .inl (a1)), (2, .inl (a2))] [] σ (fun v σ' => v = some (.inl (v_lEnd σ a1 a2)) ∧ σ' = σ) := by
  unfold p_lEnd at w
  refine wk_b tt_104 3 (pc' := 3) (ls' := [(0, .inr (.inr (.ref 77))), (1, .inl (a1)), (2, .inl (a2))]) (st' := [.inl (a2), .inl (a1), .inr (.inr (.ref 77))]) (σ' := σ) rfl ?_
  obtain ⟨c1, w⟩ := w
  refine wk_callp tt_104 rfl rfl rfl rfl rfl tt_114 rfl (by decide) (w_lStart z σ (a1) (a2) ra1 ra2 c1) ?_
  have r2 := vr_lStart σ  (a1) (a2) ra1 ra2 c1
  refine wk_b tt_104 3 (pc' := 9) (ls' := [(0, .inr (.inr (.ref 77))), (1, .inl (a1)), (2, .inl (a2))]) (st' := [.inl (a2), .inl (a1), .inr (.inr (.ref 77)), .inl ((v_lStart σ (a1) (a2)))]) (σ' := σ) rfl ?_
  obtain ⟨c3, w⟩ := w
  refine wk_callp tt_104 rfl rfl rfl rfl rfl tt_100 rfl (by decide) (w_lCell z σ (a1) (a2) ra1 ra2 c3) ?_
  have r4 := vr_lCell σ  (a1) (a2) ra1 ra2 c3
  obtain ⟨c5, w⟩ := w
  refine wk_b tt_104 1 (pc' := 13) (ls' := [(0, .inr (.inr (.ref 77))), (1, .inl (a1)), (2, .inl (a2))]) (st' := [.inl (((v_lStart σ (a1) (a2)) + (v_lCell σ (a1) (a2))))]) (σ' := σ) rfl ?_
  exact wk_rI tt_104 rfl rfl ⟨by rw [v_lEnd], rfl⟩
theorem vF_lEnd {L : List Nat} {σ σ' : sg_S} {a1 : Int} {a2 : Int} (hF : sg_F L σ σ') (h0 : sg_ca L 78 = true) (h1 : sg_ca L 79 = true) (h2 : sg_ca L 80 = true) : v_lEnd σ' a1 a2 = v_lEnd σ a1 a2 := by
  unfold v_lEnd
  simp only [sg_F_ga (k := _) hF h0, sg_F_gal (k := _) hF h0, sg_F_ga (k := _) hF h1, sg_F_gal (k := _) hF h1, sg_F_ga (k := _) hF h2, sg_F_gal (k := _) hF h2, vF_lCell hF h0 h2, pF_lCell hF h0 h2, vF_lStart hF h1 h2, pF_lStart hF h1 h2, sx_F hF h0, sx_Fl hF h0, sx_F hF h1, sx_Fl hF h1, sx_F hF h2, sx_Fl hF h2]
theorem pF_lEnd {L : List Nat} {σ σ' : sg_S} {a1 : Int} {a2 : Int} (hF : sg_F L σ σ') (h0 : sg_ca L 78 = true) (h1 : sg_ca L 79 = true) (h2 : sg_ca L 80 = true) : p_lEnd σ' a1 a2 = p_lEnd σ a1 a2 := by
  unfold p_lEnd
  simp only [sg_F_ga (k := _) hF h0, sg_F_gal (k := _) hF h0, sg_F_ga (k := _) hF h1, sg_F_gal (k := _) hF h1, sg_F_ga (k := _) hF h2, sg_F_gal (k := _) hF h2, vF_lCell hF h0 h2, pF_lCell hF h0 h2, vF_lStart hF h1 h2, pF_lStart hF h1 h2, sx_F hF h0, sx_Fl hF h0, sx_F hF h1, sx_Fl hF h1, sx_F hF h2, sx_Fl hF h2]
theorem vr_lEnd (σ : sg_S) (a1 : Int) (a2 : Int) (ra1 : sg_R a1) (ra2 : sg_R a2) (w : p_lEnd σ a1 a2) : sg_R (v_lEnd σ a1 a2) := by
  unfold v_lEnd
  unfold p_lEnd at w
  first | exact sx_R .. | exact sx_Rl .. | exact w.1 | exact w.2.1 | exact w.2.2.1 | exact sg_Rg _ _ _ | exact sg_Rgl _ _ _ | exact sg_Rr _ | exact sg_RLr _ | assumption | omega | (constructor <;> omega)
