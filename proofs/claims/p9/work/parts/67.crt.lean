-- NestedVectors$Parser.expect
set_option maxRecDepth 8000 in
theorem px_exp (z : Value) (σ : sg_S) (a1 : Int) (c : tkC) (hc : tkOK c) (i : Nat) (hk : tk c σ i) (hne : sg_R a1 ∧ ¬ a1 = 256 ∧ ¬ a1 = 259) : wx z 5 173 0 [(0, .inr (.inr (.ref 35))), (1, .inl (a1))] [] σ (fun v σ' => v = none ∧ sg_F [4035, 4036, 5036, 6036, 7036, 8036] σ σ' ∧ ((tK c (i) = a1 ∧ tk c σ' (i + 1)) ∨ (¬ tK c (i) = a1 ∧ jm σ'))) := by
  refine wk_b tt_173 4 (pc' := 8) (ls' := [(0, .inr (.inr (.ref 35))), (1, .inl (a1))]) (st' := [.inl (a1), .inl ((sg_g σ 36 4))]) (σ' := σ) rfl ?_
  have r1 := tK_r hc (i)
  rw [show (sg_g σ 36 4) = (tK c (i)) from by rw [hk.2.2.2.2.1]]
  refine wk_if2 tt_173 (tgt := 18) rfl rfl (by omega) (by omega) (fun (h2 : (tK c (i)) = a1) => ?_) (fun (h2 : ¬ (tK c (i)) = a1) => ?_)
  ·
    refine wk_b tt_173 2 (pc' := 22) (ls' := [(0, .inr (.inr (.ref 35))), (1, .inl (a1))]) (st' := [.inl (256), .inl (a1)]) (σ' := σ) rfl ?_
    refine wk_if2 tt_173 (tgt := 32) rfl rfl (by omega) (by decide) (fun (h : a1 = 256) => absurd h (by omega)) (fun (h3 : ¬ a1 = 256) => ?_)
    refine wk_b tt_173 2 (pc' := 29) (ls' := [(0, .inr (.inr (.ref 35))), (1, .inl (a1))]) (st' := [.inr (.inr (.ref 36))]) (σ' := σ) rfl ?_
    refine wk_call tt_173 rfl rfl rfl rfl rfl tt_195 rfl (by decide) (tk_nx z σ c hc (i) hk (by omega)) (fun w4 σ5 hq6 => ?_)
    obtain ⟨rfl, hF7, hj8⟩ := hq6
    refine wk_rV tt_173 rfl rfl ?_
    exact ⟨rfl, (sg_F_t (sg_F_r [4035, 4036, 5036, 6036, 7036, 8036] σ) (sg_F_m (L := [4035, 4036, 5036, 6036, 7036, 8036]) hF7 rfl)), Or.inl ⟨by assumption, hj8⟩⟩
  ·
    refine wk_b tt_173 1 (pc' := 12) (ls' := [(0, .inr (.inr (.ref 35))), (1, .inl (a1))]) (st' := [.inr (.inr (.ref 35))]) (σ' := σ) rfl ?_
    refine wk_call tt_173 rfl rfl rfl rfl rfl tt_175 rfl (by decide) (px_failR z σ c hc (i) hk) (fun w9 σ10 hq11 => ?_)
    obtain ⟨rfl, hF12, hj13⟩ := hq11
    refine wk_b tt_173 1 (pc' := 32) (ls' := [(0, .inr (.inr (.ref 35))), (1, .inl (a1))]) (st' := []) (σ' := σ10) rfl ?_
    refine wk_rV tt_173 rfl rfl ?_
    exact ⟨rfl, (sg_F_t (sg_F_r [4035, 4036, 5036, 6036, 7036, 8036] σ) (sg_F_m (L := [4035, 4036, 5036, 6036, 7036, 8036]) hF12 rfl)), Or.inr ⟨by assumption, hj13⟩⟩
-- NestedVectors$Parser.create
set_option maxRecDepth 8000 in
theorem px_crt (z : Value) (σ : sg_S) (c : tkC) (hc : tkOK c) (i : Nat) (τ : sg_S) (ht : te σ τ) (hk : tk c σ i) (h259 : ¬ tK c (i) = 259) : wx z 5 171 0 [(0, .inr (.inr (.ref 35)))] [] σ (pq pL0 c (pCreate c i τ) σ) := by
  refine wk_b tt_171 4 (pc' := 10) (ls' := [(0, .inr (.inr (.ref 35)))]) (st' := [.inl (200), .inl ((sg_g σ 2 16))]) (σ' := σ) rfl ?_
  have r1 := sg_Rg τ 2 16
  rw [show (sg_g σ 2 16) = (sg_g τ 2 16) from by rw [ag_g ht rfl]]
  refine wk_if2 tt_171 (tgt := 19) rfl rfl (by omega) (by decide) (fun (h2 : (sg_g τ 2 16) < 200) => ?_) (fun (h2 : 200 ≤ (sg_g τ 2 16)) => ?_)
  ·
    have h2_n : ¬ 200 ≤ (sg_g τ 2 16) := by omega
    refine wk_b tt_171 8 (pc' := 37) (ls' := [(0, .inr (.inr (.ref 35)))]) (st' := [.inl ((sg_g σ 36 5)), .inl ((sg_g σ 36 4)), .inr (.inr (.ref 2))]) (σ' := σ) rfl ?_
    have r3 := tK_r hc (i)
    rw [show (sg_g σ 36 4) = (tK c (i)) from by rw [hk.2.2.2.2.1]]
    have r4 := tPl_r hc (i)
    have r5 := hc.2.1
    rw [show (sg_g σ 36 5) = (tPl c (i)) from by rw [hk.2.2.2.2.2.1]]
    refine wk_call tt_171 rfl rfl rfl rfl rfl tt_204 rfl (by decide) (px_add z σ ((tK c (i))) ((tPl c (i))) τ ht (by first | omega | exact sg_Rg _ _ _) (by first | omega | exact sg_Rg _ _ _)) (fun w6 σ7 hq8 => ?_)
    obtain ⟨rfl, hF9, ht10⟩ := hq8
    refine wk_b tt_171 8 (pc' := 56) (ls' := [(1, .inl ((sg_g τ 2 16))), (0, .inr (.inr (.ref 35)))]) (st' := [.inl ((sg_g σ7 36 6)), .inl ((sg_g τ 2 16)), .inr (.inr (.ref 5))]) (σ' := σ7) rfl ?_
    have r11 : sg_R (tN c i) := by rw [← hk.2.2.2.2.2.2.2.2]; exact sg_Rg σ 36 6
    rw [show (sg_g σ7 36 6) = (tN c i) from by rw [sg_F_ga hF9 rfl, hk.2.2.2.2.2.2.2.2]]
    refine wk_callp (v0 := none) (σ1 := (sx_put σ7 5 200 ((sg_g τ 2 16)) ((tN c i)))) tt_171 rfl rfl rfl rfl rfl tt_21 rfl (by decide) (pt_i0 z σ7 5 200 ((sg_g τ 2 16)) ((tN c i)) rfl (by decide) (by omega)) ?_
    refine wk_b tt_171 7 (pc' := 74) (ls' := [(1, .inl ((sg_g τ 2 16))), (0, .inr (.inr (.ref 35)))]) (st' := [.inr (.inl ((sg_gl (sx_put σ7 5 200 ((sg_g τ 2 16)) ((tN c i))) 36 7))), .inl ((sg_g τ 2 16)), .inr (.inr (.ref 17))]) (σ' := (sx_put σ7 5 200 ((sg_g τ 2 16)) ((tN c i)))) rfl ?_
    rw [show (sg_gl (sx_put σ7 5 200 ((sg_g τ 2 16)) ((tN c i))) 36 7) = (tW c (i)) from by rw [sx_putx_c _ _ _ _ _ _ _ (by decide), sg_F_gal hF9 rfl, hk.2.2.2.2.2.2.1 (by omega)]]
    refine wk_callp (v0 := none) (σ1 := (sx_putl (sx_put σ7 5 200 ((sg_g τ 2 16)) ((tN c i))) 17 200 ((sg_g τ 2 16)) ((tW c (i))))) tt_171 rfl rfl rfl rfl rfl tt_22 rfl (by decide) (pt_l0 z (sx_put σ7 5 200 ((sg_g τ 2 16)) ((tN c i))) 17 200 ((sg_g τ 2 16)) ((tW c (i))) rfl (by decide) (by omega)) ?_
    refine wk_b tt_171 2 (pc' := 81) (ls' := [(1, .inl ((sg_g τ 2 16))), (0, .inr (.inr (.ref 35)))]) (st' := [.inr (.inr (.ref 36))]) (σ' := (sx_putl (sx_put σ7 5 200 ((sg_g τ 2 16)) ((tN c i))) 17 200 ((sg_g τ 2 16)) ((tW c (i))))) rfl ?_
    refine wk_call tt_171 rfl rfl rfl rfl rfl tt_195 rfl (by decide) (tk_nx z (sx_putl (sx_put σ7 5 200 ((sg_g τ 2 16)) ((tN c i))) 17 200 ((sg_g τ 2 16)) ((tW c (i)))) c hc (i) (tk_ag hk (ag_xpl (ag_xp (ag_t (tkq_F hF9 rfl) (ag_r _ _)) rfl _ _ _) rfl _ _ _)) (by omega)) (fun w12 σ13 hq14 => ?_)
    obtain ⟨rfl, hF15, hj16⟩ := hq14
    refine wk_b tt_171 1 (pc' := 85) (ls' := [(1, .inl ((sg_g τ 2 16))), (0, .inr (.inr (.ref 35)))]) (st' := [.inl ((sg_g τ 2 16))]) (σ' := σ13) rfl ?_
    refine wk_rI tt_171 rfl rfl ?_
    exact ⟨_, rfl, (sg_F_t (sg_F_pl (sg_F_p (sg_F_t (sg_F_r [3, 4, 5, 6, 7, 8, 9, 10, 11, 12, 13, 14, 15, 16, 17, 18, 4035, 4036, 5036, 6036, 7036, 8036, 17002] σ) (sg_F_m (L := [3, 4, 5, 6, 7, 8, 9, 10, 11, 12, 13, 14, 15, 16, 17, 18, 4035, 4036, 5036, 6036, 7036, 8036, 17002]) hF9 rfl)) rfl _ _ _) rfl _ _ _) (sg_F_m (L := [3, 4, 5, 6, 7, 8, 9, 10, 11, 12, 13, 14, 15, 16, 17, 18, 4035, 4036, 5036, 6036, 7036, 8036, 17002]) hF15 rfl)), Or.inl ⟨_, _, ((by simp only [pCreate, h2, h2_n, ↓reduceIte, Int.reduceEq, reduceCtorEq, or_true, true_or, or_false, false_or, and_true, true_and, and_false, false_and, not_true_eq_false, not_false_eq_true, decide_eq_true_eq, or_self, and_self, ite_self, Int.reduceLE])), (by first | omega | exact sg_Rg _ _ _ | decide), (te_F (ag_pl (ag_p ht10 _ _ _ _) _ _ _ _) hF15 rfl), hj16⟩⟩
  ·
    refine wk_b tt_171 1 (pc' := 14) (ls' := [(0, .inr (.inr (.ref 35)))]) (st' := [.inr (.inr (.ref 35))]) (σ' := σ) rfl ?_
    refine wk_call tt_171 rfl rfl rfl rfl rfl tt_175 rfl (by decide) (px_failR z σ c hc (i) hk) (fun w17 σ18 hq19 => ?_)
    obtain ⟨rfl, hF20, hj21⟩ := hq19
    refine wk_b tt_171 1 (pc' := 18) (ls' := [(0, .inr (.inr (.ref 35)))]) (st' := [.inl ((-1))]) (σ' := σ18) rfl ?_
    refine wk_rI tt_171 rfl rfl ?_
    exact ⟨_, rfl, (sg_F_t (sg_F_r [3, 4, 5, 6, 7, 8, 9, 10, 11, 12, 13, 14, 15, 16, 17, 18, 4035, 4036, 5036, 6036, 7036, 8036, 17002] σ) (sg_F_m (L := [3, 4, 5, 6, 7, 8, 9, 10, 11, 12, 13, 14, 15, 16, 17, 18, 4035, 4036, 5036, 6036, 7036, 8036, 17002]) hF20 rfl)), Or.inr ⟨((by simp only [pCreate, h2, ↓reduceIte, Int.reduceEq, reduceCtorEq, or_true, true_or, or_false, false_or, and_true, true_and, and_false, false_and, not_true_eq_false, not_false_eq_true, decide_eq_true_eq, or_self, and_self, ite_self, Int.reduceLE])), hj21⟩⟩
-- NestedVectors$Parser.within
set_option maxRecDepth 8000 in
theorem px_wth (z : Value) (σ : sg_S) (a1 : Int) (c : tkC) (hc : tkOK c) (i : Nat) (hk : tk c σ i) (hn : 0 ≤ a1 ∧ a1 ≤ 12) : wx z 2 190 0 [(0, .inr (.inr (.ref 35))), (1, .inl (a1))] [] σ (fun v σ' => (v = some (.inl 1) ∧ σ' = σ ∧ a1 < 12) ∨ (v = some (.inl 0) ∧ sg_F [4035, 5036] σ σ' ∧ jm σ' ∧ 12 ≤ a1)) := by
  refine wk_b tt_190 2 (pc' := 3) (ls' := [(0, .inr (.inr (.ref 35))), (1, .inl (a1))]) (st' := [.inl (12), .inl (a1)]) (σ' := σ) rfl ?_
  refine wk_if2 tt_190 (tgt := 10) rfl rfl (by omega) (by decide) (fun (h1 : a1 < 12) => ?_) (fun (h1 : 12 ≤ a1) => ?_)
  ·
    refine wk_b tt_190 2 (pc' := 13) (ls' := [(0, .inr (.inr (.ref 35))), (1, .inl (a1))]) (st' := [.inl (12), .inl (a1)]) (σ' := σ) rfl ?_
    refine wk_if2 tt_190 (tgt := 20) rfl rfl (by omega) (by decide) (fun (h2 : 12 ≤ a1) => ?_) (fun (h2 : a1 < 12) => ?_)
    ·
      refine wk_b tt_190 1 (pc' := 21) (ls' := [(0, .inr (.inr (.ref 35))), (1, .inl (a1))]) (st' := [.inl (0)]) (σ' := σ) rfl ?_
      refine wk_rZ tt_190 rfl rfl (by decide) ?_
      first | (exfalso; omega) | exact Or.inl ⟨rfl, rfl, by omega⟩
    ·
      refine wk_b tt_190 2 (pc' := 21) (ls' := [(0, .inr (.inr (.ref 35))), (1, .inl (a1))]) (st' := [.inl (1)]) (σ' := σ) rfl ?_
      refine wk_rZ tt_190 rfl rfl (by decide) ?_
      first | (exfalso; omega) | exact Or.inl ⟨rfl, rfl, by omega⟩
  ·
    refine wk_b tt_190 1 (pc' := 7) (ls' := [(0, .inr (.inr (.ref 35))), (1, .inl (a1))]) (st' := [.inr (.inr (.ref 35))]) (σ' := σ) rfl ?_
    refine wk_call tt_190 rfl rfl rfl rfl rfl tt_175 rfl (by decide) (px_failR z σ c hc (i) hk) (fun w3 σ4 hq5 => ?_)
    obtain ⟨rfl, hF6, hj7⟩ := hq5
    refine wk_b tt_190 2 (pc' := 13) (ls' := [(0, .inr (.inr (.ref 35))), (1, .inl (a1))]) (st' := [.inl (12), .inl (a1)]) (σ' := σ4) rfl ?_
    refine wk_if2 tt_190 (tgt := 20) rfl rfl (by omega) (by decide) (fun (h8 : 12 ≤ a1) => ?_) (fun (h8 : a1 < 12) => ?_)
    ·
      refine wk_b tt_190 1 (pc' := 21) (ls' := [(0, .inr (.inr (.ref 35))), (1, .inl (a1))]) (st' := [.inl (0)]) (σ' := σ4) rfl ?_
      refine wk_rZ tt_190 rfl rfl (by decide) ?_
      first | (exfalso; omega) | exact Or.inr ⟨rfl, hF6, hj7, by omega⟩
    ·
      refine wk_b tt_190 2 (pc' := 21) (ls' := [(0, .inr (.inr (.ref 35))), (1, .inl (a1))]) (st' := [.inl (1)]) (σ' := σ4) rfl ?_
      refine wk_rZ tt_190 rfl rfl (by decide) ?_
      first | (exfalso; omega) | exact Or.inr ⟨rfl, hF6, hj7, by omega⟩
