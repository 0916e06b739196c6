-- NestedVectors$Parser.title
set_option maxRecDepth 8000 in
theorem px_ttl (c : tkC) (hc : tkOK c) (d : Nat) (a1 : Int) (hd : 0 ≤ a1 ∧ a1 ≤ 12) : cD c (d + 6) 187 a1 (fun k => k = 261) (pTitle c a1) := by
  intro z σ i τ ht hk hp
  refine wk_b tt_187 2 (pc' := 3) (ls' := [(0, .inr (.inr (.ref 35))), (1, .inl (a1))]) (st' := [.inl (12), .inl (a1)]) (σ' := σ) rfl ?_
  refine wk_if2 tt_187 (tgt := 11) rfl rfl (by omega) (by decide) (fun (h1 : a1 < 12) => ?_) (fun (h1 : 12 ≤ a1) => ?_)
  ·
    have h1_n : ¬ 12 ≤ a1 := by omega
    refine wk_b tt_187 2 (pc' := 15) (ls' := [(0, .inr (.inr (.ref 35))), (1, .inl (a1))]) (st' := [.inr (.inr (.ref 36))]) (σ' := σ) rfl ?_
    refine wk_call tt_187 rfl rfl rfl rfl rfl tt_195 rfl (by omega) (tk_nx z σ c hc (i) hk (by omega)) (fun w2 σ3 hq4 => ?_)
    obtain ⟨rfl, hF5, hj6⟩ := hq4
    refine wk_b tt_187 4 (pc' := 28) (ls' := [(0, .inr (.inr (.ref 35))), (1, .inl (a1))]) (st' := [.inl (258), .inl ((sg_g σ3 36 4))]) (σ' := σ3) rfl ?_
    have r7 := tK_r hc (i + 1)
    rw [show (sg_g σ3 36 4) = (tK c (i + 1)) from by rw [hj6.2.2.2.2.1]]
    refine wk_if2 tt_187 (tgt := 52) rfl rfl (by omega) (by decide) (fun (h8 : ¬ (tK c (i + 1)) = 258) => ?_) (fun (h8 : (tK c (i + 1)) = 258) => ?_)
    ·
      refine wk_b tt_187 2 (pc' := 56) (ls' := [(0, .inr (.inr (.ref 35))), (1, .inl (a1))]) (st' := [.inl (258), .inr (.inr (.ref 35))]) (σ' := σ3) rfl ?_
      refine wk_call tt_187 rfl rfl rfl rfl rfl tt_173 rfl (by omega) (px_exp z σ3 (258) c hc (i + 1) hj6 (by omega)) (fun w9 σ10 hq11 => ?_)
      obtain ⟨rfl, hF12, hq11⟩ := hq11
      rcases hq11 with ⟨h13, hk14⟩ | ⟨h13, hk14⟩
      ·
        exfalso; omega
      ·
        refine wk_b tt_187 2 (pc' := 62) (ls' := [(0, .inr (.inr (.ref 35))), (1, .inl (a1))]) (st' := [.inl (40), .inr (.inr (.ref 35))]) (σ' := σ10) rfl ?_
        refine wk_call tt_187 rfl rfl rfl rfl rfl tt_173 rfl (by omega) (pj_exp z σ10 (40) hk14 (by omega)) (fun w15 σ16 hq17 => ?_)
        obtain ⟨rfl, hF18, hj19⟩ := hq17
        refine wk_rV tt_187 rfl rfl ?_
        exact ⟨rfl, (sg_F_t (sg_F_t (sg_F_t (sg_F_r [3, 4, 5, 6, 7, 8, 9, 10, 11, 12, 13, 14, 15, 16, 17, 18, 20, 21, 22, 23, 24, 25, 26, 27, 4035, 4036, 5036, 6036, 7036, 8036, 9019, 17002] σ) (sg_F_m (L := [3, 4, 5, 6, 7, 8, 9, 10, 11, 12, 13, 14, 15, 16, 17, 18, 20, 21, 22, 23, 24, 25, 26, 27, 4035, 4036, 5036, 6036, 7036, 8036, 9019, 17002]) hF5 rfl)) (sg_F_m (L := [3, 4, 5, 6, 7, 8, 9, 10, 11, 12, 13, 14, 15, 16, 17, 18, 20, 21, 22, 23, 24, 25, 26, 27, 4035, 4036, 5036, 6036, 7036, 8036, 9019, 17002]) hF12 rfl)) (sg_F_m (L := [3, 4, 5, 6, 7, 8, 9, 10, 11, 12, 13, 14, 15, 16, 17, 18, 20, 21, 22, 23, 24, 25, 26, 27, 4035, 4036, 5036, 6036, 7036, 8036, 9019, 17002]) hF18 rfl)), Or.inr ⟨((by simp only [pTitle, h1, h1_n, h8, h13, ↓reduceIte, Int.reduceEq, reduceCtorEq, or_true, true_or, or_false, false_or, and_true, true_and, and_false, false_and, not_true_eq_false, not_false_eq_true, decide_eq_true_eq, or_self, and_self, ite_self, Int.reduceLE])), hj19⟩⟩
    ·
      refine wk_b tt_187 8 (pc' := 49) (ls' := [(0, .inr (.inr (.ref 35))), (1, .inl (a1))]) (st' := [.inl ((sg_g σ3 36 5)), .inr (.inl ((sg_gl σ3 36 7))), .inr (.inr (.ref 19))]) (σ' := σ3) rfl ?_
      rw [show (sg_gl σ3 36 7) = (tW c (i + 1)) from by rw [hj6.2.2.2.2.2.2.1 (by omega)]]
      have r20 := tPl_r hc (i + 1)
      have r21 := hc.2.1
      rw [show (sg_g σ3 36 5) = (tPl c (i + 1)) from by rw [hj6.2.2.2.2.2.1]]
      refine wk_call tt_187 rfl rfl rfl rfl rfl tt_46 rfl (by omega) (px_dad z σ3 ((tW c (i + 1))) ((tPl c (i + 1))) τ (te_F ht hF5 rfl) (by first | omega | exact sg_Rg _ _ _)) (fun w22 σ23 hq24 => ?_)
      obtain ⟨rfl, hF25, ht26⟩ := hq24
      refine wk_b tt_187 2 (pc' := 56) (ls' := [(0, .inr (.inr (.ref 35))), (1, .inl (a1))]) (st' := [.inl (258), .inr (.inr (.ref 35))]) (σ' := σ23) rfl ?_
      refine wk_call tt_187 rfl rfl rfl rfl rfl tt_173 rfl (by omega) (px_exp z σ23 (258) c hc (i + 1) (tk_ag hj6 (ag_t (tkq_F hF25 rfl) (ag_r _ _))) (by omega)) (fun w27 σ28 hq29 => ?_)
      obtain ⟨rfl, hF30, hq29⟩ := hq29
      rcases hq29 with ⟨h31, hk32⟩ | ⟨h31, hk32⟩
      ·
        refine wk_b tt_187 2 (pc' := 62) (ls' := [(0, .inr (.inr (.ref 35))), (1, .inl (a1))]) (st' := [.inl (40), .inr (.inr (.ref 35))]) (σ' := σ28) rfl ?_
        refine wk_call tt_187 rfl rfl rfl rfl rfl tt_173 rfl (by omega) (px_exp z σ28 (40) c hc (i + 1 + 1) hk32 (by omega)) (fun w33 σ34 hq35 => ?_)
        obtain ⟨rfl, hF36, hq35⟩ := hq35
        rcases hq35 with ⟨h37, hk38⟩ | ⟨h37, hk38⟩
        ·
          refine wk_rV tt_187 rfl rfl ?_
          exact ⟨rfl, (sg_F_t (sg_F_t (sg_F_t (sg_F_t (sg_F_r [3, 4, 5, 6, 7, 8, 9, 10, 11, 12, 13, 14, 15, 16, 17, 18, 20, 21, 22, 23, 24, 25, 26, 27, 4035, 4036, 5036, 6036, 7036, 8036, 9019, 17002] σ) (sg_F_m (L := [3, 4, 5, 6, 7, 8, 9, 10, 11, 12, 13, 14, 15, 16, 17, 18, 20, 21, 22, 23, 24, 25, 26, 27, 4035, 4036, 5036, 6036, 7036, 8036, 9019, 17002]) hF5 rfl)) (sg_F_m (L := [3, 4, 5, 6, 7, 8, 9, 10, 11, 12, 13, 14, 15, 16, 17, 18, 20, 21, 22, 23, 24, 25, 26, 27, 4035, 4036, 5036, 6036, 7036, 8036, 9019, 17002]) hF25 rfl)) (sg_F_m (L := [3, 4, 5, 6, 7, 8, 9, 10, 11, 12, 13, 14, 15, 16, 17, 18, 20, 21, 22, 23, 24, 25, 26, 27, 4035, 4036, 5036, 6036, 7036, 8036, 9019, 17002]) hF30 rfl)) (sg_F_m (L := [3, 4, 5, 6, 7, 8, 9, 10, 11, 12, 13, 14, 15, 16, 17, 18, 20, 21, 22, 23, 24, 25, 26, 27, 4035, 4036, 5036, 6036, 7036, 8036, 9019, 17002]) hF36 rfl)), Or.inl ⟨_, _, ((by simp only [pTitle, h1, h1_n, h8, h31, h37, ↓reduceIte, Int.reduceEq, reduceCtorEq, or_true, true_or, or_false, false_or, and_true, true_and, and_false, false_and, not_true_eq_false, not_false_eq_true, decide_eq_true_eq, or_self, and_self, ite_self, Int.reduceLE])), (te_F (te_F ht26 hF30 rfl) hF36 rfl), hk38⟩⟩
        ·
          refine wk_rV tt_187 rfl rfl ?_
          exact ⟨rfl, (sg_F_t (sg_F_t (sg_F_t (sg_F_t (sg_F_r [3, 4, 5, 6, 7, 8, 9, 10, 11, 12, 13, 14, 15, 16, 17, 18, 20, 21, 22, 23, 24, 25, 26, 27, 4035, 4036, 5036, 6036, 7036, 8036, 9019, 17002] σ) (sg_F_m (L := [3, 4, 5, 6, 7, 8, 9, 10, 11, 12, 13, 14, 15, 16, 17, 18, 20, 21, 22, 23, 24, 25, 26, 27, 4035, 4036, 5036, 6036, 7036, 8036, 9019, 17002]) hF5 rfl)) (sg_F_m (L := [3, 4, 5, 6, 7, 8, 9, 10, 11, 12, 13, 14, 15, 16, 17, 18, 20, 21, 22, 23, 24, 25, 26, 27, 4035, 4036, 5036, 6036, 7036, 8036, 9019, 17002]) hF25 rfl)) (sg_F_m (L := [3, 4, 5, 6, 7, 8, 9, 10, 11, 12, 13, 14, 15, 16, 17, 18, 20, 21, 22, 23, 24, 25, 26, 27, 4035, 4036, 5036, 6036, 7036, 8036, 9019, 17002]) hF30 rfl)) (sg_F_m (L := [3, 4, 5, 6, 7, 8, 9, 10, 11, 12, 13, 14, 15, 16, 17, 18, 20, 21, 22, 23, 24, 25, 26, 27, 4035, 4036, 5036, 6036, 7036, 8036, 9019, 17002]) hF36 rfl)), Or.inr ⟨((by simp only [pTitle, h1, h1_n, h8, h31, h37, ↓reduceIte, Int.reduceEq, reduceCtorEq, or_true, true_or, or_false, false_or, and_true, true_and, and_false, false_and, not_true_eq_false, not_false_eq_true, decide_eq_true_eq, or_self, and_self, ite_self, Int.reduceLE])), hk38⟩⟩
      ·
        exfalso; omega
  ·
    refine wk_b tt_187 1 (pc' := 7) (ls' := [(0, .inr (.inr (.ref 35))), (1, .inl (a1))]) (st' := [.inr (.inr (.ref 35))]) (σ' := σ) rfl ?_
    refine wk_call tt_187 rfl rfl rfl rfl rfl tt_175 rfl (by omega) (px_failR z σ c hc (i) hk) (fun w39 σ40 hq41 => ?_)
    obtain ⟨rfl, hF42, hj43⟩ := hq41
    refine wk_rV tt_187 rfl rfl ?_
    exact ⟨rfl, (sg_F_t (sg_F_r [3, 4, 5, 6, 7, 8, 9, 10, 11, 12, 13, 14, 15, 16, 17, 18, 20, 21, 22, 23, 24, 25, 26, 27, 4035, 4036, 5036, 6036, 7036, 8036, 9019, 17002] σ) (sg_F_m (L := [3, 4, 5, 6, 7, 8, 9, 10, 11, 12, 13, 14, 15, 16, 17, 18, 20, 21, 22, 23, 24, 25, 26, 27, 4035, 4036, 5036, 6036, 7036, 8036, 9019, 17002]) hF42 rfl)), Or.inr ⟨((by simp only [pTitle, h1, ↓reduceIte, Int.reduceEq, reduceCtorEq, or_true, true_or, or_false, false_or, and_true, true_and, and_false, false_and, not_true_eq_false, not_false_eq_true, decide_eq_true_eq, or_self, and_self, ite_self, Int.reduceLE])), hj43⟩⟩
-- NestedVectors$Parser.parameters
set_option maxRecDepth 8000 in
theorem px_prm (c : tkC) (hc : tkOK c) (d : Nat) (a1 : Int) (hd : 0 ≤ a1 ∧ a1 ≤ 12) : cD c (d + 7) 182 a1 (fun _ => True) (pPars c a1) := by
  intro z σ i τ ht hk hp
  refine wk_b tt_182 4 (pc' := 9) (ls' := [(0, .inr (.inr (.ref 35))), (1, .inl (a1))]) (st' := [.inl (41), .inl ((sg_g σ 36 4))]) (σ' := σ) rfl ?_
  have r1 := tK_r hc (i)
  rw [show (sg_g σ 36 4) = (tK c (i)) from by rw [hk.2.2.2.2.1]]
  refine wk_if2 tt_182 (tgt := 16) rfl rfl (by omega) (by decide) (fun (h2 : (tK c (i)) = 41) => ?_) (fun (h2 : ¬ (tK c (i)) = 41) => ?_)
  ·
    refine wk_b tt_182 4 (pc' := 20) (ls' := [(3, .inl (0)), (2, .inl (0)), (0, .inr (.inr (.ref 35))), (1, .inl (a1))]) (st' := []) (σ' := σ) rfl ?_
    have lp9 : ∀ (m8 : Nat) (σ5 : sg_S) (v3 : Int) (v4 : Int) (i11 : Nat) (τ12 : sg_S), sg_F [3, 4, 5, 6, 7, 8, 9, 10, 11, 12, 13, 14, 15, 16, 17, 18, 20, 21, 22, 23, 24, 25, 26, 27, 4035, 4036, 5036, 6036, 7036, 8036, 9019, 17002] σ σ5 → te σ5 τ12 → tk c σ5 i11 → (pPars c a1 i τ = pParE c (if v3 = 1 then pParL c a1 m8 i11 τ12 else some (i11, τ12)) ∧ (v3 = 0 ∨ v3 = 1) ∧ v4 + m8 = 7 ∧ 0 ≤ v4) → wx z (d + 7) 182 20 [(0, .inr (.inr (.ref 35))), (1, .inl (a1)), (2, .inl (v3)), (3, .inl (v4))] [] σ5 (pqN pL1 c (pPars c a1 i τ) σ) := by
      intro m8
      induction m8 with
      | zero =>
        intro σ5 v3 v4 i11 τ12 hF6 ht13 hk14 hI10
        obtain ⟨hI10_e, hI10_b⟩ := hI10
        refine wk_b tt_182 2 (pc' := 23) (ls' := [(0, .inr (.inr (.ref 35))), (1, .inl (a1)), (2, .inl (v3)), (3, .inl (v4))]) (st' := [.inl (6), .inl (v4)]) (σ' := σ5) rfl ?_
        refine wk_if2 tt_182 (tgt := 144) rfl rfl (by omega) (by decide) (fun (h15 : 6 < v4) => ?_) (fun (h : v4 ≤ 6) => absurd h (by omega))
        refine wk_b tt_182 2 (pc' := 147) (ls' := [(0, .inr (.inr (.ref 35))), (1, .inl (a1)), (2, .inl (v3)), (3, .inl (v4))]) (st' := [.inl (41), .inr (.inr (.ref 35))]) (σ' := σ5) rfl ?_
        refine wk_call tt_182 rfl rfl rfl rfl rfl tt_173 rfl (by omega) (px_exp z σ5 (41) c hc (i11) hk14 (by omega)) (fun w16 σ17 hq18 => ?_)
        obtain ⟨rfl, hF19, hq18⟩ := hq18
        rcases hq18 with ⟨h20, hk21⟩ | ⟨h20, hk21⟩
        ·
          refine wk_rV tt_182 rfl rfl ?_
          exact ⟨rfl, (sg_F_t hF6 (sg_F_m (L := [3, 4, 5, 6, 7, 8, 9, 10, 11, 12, 13, 14, 15, 16, 17, 18, 20, 21, 22, 23, 24, 25, 26, 27, 4035, 4036, 5036, 6036, 7036, 8036, 9019, 17002]) hF19 rfl)), Or.inl ⟨_, _, (hI10_e.trans (by simp only [pParL, pParE, h20, ↓reduceIte, Int.reduceEq, reduceCtorEq, or_true, true_or, or_false, false_or, and_true, true_and, and_false, false_and, not_true_eq_false, not_false_eq_true, decide_eq_true_eq, or_self, and_self, ite_self, Int.reduceLE])), (te_F ht13 hF19 rfl), hk21⟩⟩
        ·
          refine wk_rV tt_182 rfl rfl ?_
          exact ⟨rfl, (sg_F_t hF6 (sg_F_m (L := [3, 4, 5, 6, 7, 8, 9, 10, 11, 12, 13, 14, 15, 16, 17, 18, 20, 21, 22, 23, 24, 25, 26, 27, 4035, 4036, 5036, 6036, 7036, 8036, 9019, 17002]) hF19 rfl)), Or.inr ⟨(hI10_e.trans (by simp only [pParL, pParE, h20, ↓reduceIte, Int.reduceEq, reduceCtorEq, or_true, true_or, or_false, false_or, and_true, true_and, and_false, false_and, not_true_eq_false, not_false_eq_true, decide_eq_true_eq, or_self, and_self, ite_self, Int.reduceLE])), hk21⟩⟩
      | succ m8 ih7 =>
        intro σ5 v3 v4 i11 τ12 hF6 ht13 hk14 hI10
        obtain ⟨hI10_e, hI10_b⟩ := hI10
        refine wk_b tt_182 2 (pc' := 23) (ls' := [(0, .inr (.inr (.ref 35))), (1, .inl (a1)), (2, .inl (v3)), (3, .inl (v4))]) (st' := [.inl (6), .inl (v4)]) (σ' := σ5) rfl ?_
        refine wk_if2 tt_182 (tgt := 144) rfl rfl (by omega) (by decide) (fun (h : 6 < v4) => absurd h (by omega)) (fun (h22 : v4 ≤ 6) => ?_)
        refine wk_b tt_182 1 (pc' := 27) (ls' := [(0, .inr (.inr (.ref 35))), (1, .inl (a1)), (2, .inl (v3)), (3, .inl (v4))]) (st' := [.inl (v3)]) (σ' := σ5) rfl ?_
        refine wk_if tt_182 (tgt := 144) rfl rfl (by omega) (fun (h23 : v3 = 0) => ?_) (fun (h23 : ¬ v3 = 0) => ?_)
        ·
          have h23_a : v3 = 0 := by omega
          refine wk_b tt_182 2 (pc' := 147) (ls' := [(0, .inr (.inr (.ref 35))), (1, .inl (a1)), (2, .inl (v3)), (3, .inl (v4))]) (st' := [.inl (41), .inr (.inr (.ref 35))]) (σ' := σ5) rfl ?_
          refine wk_call tt_182 rfl rfl rfl rfl rfl tt_173 rfl (by omega) (px_exp z σ5 (41) c hc (i11) hk14 (by omega)) (fun w24 σ25 hq26 => ?_)
          obtain ⟨rfl, hF27, hq26⟩ := hq26
          rcases hq26 with ⟨h28, hk29⟩ | ⟨h28, hk29⟩
          ·
            refine wk_rV tt_182 rfl rfl ?_
            exact ⟨rfl, (sg_F_t hF6 (sg_F_m (L := [3, 4, 5, 6, 7, 8, 9, 10, 11, 12, 13, 14, 15, 16, 17, 18, 20, 21, 22, 23, 24, 25, 26, 27, 4035, 4036, 5036, 6036, 7036, 8036, 9019, 17002]) hF27 rfl)), Or.inl ⟨_, _, (hI10_e.trans (by simp only [pParL, pParE, h23_a, h28, ↓reduceIte, Int.reduceEq, reduceCtorEq, or_true, true_or, or_false, false_or, and_true, true_and, and_false, false_and, not_true_eq_false, not_false_eq_true, decide_eq_true_eq, or_self, and_self, ite_self, Int.reduceLE])), (te_F ht13 hF27 rfl), hk29⟩⟩
          ·
            refine wk_rV tt_182 rfl rfl ?_
            exact ⟨rfl, (sg_F_t hF6 (sg_F_m (L := [3, 4, 5, 6, 7, 8, 9, 10, 11, 12, 13, 14, 15, 16, 17, 18, 20, 21, 22, 23, 24, 25, 26, 27, 4035, 4036, 5036, 6036, 7036, 8036, 9019, 17002]) hF27 rfl)), Or.inr ⟨(hI10_e.trans (by simp only [pParL, pParE, h23_a, h28, ↓reduceIte, Int.reduceEq, reduceCtorEq, or_true, true_or, or_false, false_or, and_true, true_and, and_false, false_and, not_true_eq_false, not_false_eq_true, decide_eq_true_eq, or_self, and_self, ite_self, Int.reduceLE])), hk29⟩⟩
        ·
          have h23_a : v3 = 1 := by omega
          refine wk_b tt_182 4 (pc' := 40) (ls' := [(0, .inr (.inr (.ref 35))), (1, .inl (a1)), (2, .inl (v3)), (3, .inl (v4))]) (st' := [.inl (258), .inl ((sg_g σ5 36 4))]) (σ' := σ5) rfl ?_
          have r30 := tK_r hc (i11)
          rw [show (sg_g σ5 36 4) = (tK c (i11)) from by rw [hk14.2.2.2.2.1]]
          refine wk_if2 tt_182 (tgt := 49) rfl rfl (by omega) (by decide) (fun (h31 : ¬ (tK c (i11)) = 258) => ?_) (fun (h31 : (tK c (i11)) = 258) => ?_)
          ·
            refine wk_b tt_182 1 (pc' := 50) (ls' := [(0, .inr (.inr (.ref 35))), (1, .inl (a1)), (2, .inl (v3)), (3, .inl (v4))]) (st' := [.inr (.inr (.ref 35))]) (σ' := σ5) rfl ?_
            refine wk_call tt_182 rfl rfl rfl rfl rfl tt_175 rfl (by omega) (px_failR z σ5 c hc (i11) hk14) (fun w32 σ33 hq34 => ?_)
            obtain ⟨rfl, hF35, hj36⟩ := hq34
            refine wk_rV tt_182 rfl rfl ?_
            exact ⟨rfl, (sg_F_t hF6 (sg_F_m (L := [3, 4, 5, 6, 7, 8, 9, 10, 11, 12, 13, 14, 15, 16, 17, 18, 20, 21, 22, 23, 24, 25, 26, 27, 4035, 4036, 5036, 6036, 7036, 8036, 9019, 17002]) hF35 rfl)), Or.inr ⟨(hI10_e.trans (by simp only [pParL, pParE, h23_a, h31, ↓reduceIte, Int.reduceEq, reduceCtorEq, or_true, true_or, or_false, false_or, and_true, true_and, and_false, false_and, not_true_eq_false, not_false_eq_true, decide_eq_true_eq, or_self, and_self, ite_self, Int.reduceLE])), hj36⟩⟩
          ·
            refine wk_b tt_182 2 (pc' := 46) (ls' := [(0, .inr (.inr (.ref 35))), (1, .inl (a1)), (2, .inl (v3)), (3, .inl (v4))]) (st' := [.inl (6), .inl (v4)]) (σ' := σ5) rfl ?_
            refine wk_if2 tt_182 (tgt := 54) rfl rfl (by omega) (by decide) (fun (h37 : ¬ v4 = 6) => ?_) (fun (h37 : v4 = 6) => ?_)
            ·
              have h37_a : ¬ m8 = 0 := by omega
              refine wk_b tt_182 9 (pc' := 73) (ls' := [(0, .inr (.inr (.ref 35))), (1, .inl (a1)), (2, .inl (v3)), (3, .inl (v4))]) (st' := [.inl ((sg_g σ5 36 5)), .inr (.inl ((sg_gl σ5 36 7))), .inl (a1), .inr (.inr (.ref 19))]) (σ' := σ5) rfl ?_
              rw [show (sg_gl σ5 36 7) = (tW c (i11)) from by rw [hk14.2.2.2.2.2.2.1 (by omega)]]
              have r38 := tPl_r hc (i11)
              have r39 := hc.2.1
              rw [show (sg_g σ5 36 5) = (tPl c (i11)) from by rw [hk14.2.2.2.2.2.1]]
              refine wk_call tt_182 rfl rfl rfl rfl rfl tt_47 rfl (by omega) (px_dpa z σ5 (a1) ((tW c (i11))) ((tPl c (i11))) τ12 ht13 (by first | omega | exact sg_Rg _ _ _) (by first | omega | exact sg_Rg _ _ _)) (fun w40 σ41 hq42 => ?_)
              obtain ⟨rfl, hF43, ht44⟩ := hq42
              refine wk_b tt_182 2 (pc' := 80) (ls' := [(0, .inr (.inr (.ref 35))), (1, .inl (a1)), (2, .inl (v3)), (3, .inl (v4))]) (st' := [.inr (.inr (.ref 36))]) (σ' := σ41) rfl ?_
              refine wk_call tt_182 rfl rfl rfl rfl rfl tt_195 rfl (by omega) (tk_nx z σ41 c hc (i11) (tk_ag hk14 (ag_t (tkq_F hF43 rfl) (ag_r _ _))) (by omega)) (fun w45 σ46 hq47 => ?_)
              obtain ⟨rfl, hF48, hj49⟩ := hq47
              refine wk_b tt_182 2 (pc' := 86) (ls' := [(0, .inr (.inr (.ref 35))), (1, .inl (a1)), (2, .inl (v3)), (3, .inl (v4))]) (st' := [.inl (58), .inr (.inr (.ref 35))]) (σ' := σ46) rfl ?_
              refine wk_call tt_182 rfl rfl rfl rfl rfl tt_173 rfl (by omega) (px_exp z σ46 (58) c hc (i11 + 1) hj49 (by omega)) (fun w50 σ51 hq52 => ?_)
              obtain ⟨rfl, hF53, hq52⟩ := hq52
              rcases hq52 with ⟨h54, hk55⟩ | ⟨h54, hk55⟩
              ·
                refine wk_b tt_182 9 (pc' := 103) (ls' := [(0, .inr (.inr (.ref 35))), (1, .inl (a1)), (2, .inl (v3)), (3, .inl (v4))]) (st' := [.inr (.inr (.ref 35)), .inl (((a1 * 6) + v4)), .inr (.inr (.ref 27))]) (σ' := σ51) rfl ?_
                refine wk_call tt_182 rfl rfl rfl rfl rfl tt_188 rfl (by omega) (px_typ z σ51 c hc (i11 + 1 + 1) (pDPar τ12 (a1) ((tW c (i11))) ((tPl c (i11)))) (te_F (te_F ht44 hF48 rfl) hF53 rfl) hk55) (fun w56 σ57 hq58 => ?_)
                obtain ⟨q60, rfl, hF59, hq58⟩ := hq58
                rcases hq58 with ⟨i61, he62, rq64, hk63⟩ | ⟨he62, hk63⟩
                ·
                  rw [show ((a1 * 6) + v4) = (a1 * 6 + (6 - (m8 : Int))) from by omega]
                  refine wk_callp (v0 := none) (σ1 := (sx_put σ57 27 72 ((a1 * 6 + (6 - (m8 : Int)))) (q60))) tt_182 rfl rfl rfl rfl rfl tt_21 rfl (by omega) (pt_i0 z σ57 27 72 ((a1 * 6 + (6 - (m8 : Int)))) (q60) rfl (by decide) (by omega)) ?_
                  refine wk_b tt_182 4 (pc' := 118) (ls' := [(0, .inr (.inr (.ref 35))), (1, .inl (a1)), (2, .inl (v3)), (3, .inl (v4))]) (st' := [.inl (44), .inl ((sg_g (sx_put σ57 27 72 ((a1 * 6 + (6 - (m8 : Int)))) (q60)) 36 4))]) (σ' := (sx_put σ57 27 72 ((a1 * 6 + (6 - (m8 : Int)))) (q60))) rfl ?_
                  have r65 := tK_r hc (i61)
                  rw [show (sg_g (sx_put σ57 27 72 ((a1 * 6 + (6 - (m8 : Int)))) (q60)) 36 4) = (tK c (i61)) from by rw [sx_put_c _ _ _ _ _ _ _ (by decide), hk63.2.2.2.2.1]]
                  refine wk_if2 tt_182 (tgt := 125) rfl rfl (by omega) (by decide) (fun (h66 : ¬ (tK c (i61)) = 44) => ?_) (fun (h66 : (tK c (i61)) = 44) => ?_)
                  ·
                    refine wk_b tt_182 3 (pc' := 128) (ls' := [(2, .inl (0)), (0, .inr (.inr (.ref 35))), (1, .inl (a1)), (3, .inl (v4))]) (st' := [.inl (0)]) (σ' := (sx_put σ57 27 72 ((a1 * 6 + (6 - (m8 : Int)))) (q60))) rfl ?_
                    refine wk_if tt_182 (tgt := 138) rfl rfl (by decide) (fun _ => ?_) (fun (h : ¬ 0 = 0) => absurd h (by decide))
                    refine wk_b tt_182 2 (pc' := 20) (ls' := [(3, .inl ((v4 + 1))), (2, .inl (0)), (0, .inr (.inr (.ref 35))), (1, .inl (a1))]) (st' := []) (σ' := (sx_put σ57 27 72 ((a1 * 6 + (6 - (m8 : Int)))) (q60))) rfl ?_
                    refine wk_ls [(0, .inr (.inr (.ref 35))), (1, .inl (a1)), (2, .inl (0)), (3, .inl ((v4 + 1)))] rfl ⟨rfl, rfl, rfl, rfl, trivial⟩ (ih7 (sx_put σ57 27 72 ((a1 * 6 + (6 - (m8 : Int)))) (q60)) (0) ((v4 + 1)) (i61) (sx_put (pDPar τ12 (a1) ((tW c (i11))) ((tPl c (i11)))) 27 72 ((a1 * 6 + (6 - (m8 : Int)))) (q60)) (sg_F_p (sg_F_t (sg_F_t (sg_F_t (sg_F_t hF6 (sg_F_m (L := [3, 4, 5, 6, 7, 8, 9, 10, 11, 12, 13, 14, 15, 16, 17, 18, 20, 21, 22, 23, 24, 25, 26, 27, 4035, 4036, 5036, 6036, 7036, 8036, 9019, 17002]) hF43 rfl)) (sg_F_m (L := [3, 4, 5, 6, 7, 8, 9, 10, 11, 12, 13, 14, 15, 16, 17, 18, 20, 21, 22, 23, 24, 25, 26, 27, 4035, 4036, 5036, 6036, 7036, 8036, 9019, 17002]) hF48 rfl)) (sg_F_m (L := [3, 4, 5, 6, 7, 8, 9, 10, 11, 12, 13, 14, 15, 16, 17, 18, 20, 21, 22, 23, 24, 25, 26, 27, 4035, 4036, 5036, 6036, 7036, 8036, 9019, 17002]) hF53 rfl)) (sg_F_m (L := [3, 4, 5, 6, 7, 8, 9, 10, 11, 12, 13, 14, 15, 16, 17, 18, 20, 21, 22, 23, 24, 25, 26, 27, 4035, 4036, 5036, 6036, 7036, 8036, 9019, 17002]) hF59 rfl)) rfl _ _ _) (ag_p (te_F (te_F (te_F ht44 hF48 rfl) hF53 rfl) hF59 rfl) _ _ _ _) (tk_ag hk63 (ag_xp (ag_r _ _) rfl _ _ _)) ?_)
                    exact ⟨(hI10_e.trans (by simp only [pParL, pParE, h23_a, h31, h37_a, h54, he62, h66, ↓reduceIte, Int.reduceEq, reduceCtorEq, or_true, true_or, or_false, false_or, and_true, true_and, and_false, false_and, not_true_eq_false, not_false_eq_true, decide_eq_true_eq, or_self, and_self, ite_self, Int.reduceLE])), by omega, by omega, by omega⟩
                  ·
                    refine wk_b tt_182 4 (pc' := 128) (ls' := [(2, .inl (1)), (0, .inr (.inr (.ref 35))), (1, .inl (a1)), (3, .inl (v4))]) (st' := [.inl (1)]) (σ' := (sx_put σ57 27 72 ((a1 * 6 + (6 - (m8 : Int)))) (q60))) rfl ?_
                    refine wk_if tt_182 (tgt := 138) rfl rfl (by decide) (fun (h : 1 = 0) => absurd h (by decide)) (fun _ => ?_)
                    refine wk_b tt_182 2 (pc' := 135) (ls' := [(2, .inl (1)), (0, .inr (.inr (.ref 35))), (1, .inl (a1)), (3, .inl (v4))]) (st' := [.inr (.inr (.ref 36))]) (σ' := (sx_put σ57 27 72 ((a1 * 6 + (6 - (m8 : Int)))) (q60))) rfl ?_
                    refine wk_call tt_182 rfl rfl rfl rfl rfl tt_195 rfl (by omega) (tk_nx z (sx_put σ57 27 72 ((a1 * 6 + (6 - (m8 : Int)))) (q60)) c hc (i61) (tk_ag hk63 (ag_xp (ag_r _ _) rfl _ _ _)) (by omega)) (fun w69 σ70 hq71 => ?_)
                    obtain ⟨rfl, hF72, hj73⟩ := hq71
                    refine wk_b tt_182 2 (pc' := 20) (ls' := [(3, .inl ((v4 + 1))), (2, .inl (1)), (0, .inr (.inr (.ref 35))), (1, .inl (a1))]) (st' := []) (σ' := σ70) rfl ?_
                    refine wk_ls [(0, .inr (.inr (.ref 35))), (1, .inl (a1)), (2, .inl (1)), (3, .inl ((v4 + 1)))] rfl ⟨rfl, rfl, rfl, rfl, trivial⟩ (ih7 σ70 (1) ((v4 + 1)) (i61 + 1) (sx_put (pDPar τ12 (a1) ((tW c (i11))) ((tPl c (i11)))) 27 72 ((a1 * 6 + (6 - (m8 : Int)))) (q60)) (sg_F_t (sg_F_p (sg_F_t (sg_F_t (sg_F_t (sg_F_t hF6 (sg_F_m (L := [3, 4, 5, 6, 7, 8, 9, 10, 11, 12, 13, 14, 15, 16, 17, 18, 20, 21, 22, 23, 24, 25, 26, 27, 4035, 4036, 5036, 6036, 7036, 8036, 9019, 17002]) hF43 rfl)) (sg_F_m (L := [3, 4, 5, 6, 7, 8, 9, 10, 11, 12, 13, 14, 15, 16, 17, 18, 20, 21, 22, 23, 24, 25, 26, 27, 4035, 4036, 5036, 6036, 7036, 8036, 9019, 17002]) hF48 rfl)) (sg_F_m (L := [3, 4, 5, 6, 7, 8, 9, 10, 11, 12, 13, 14, 15, 16, 17, 18, 20, 21, 22, 23, 24, 25, 26, 27, 4035, 4036, 5036, 6036, 7036, 8036, 9019, 17002]) hF53 rfl)) (sg_F_m (L := [3, 4, 5, 6, 7, 8, 9, 10, 11, 12, 13, 14, 15, 16, 17, 18, 20, 21, 22, 23, 24, 25, 26, 27, 4035, 4036, 5036, 6036, 7036, 8036, 9019, 17002]) hF59 rfl)) rfl _ _ _) (sg_F_m (L := [3, 4, 5, 6, 7, 8, 9, 10, 11, 12, 13, 14, 15, 16, 17, 18, 20, 21, 22, 23, 24, 25, 26, 27, 4035, 4036, 5036, 6036, 7036, 8036, 9019, 17002]) hF72 rfl)) (te_F (ag_p (te_F (te_F (te_F ht44 hF48 rfl) hF53 rfl) hF59 rfl) _ _ _ _) hF72 rfl) hj73 ?_)
                    exact ⟨(hI10_e.trans (by simp only [pParL, pParE, h23_a, h31, h37_a, h54, he62, h66, ↓reduceIte, Int.reduceEq, reduceCtorEq, or_true, true_or, or_false, false_or, and_true, true_and, and_false, false_and, not_true_eq_false, not_false_eq_true, decide_eq_true_eq, or_self, and_self, ite_self, Int.reduceLE])), by omega, by omega, by omega⟩
                ·
                  refine wk_callp (v0 := none) (σ1 := (sx_put σ57 27 72 (sg_n (((a1 * 6) + v4))) (q60))) tt_182 rfl rfl rfl rfl rfl tt_21 rfl (by omega) (pt_i z σ57 27 72 (((a1 * 6) + v4)) (q60) rfl (by decide)) ?_
                  refine wk_b tt_182 4 (pc' := 118) (ls' := [(0, .inr (.inr (.ref 35))), (1, .inl (a1)), (2, .inl (v3)), (3, .inl (v4))]) (st' := [.inl (44), .inl ((sg_g (sx_put σ57 27 72 (sg_n (((a1 * 6) + v4))) (q60)) 36 4))]) (σ' := (sx_put σ57 27 72 (sg_n (((a1 * 6) + v4))) (q60))) rfl ?_
                  rw [show (sg_g (sx_put σ57 27 72 (sg_n (((a1 * 6) + v4))) (q60)) 36 4) = 260 from by rw [sx_put_c _ _ _ _ _ _ _ (by decide), hk63.1]]
                  refine wk_if2 tt_182 (tgt := 125) rfl rfl (by decide) (by decide) (fun _ => ?_) (fun (h : 260 = 44) => absurd h (by decide))
                  refine wk_b tt_182 3 (pc' := 128) (ls' := [(2, .inl (0)), (0, .inr (.inr (.ref 35))), (1, .inl (a1)), (3, .inl (v4))]) (st' := [.inl (0)]) (σ' := (sx_put σ57 27 72 (sg_n (((a1 * 6) + v4))) (q60))) rfl ?_
                  refine wk_if tt_182 (tgt := 138) rfl rfl (by decide) (fun _ => ?_) (fun (h : ¬ 0 = 0) => absurd h (by decide))
                  refine wk_b tt_182 2 (pc' := 20) (ls' := [(3, .inl ((v4 + 1))), (2, .inl (0)), (0, .inr (.inr (.ref 35))), (1, .inl (a1))]) (st' := []) (σ' := (sx_put σ57 27 72 (sg_n (((a1 * 6) + v4))) (q60))) rfl ?_
                  refine wk_b tt_182 2 (pc' := 23) (ls' := [(3, .inl ((v4 + 1))), (2, .inl (0)), (0, .inr (.inr (.ref 35))), (1, .inl (a1))]) (st' := [.inl (6), .inl ((v4 + 1))]) (σ' := (sx_put σ57 27 72 (sg_n (((a1 * 6) + v4))) (q60))) rfl ?_
                  refine wk_if2 tt_182 (tgt := 144) rfl rfl (by omega) (by decide) (fun (h76 : 6 < (v4 + 1)) => ?_) (fun (h76 : (v4 + 1) ≤ 6) => ?_)
                  ·
                    refine wk_b tt_182 2 (pc' := 147) (ls' := [(3, .inl ((v4 + 1))), (2, .inl (0)), (0, .inr (.inr (.ref 35))), (1, .inl (a1))]) (st' := [.inl (41), .inr (.inr (.ref 35))]) (σ' := (sx_put σ57 27 72 (sg_n (((a1 * 6) + v4))) (q60))) rfl ?_
                    refine wk_call tt_182 rfl rfl rfl rfl rfl tt_173 rfl (by omega) (pj_exp z (sx_put σ57 27 72 (sg_n (((a1 * 6) + v4))) (q60)) (41) (jm_ag hk63 (ag_xp (ag_r _ _) rfl _ _ _)) (by omega)) (fun w77 σ78 hq79 => ?_)
                    obtain ⟨rfl, hF80, hj81⟩ := hq79
                    refine wk_rV tt_182 rfl rfl ?_
                    exact ⟨rfl, (sg_F_t (sg_F_p (sg_F_t (sg_F_t (sg_F_t (sg_F_t hF6 (sg_F_m (L := [3, 4, 5, 6, 7, 8, 9, 10, 11, 12, 13, 14, 15, 16, 17, 18, 20, 21, 22, 23, 24, 25, 26, 27, 4035, 4036, 5036, 6036, 7036, 8036, 9019, 17002]) hF43 rfl)) (sg_F_m (L := [3, 4, 5, 6, 7, 8, 9, 10, 11, 12, 13, 14, 15, 16, 17, 18, 20, 21, 22, 23, 24, 25, 26, 27, 4035, 4036, 5036, 6036, 7036, 8036, 9019, 17002]) hF48 rfl)) (sg_F_m (L := [3, 4, 5, 6, 7, 8, 9, 10, 11, 12, 13, 14, 15, 16, 17, 18, 20, 21, 22, 23, 24, 25, 26, 27, 4035, 4036, 5036, 6036, 7036, 8036, 9019, 17002]) hF53 rfl)) (sg_F_m (L := [3, 4, 5, 6, 7, 8, 9, 10, 11, 12, 13, 14, 15, 16, 17, 18, 20, 21, 22, 23, 24, 25, 26, 27, 4035, 4036, 5036, 6036, 7036, 8036, 9019, 17002]) hF59 rfl)) rfl _ _ _) (sg_F_m (L := [3, 4, 5, 6, 7, 8, 9, 10, 11, 12, 13, 14, 15, 16, 17, 18, 20, 21, 22, 23, 24, 25, 26, 27, 4035, 4036, 5036, 6036, 7036, 8036, 9019, 17002]) hF80 rfl)), Or.inr ⟨(hI10_e.trans (by simp only [pParL, pParE, h23_a, h31, h37_a, h54, he62, ↓reduceIte, Int.reduceEq, reduceCtorEq, or_true, true_or, or_false, false_or, and_true, true_and, and_false, false_and, not_true_eq_false, not_false_eq_true, decide_eq_true_eq, or_self, and_self, ite_self, Int.reduceLE])), hj81⟩⟩
                  ·
                    refine wk_b tt_182 1 (pc' := 27) (ls' := [(3, .inl ((v4 + 1))), (2, .inl (0)), (0, .inr (.inr (.ref 35))), (1, .inl (a1))]) (st' := [.inl (0)]) (σ' := (sx_put σ57 27 72 (sg_n (((a1 * 6) + v4))) (q60))) rfl ?_
                    refine wk_if tt_182 (tgt := 144) rfl rfl (by decide) (fun _ => ?_) (fun (h : ¬ 0 = 0) => absurd h (by decide))
                    refine wk_b tt_182 2 (pc' := 147) (ls' := [(3, .inl ((v4 + 1))), (2, .inl (0)), (0, .inr (.inr (.ref 35))), (1, .inl (a1))]) (st' := [.inl (41), .inr (.inr (.ref 35))]) (σ' := (sx_put σ57 27 72 (sg_n (((a1 * 6) + v4))) (q60))) rfl ?_
                    refine wk_call tt_182 rfl rfl rfl rfl rfl tt_173 rfl (by omega) (pj_exp z (sx_put σ57 27 72 (sg_n (((a1 * 6) + v4))) (q60)) (41) (jm_ag hk63 (ag_xp (ag_r _ _) rfl _ _ _)) (by omega)) (fun w83 σ84 hq85 => ?_)
                    obtain ⟨rfl, hF86, hj87⟩ := hq85
                    refine wk_rV tt_182 rfl rfl ?_
                    exact ⟨rfl, (sg_F_t (sg_F_p (sg_F_t (sg_F_t (sg_F_t (sg_F_t hF6 (sg_F_m (L := [3, 4, 5, 6, 7, 8, 9, 10, 11, 12, 13, 14, 15, 16, 17, 18, 20, 21, 22, 23, 24, 25, 26, 27, 4035, 4036, 5036, 6036, 7036, 8036, 9019, 17002]) hF43 rfl)) (sg_F_m (L := [3, 4, 5, 6, 7, 8, 9, 10, 11, 12, 13, 14, 15, 16, 17, 18, 20, 21, 22, 23, 24, 25, 26, 27, 4035, 4036, 5036, 6036, 7036, 8036, 9019, 17002]) hF48 rfl)) (sg_F_m (L := [3, 4, 5, 6, 7, 8, 9, 10, 11, 12, 13, 14, 15, 16, 17, 18, 20, 21, 22, 23, 24, 25, 26, 27, 4035, 4036, 5036, 6036, 7036, 8036, 9019, 17002]) hF53 rfl)) (sg_F_m (L := [3, 4, 5, 6, 7, 8, 9, 10, 11, 12, 13, 14, 15, 16, 17, 18, 20, 21, 22, 23, 24, 25, 26, 27, 4035, 4036, 5036, 6036, 7036, 8036, 9019, 17002]) hF59 rfl)) rfl _ _ _) (sg_F_m (L := [3, 4, 5, 6, 7, 8, 9, 10, 11, 12, 13, 14, 15, 16, 17, 18, 20, 21, 22, 23, 24, 25, 26, 27, 4035, 4036, 5036, 6036, 7036, 8036, 9019, 17002]) hF86 rfl)), Or.inr ⟨(hI10_e.trans (by simp only [pParL, pParE, h23_a, h31, h37_a, h54, he62, ↓reduceIte, Int.reduceEq, reduceCtorEq, or_true, true_or, or_false, false_or, and_true, true_and, and_false, false_and, not_true_eq_false, not_false_eq_true, decide_eq_true_eq, or_self, and_self, ite_self, Int.reduceLE])), hj87⟩⟩
              ·
                refine wk_b tt_182 9 (pc' := 103) (ls' := [(0, .inr (.inr (.ref 35))), (1, .inl (a1)), (2, .inl (v3)), (3, .inl (v4))]) (st' := [.inr (.inr (.ref 35)), .inl (((a1 * 6) + v4)), .inr (.inr (.ref 27))]) (σ' := σ51) rfl ?_
                refine wk_call tt_182 rfl rfl rfl rfl rfl tt_188 rfl (by omega) (pj_typ z σ51 hk55) (fun w88 σ89 hq90 => ?_)
                obtain ⟨q93, rfl, hF91, hj92⟩ := hq90
                refine wk_callp (v0 := none) (σ1 := (sx_put σ89 27 72 (sg_n (((a1 * 6) + v4))) (q93))) tt_182 rfl rfl rfl rfl rfl tt_21 rfl (by omega) (pt_i z σ89 27 72 (((a1 * 6) + v4)) (q93) rfl (by decide)) ?_
                refine wk_b tt_182 4 (pc' := 118) (ls' := [(0, .inr (.inr (.ref 35))), (1, .inl (a1)), (2, .inl (v3)), (3, .inl (v4))]) (st' := [.inl (44), .inl ((sg_g (sx_put σ89 27 72 (sg_n (((a1 * 6) + v4))) (q93)) 36 4))]) (σ' := (sx_put σ89 27 72 (sg_n (((a1 * 6) + v4))) (q93))) rfl ?_
                rw [show (sg_g (sx_put σ89 27 72 (sg_n (((a1 * 6) + v4))) (q93)) 36 4) = 260 from by rw [sx_put_c _ _ _ _ _ _ _ (by decide), hj92.1]]
                refine wk_if2 tt_182 (tgt := 125) rfl rfl (by decide) (by decide) (fun _ => ?_) (fun (h : 260 = 44) => absurd h (by decide))
                refine wk_b tt_182 3 (pc' := 128) (ls' := [(2, .inl (0)), (0, .inr (.inr (.ref 35))), (1, .inl (a1)), (3, .inl (v4))]) (st' := [.inl (0)]) (σ' := (sx_put σ89 27 72 (sg_n (((a1 * 6) + v4))) (q93))) rfl ?_
                refine wk_if tt_182 (tgt := 138) rfl rfl (by decide) (fun _ => ?_) (fun (h : ¬ 0 = 0) => absurd h (by decide))
                refine wk_b tt_182 2 (pc' := 20) (ls' := [(3, .inl ((v4 + 1))), (2, .inl (0)), (0, .inr (.inr (.ref 35))), (1, .inl (a1))]) (st' := []) (σ' := (sx_put σ89 27 72 (sg_n (((a1 * 6) + v4))) (q93))) rfl ?_
                refine wk_b tt_182 2 (pc' := 23) (ls' := [(3, .inl ((v4 + 1))), (2, .inl (0)), (0, .inr (.inr (.ref 35))), (1, .inl (a1))]) (st' := [.inl (6), .inl ((v4 + 1))]) (σ' := (sx_put σ89 27 72 (sg_n (((a1 * 6) + v4))) (q93))) rfl ?_
                refine wk_if2 tt_182 (tgt := 144) rfl rfl (by omega) (by decide) (fun (h96 : 6 < (v4 + 1)) => ?_) (fun (h96 : (v4 + 1) ≤ 6) => ?_)
                ·
                  refine wk_b tt_182 2 (pc' := 147) (ls' := [(3, .inl ((v4 + 1))), (2, .inl (0)), (0, .inr (.inr (.ref 35))), (1, .inl (a1))]) (st' := [.inl (41), .inr (.inr (.ref 35))]) (σ' := (sx_put σ89 27 72 (sg_n (((a1 * 6) + v4))) (q93))) rfl ?_
                  refine wk_call tt_182 rfl rfl rfl rfl rfl tt_173 rfl (by omega) (pj_exp z (sx_put σ89 27 72 (sg_n (((a1 * 6) + v4))) (q93)) (41) (jm_ag hj92 (ag_xp (ag_r _ _) rfl _ _ _)) (by omega)) (fun w97 σ98 hq99 => ?_)
                  obtain ⟨rfl, hF100, hj101⟩ := hq99
                  refine wk_rV tt_182 rfl rfl ?_
                  exact ⟨rfl, (sg_F_t (sg_F_p (sg_F_t (sg_F_t (sg_F_t (sg_F_t hF6 (sg_F_m (L := [3, 4, 5, 6, 7, 8, 9, 10, 11, 12, 13, 14, 15, 16, 17, 18, 20, 21, 22, 23, 24, 25, 26, 27, 4035, 4036, 5036, 6036, 7036, 8036, 9019, 17002]) hF43 rfl)) (sg_F_m (L := [3, 4, 5, 6, 7, 8, 9, 10, 11, 12, 13, 14, 15, 16, 17, 18, 20, 21, 22, 23, 24, 25, 26, 27, 4035, 4036, 5036, 6036, 7036, 8036, 9019, 17002]) hF48 rfl)) (sg_F_m (L := [3, 4, 5, 6, 7, 8, 9, 10, 11, 12, 13, 14, 15, 16, 17, 18, 20, 21, 22, 23, 24, 25, 26, 27, 4035, 4036, 5036, 6036, 7036, 8036, 9019, 17002]) hF53 rfl)) (sg_F_m (L := [3, 4, 5, 6, 7, 8, 9, 10, 11, 12, 13, 14, 15, 16, 17, 18, 20, 21, 22, 23, 24, 25, 26, 27, 4035, 4036, 5036, 6036, 7036, 8036, 9019, 17002]) hF91 rfl)) rfl _ _ _) (sg_F_m (L := [3, 4, 5, 6, 7, 8, 9, 10, 11, 12, 13, 14, 15, 16, 17, 18, 20, 21, 22, 23, 24, 25, 26, 27, 4035, 4036, 5036, 6036, 7036, 8036, 9019, 17002]) hF100 rfl)), Or.inr ⟨(hI10_e.trans (by simp only [pParL, pParE, h23_a, h31, h37_a, h54, ↓reduceIte, Int.reduceEq, reduceCtorEq, or_true, true_or, or_false, false_or, and_true, true_and, and_false, false_and, not_true_eq_false, not_false_eq_true, decide_eq_true_eq, or_self, and_self, ite_self, Int.reduceLE])), hj101⟩⟩
                ·
                  refine wk_b tt_182 1 (pc' := 27) (ls' := [(3, .inl ((v4 + 1))), (2, .inl (0)), (0, .inr (.inr (.ref 35))), (1, .inl (a1))]) (st' := [.inl (0)]) (σ' := (sx_put σ89 27 72 (sg_n (((a1 * 6) + v4))) (q93))) rfl ?_
                  refine wk_if tt_182 (tgt := 144) rfl rfl (by decide) (fun _ => ?_) (fun (h : ¬ 0 = 0) => absurd h (by decide))
                  refine wk_b tt_182 2 (pc' := 147) (ls' := [(3, .inl ((v4 + 1))), (2, .inl (0)), (0, .inr (.inr (.ref 35))), (1, .inl (a1))]) (st' := [.inl (41), .inr (.inr (.ref 35))]) (σ' := (sx_put σ89 27 72 (sg_n (((a1 * 6) + v4))) (q93))) rfl ?_
                  refine wk_call tt_182 rfl rfl rfl rfl rfl tt_173 rfl (by omega) (pj_exp z (sx_put σ89 27 72 (sg_n (((a1 * 6) + v4))) (q93)) (41) (jm_ag hj92 (ag_xp (ag_r _ _) rfl _ _ _)) (by omega)) (fun w103 σ104 hq105 => ?_)
                  obtain ⟨rfl, hF106, hj107⟩ := hq105
                  refine wk_rV tt_182 rfl rfl ?_
                  exact ⟨rfl, (sg_F_t (sg_F_p (sg_F_t (sg_F_t (sg_F_t (sg_F_t hF6 (sg_F_m (L := [3, 4, 5, 6, 7, 8, 9, 10, 11, 12, 13, 14, 15, 16, 17, 18, 20, 21, 22, 23, 24, 25, 26, 27, 4035, 4036, 5036, 6036, 7036, 8036, 9019, 17002]) hF43 rfl)) (sg_F_m (L := [3, 4, 5, 6, 7, 8, 9, 10, 11, 12, 13, 14, 15, 16, 17, 18, 20, 21, 22, 23, 24, 25, 26, 27, 4035, 4036, 5036, 6036, 7036, 8036, 9019, 17002]) hF48 rfl)) (sg_F_m (L := [3, 4, 5, 6, 7, 8, 9, 10, 11, 12, 13, 14, 15, 16, 17, 18, 20, 21, 22, 23, 24, 25, 26, 27, 4035, 4036, 5036, 6036, 7036, 8036, 9019, 17002]) hF53 rfl)) (sg_F_m (L := [3, 4, 5, 6, 7, 8, 9, 10, 11, 12, 13, 14, 15, 16, 17, 18, 20, 21, 22, 23, 24, 25, 26, 27, 4035, 4036, 5036, 6036, 7036, 8036, 9019, 17002]) hF91 rfl)) rfl _ _ _) (sg_F_m (L := [3, 4, 5, 6, 7, 8, 9, 10, 11, 12, 13, 14, 15, 16, 17, 18, 20, 21, 22, 23, 24, 25, 26, 27, 4035, 4036, 5036, 6036, 7036, 8036, 9019, 17002]) hF106 rfl)), Or.inr ⟨(hI10_e.trans (by simp only [pParL, pParE, h23_a, h31, h37_a, h54, ↓reduceIte, Int.reduceEq, reduceCtorEq, or_true, true_or, or_false, false_or, and_true, true_and, and_false, false_and, not_true_eq_false, not_false_eq_true, decide_eq_true_eq, or_self, and_self, ite_self, Int.reduceLE])), hj107⟩⟩
            ·
              have h37_a : m8 = 0 := by omega
              refine wk_b tt_182 1 (pc' := 50) (ls' := [(0, .inr (.inr (.ref 35))), (1, .inl (a1)), (2, .inl (v3)), (3, .inl (v4))]) (st' := [.inr (.inr (.ref 35))]) (σ' := σ5) rfl ?_
              refine wk_call tt_182 rfl rfl rfl rfl rfl tt_175 rfl (by omega) (px_failR z σ5 c hc (i11) hk14) (fun w108 σ109 hq110 => ?_)
              obtain ⟨rfl, hF111, hj112⟩ := hq110
              refine wk_rV tt_182 rfl rfl ?_
              exact ⟨rfl, (sg_F_t hF6 (sg_F_m (L := [3, 4, 5, 6, 7, 8, 9, 10, 11, 12, 13, 14, 15, 16, 17, 18, 20, 21, 22, 23, 24, 25, 26, 27, 4035, 4036, 5036, 6036, 7036, 8036, 9019, 17002]) hF111 rfl)), Or.inr ⟨(hI10_e.trans (by simp only [pParL, pParE, h23_a, h31, h37_a, ↓reduceIte, Int.reduceEq, reduceCtorEq, or_true, true_or, or_false, false_or, and_true, true_and, and_false, false_and, not_true_eq_false, not_false_eq_true, decide_eq_true_eq, or_self, and_self, ite_self, Int.reduceLE])), hj112⟩⟩
    refine wk_ls [(0, .inr (.inr (.ref 35))), (1, .inl (a1)), (2, .inl (0)), (3, .inl (0))] rfl ⟨rfl, rfl, rfl, rfl, trivial⟩ (lp9 7 σ (0) (0) (i) τ (sg_F_r [3, 4, 5, 6, 7, 8, 9, 10, 11, 12, 13, 14, 15, 16, 17, 18, 20, 21, 22, 23, 24, 25, 26, 27, 4035, 4036, 5036, 6036, 7036, 8036, 9019, 17002] σ) ht hk ?_)
    exact ⟨((by simp only [pPars, pParE, h2, ↓reduceIte, Int.reduceEq, reduceCtorEq, or_true, true_or, or_false, false_or, and_true, true_and, and_false, false_and, not_true_eq_false, not_false_eq_true, decide_eq_true_eq, or_self, and_self, ite_self, Int.reduceLE])), by omega, by omega, by omega⟩
  ·
    refine wk_b tt_182 5 (pc' := 20) (ls' := [(3, .inl (0)), (2, .inl (1)), (0, .inr (.inr (.ref 35))), (1, .inl (a1))]) (st' := []) (σ' := σ) rfl ?_
    have lp119 : ∀ (m118 : Nat) (σ115 : sg_S) (v113 : Int) (v114 : Int) (i121 : Nat) (τ122 : sg_S), sg_F [3, 4, 5, 6, 7, 8, 9, 10, 11, 12, 13, 14, 15, 16, 17, 18, 20, 21, 22, 23, 24, 25, 26, 27, 4035, 4036, 5036, 6036, 7036, 8036, 9019, 17002] σ σ115 → te σ115 τ122 → tk c σ115 i121 → (pPars c a1 i τ = pParE c (if v113 = 1 then pParL c a1 m118 i121 τ122 else some (i121, τ122)) ∧ (v113 = 0 ∨ v113 = 1) ∧ v114 + m118 = 7 ∧ 0 ≤ v114) → wx z (d + 7) 182 20 [(0, .inr (.inr (.ref 35))), (1, .inl (a1)), (2, .inl (v113)), (3, .inl (v114))] [] σ115 (pqN pL1 c (pPars c a1 i τ) σ) := by
      intro m118
      induction m118 with
      | zero =>
        intro σ115 v113 v114 i121 τ122 hF116 ht123 hk124 hI120
        obtain ⟨hI120_e, hI120_b⟩ := hI120
        refine wk_b tt_182 2 (pc' := 23) (ls' := [(0, .inr (.inr (.ref 35))), (1, .inl (a1)), (2, .inl (v113)), (3, .inl (v114))]) (st' := [.inl (6), .inl (v114)]) (σ' := σ115) rfl ?_
        refine wk_if2 tt_182 (tgt := 144) rfl rfl (by omega) (by decide) (fun (h125 : 6 < v114) => ?_) (fun (h : v114 ≤ 6) => absurd h (by omega))
        refine wk_b tt_182 2 (pc' := 147) (ls' := [(0, .inr (.inr (.ref 35))), (1, .inl (a1)), (2, .inl (v113)), (3, .inl (v114))]) (st' := [.inl (41), .inr (.inr (.ref 35))]) (σ' := σ115) rfl ?_
        refine wk_call tt_182 rfl rfl rfl rfl rfl tt_173 rfl (by omega) (px_exp z σ115 (41) c hc (i121) hk124 (by omega)) (fun w126 σ127 hq128 => ?_)
        obtain ⟨rfl, hF129, hq128⟩ := hq128
        rcases hq128 with ⟨h130, hk131⟩ | ⟨h130, hk131⟩
        ·
          refine wk_rV tt_182 rfl rfl ?_
          exact ⟨rfl, (sg_F_t hF116 (sg_F_m (L := [3, 4, 5, 6, 7, 8, 9, 10, 11, 12, 13, 14, 15, 16, 17, 18, 20, 21, 22, 23, 24, 25, 26, 27, 4035, 4036, 5036, 6036, 7036, 8036, 9019, 17002]) hF129 rfl)), Or.inl ⟨_, _, (hI120_e.trans (by simp only [pParL, pParE, h130, ↓reduceIte, Int.reduceEq, reduceCtorEq, or_true, true_or, or_false, false_or, and_true, true_and, and_false, false_and, not_true_eq_false, not_false_eq_true, decide_eq_true_eq, or_self, and_self, ite_self, Int.reduceLE])), (te_F ht123 hF129 rfl), hk131⟩⟩
        ·
          refine wk_rV tt_182 rfl rfl ?_
          exact ⟨rfl, (sg_F_t hF116 (sg_F_m (L := [3, 4, 5, 6, 7, 8, 9, 10, 11, 12, 13, 14, 15, 16, 17, 18, 20, 21, 22, 23, 24, 25, 26, 27, 4035, 4036, 5036, 6036, 7036, 8036, 9019, 17002]) hF129 rfl)), Or.inr ⟨(hI120_e.trans (by simp only [pParL, pParE, h130, ↓reduceIte, Int.reduceEq, reduceCtorEq, or_true, true_or, or_false, false_or, and_true, true_and, and_false, false_and, not_true_eq_false, not_false_eq_true, decide_eq_true_eq, or_self, and_self, ite_self, Int.reduceLE])), hk131⟩⟩
      | succ m118 ih117 =>
        intro σ115 v113 v114 i121 τ122 hF116 ht123 hk124 hI120
        obtain ⟨hI120_e, hI120_b⟩ := hI120
        refine wk_b tt_182 2 (pc' := 23) (ls' := [(0, .inr (.inr (.ref 35))), (1, .inl (a1)), (2, .inl (v113)), (3, .inl (v114))]) (st' := [.inl (6), .inl (v114)]) (σ' := σ115) rfl ?_
        refine wk_if2 tt_182 (tgt := 144) rfl rfl (by omega) (by decide) (fun (h : 6 < v114) => absurd h (by omega)) (fun (h132 : v114 ≤ 6) => ?_)
        refine wk_b tt_182 1 (pc' := 27) (ls' := [(0, .inr (.inr (.ref 35))), (1, .inl (a1)), (2, .inl (v113)), (3, .inl (v114))]) (st' := [.inl (v113)]) (σ' := σ115) rfl ?_
        refine wk_if tt_182 (tgt := 144) rfl rfl (by omega) (fun (h133 : v113 = 0) => ?_) (fun (h133 : ¬ v113 = 0) => ?_)
        ·
          have h133_a : v113 = 0 := by omega
          refine wk_b tt_182 2 (pc' := 147) (ls' := [(0, .inr (.inr (.ref 35))), (1, .inl (a1)), (2, .inl (v113)), (3, .inl (v114))]) (st' := [.inl (41), .inr (.inr (.ref 35))]) (σ' := σ115) rfl ?_
          refine wk_call tt_182 rfl rfl rfl rfl rfl tt_173 rfl (by omega) (px_exp z σ115 (41) c hc (i121) hk124 (by omega)) (fun w134 σ135 hq136 => ?_)
          obtain ⟨rfl, hF137, hq136⟩ := hq136
          rcases hq136 with ⟨h138, hk139⟩ | ⟨h138, hk139⟩
          ·
            refine wk_rV tt_182 rfl rfl ?_
            exact ⟨rfl, (sg_F_t hF116 (sg_F_m (L := [3, 4, 5, 6, 7, 8, 9, 10, 11, 12, 13, 14, 15, 16, 17, 18, 20, 21, 22, 23, 24, 25, 26, 27, 4035, 4036, 5036, 6036, 7036, 8036, 9019, 17002]) hF137 rfl)), Or.inl ⟨_, _, (hI120_e.trans (by simp only [pParL, pParE, h133_a, h138, ↓reduceIte, Int.reduceEq, reduceCtorEq, or_true, true_or, or_false, false_or, and_true, true_and, and_false, false_and, not_true_eq_false, not_false_eq_true, decide_eq_true_eq, or_self, and_self, ite_self, Int.reduceLE])), (te_F ht123 hF137 rfl), hk139⟩⟩
          ·
            refine wk_rV tt_182 rfl rfl ?_
            exact ⟨rfl, (sg_F_t hF116 (sg_F_m (L := [3, 4, 5, 6, 7, 8, 9, 10, 11, 12, 13, 14, 15, 16, 17, 18, 20, 21, 22, 23, 24, 25, 26, 27, 4035, 4036, 5036, 6036, 7036, 8036, 9019, 17002]) hF137 rfl)), Or.inr ⟨(hI120_e.trans (by simp only [pParL, pParE, h133_a, h138, ↓reduceIte, Int.reduceEq, reduceCtorEq, or_true, true_or, or_false, false_or, and_true, true_and, and_false, false_and, not_true_eq_false, not_false_eq_true, decide_eq_true_eq, or_self, and_self, ite_self, Int.reduceLE])), hk139⟩⟩
        ·
          have h133_a : v113 = 1 := by omega
          refine wk_b tt_182 4 (pc' := 40) (ls' := [(0, .inr (.inr (.ref 35))), (1, .inl (a1)), (2, .inl (v113)), (3, .inl (v114))]) (st' := [.inl (258), .inl ((sg_g σ115 36 4))]) (σ' := σ115) rfl ?_
          have r140 := tK_r hc (i121)
          rw [show (sg_g σ115 36 4) = (tK c (i121)) from by rw [hk124.2.2.2.2.1]]
          refine wk_if2 tt_182 (tgt := 49) rfl rfl (by omega) (by decide) (fun (h141 : ¬ (tK c (i121)) = 258) => ?_) (fun (h141 : (tK c (i121)) = 258) => ?_)
          ·
            refine wk_b tt_182 1 (pc' := 50) (ls' := [(0, .inr (.inr (.ref 35))), (1, .inl (a1)), (2, .inl (v113)), (3, .inl (v114))]) (st' := [.inr (.inr (.ref 35))]) (σ' := σ115) rfl ?_
            refine wk_call tt_182 rfl rfl rfl rfl rfl tt_175 rfl (by omega) (px_failR z σ115 c hc (i121) hk124) (fun w142 σ143 hq144 => ?_)
            obtain ⟨rfl, hF145, hj146⟩ := hq144
            refine wk_rV tt_182 rfl rfl ?_
            exact ⟨rfl, (sg_F_t hF116 (sg_F_m (L := [3, 4, 5, 6, 7, 8, 9, 10, 11, 12, 13, 14, 15, 16, 17, 18, 20, 21, 22, 23, 24, 25, 26, 27, 4035, 4036, 5036, 6036, 7036, 8036, 9019, 17002]) hF145 rfl)), Or.inr ⟨(hI120_e.trans (by simp only [pParL, pParE, h133_a, h141, ↓reduceIte, Int.reduceEq, reduceCtorEq, or_true, true_or, or_false, false_or, and_true, true_and, and_false, false_and, not_true_eq_false, not_false_eq_true, decide_eq_true_eq, or_self, and_self, ite_self, Int.reduceLE])), hj146⟩⟩
          ·
            refine wk_b tt_182 2 (pc' := 46) (ls' := [(0, .inr (.inr (.ref 35))), (1, .inl (a1)), (2, .inl (v113)), (3, .inl (v114))]) (st' := [.inl (6), .inl (v114)]) (σ' := σ115) rfl ?_
            refine wk_if2 tt_182 (tgt := 54) rfl rfl (by omega) (by decide) (fun (h147 : ¬ v114 = 6) => ?_) (fun (h147 : v114 = 6) => ?_)
            ·
              have h147_a : ¬ m118 = 0 := by omega
              refine wk_b tt_182 9 (pc' := 73) (ls' := [(0, .inr (.inr (.ref 35))), (1, .inl (a1)), (2, .inl (v113)), (3, .inl (v114))]) (st' := [.inl ((sg_g σ115 36 5)), .inr (.inl ((sg_gl σ115 36 7))), .inl (a1), .inr (.inr (.ref 19))]) (σ' := σ115) rfl ?_
              rw [show (sg_gl σ115 36 7) = (tW c (i121)) from by rw [hk124.2.2.2.2.2.2.1 (by omega)]]
              have r148 := tPl_r hc (i121)
              have r149 := hc.2.1
              rw [show (sg_g σ115 36 5) = (tPl c (i121)) from by rw [hk124.2.2.2.2.2.1]]
              refine wk_call tt_182 rfl rfl rfl rfl rfl tt_47 rfl (by omega) (px_dpa z σ115 (a1) ((tW c (i121))) ((tPl c (i121))) τ122 ht123 (by first | omega | exact sg_Rg _ _ _) (by first | omega | exact sg_Rg _ _ _)) (fun w150 σ151 hq152 => ?_)
              obtain ⟨rfl, hF153, ht154⟩ := hq152
              refine wk_b tt_182 2 (pc' := 80) (ls' := [(0, .inr (.inr (.ref 35))), (1, .inl (a1)), (2, .inl (v113)), (3, .inl (v114))]) (st' := [.inr (.inr (.ref 36))]) (σ' := σ151) rfl ?_
              refine wk_call tt_182 rfl rfl rfl rfl rfl tt_195 rfl (by omega) (tk_nx z σ151 c hc (i121) (tk_ag hk124 (ag_t (tkq_F hF153 rfl) (ag_r _ _))) (by omega)) (fun w155 σ156 hq157 => ?_)
              obtain ⟨rfl, hF158, hj159⟩ := hq157
              refine wk_b tt_182 2 (pc' := 86) (ls' := [(0, .inr (.inr (.ref 35))), (1, .inl (a1)), (2, .inl (v113)), (3, .inl (v114))]) (st' := [.inl (58), .inr (.inr (.ref 35))]) (σ' := σ156) rfl ?_
              refine wk_call tt_182 rfl rfl rfl rfl rfl tt_173 rfl (by omega) (px_exp z σ156 (58) c hc (i121 + 1) hj159 (by omega)) (fun w160 σ161 hq162 => ?_)
              obtain ⟨rfl, hF163, hq162⟩ := hq162
              rcases hq162 with ⟨h164, hk165⟩ | ⟨h164, hk165⟩
              ·
                refine wk_b tt_182 9 (pc' := 103) (ls' := [(0, .inr (.inr (.ref 35))), (1, .inl (a1)), (2, .inl (v113)), (3, .inl (v114))]) (st' := [.inr (.inr (.ref 35)), .inl (((a1 * 6) + v114)), .inr (.inr (.ref 27))]) (σ' := σ161) rfl ?_
                refine wk_call tt_182 rfl rfl rfl rfl rfl tt_188 rfl (by omega) (px_typ z σ161 c hc (i121 + 1 + 1) (pDPar τ122 (a1) ((tW c (i121))) ((tPl c (i121)))) (te_F (te_F ht154 hF158 rfl) hF163 rfl) hk165) (fun w166 σ167 hq168 => ?_)
                obtain ⟨q170, rfl, hF169, hq168⟩ := hq168
                rcases hq168 with ⟨i171, he172, rq174, hk173⟩ | ⟨he172, hk173⟩
                ·
                  rw [show ((a1 * 6) + v114) = (a1 * 6 + (6 - (m118 : Int))) from by omega]
                  refine wk_callp (v0 := none) (σ1 := (sx_put σ167 27 72 ((a1 * 6 + (6 - (m118 : Int)))) (q170))) tt_182 rfl rfl rfl rfl rfl tt_21 rfl (by omega) (pt_i0 z σ167 27 72 ((a1 * 6 + (6 - (m118 : Int)))) (q170) rfl (by decide) (by omega)) ?_
                  refine wk_b tt_182 4 (pc' := 118) (ls' := [(0, .inr (.inr (.ref 35))), (1, .inl (a1)), (2, .inl (v113)), (3, .inl (v114))]) (st' := [.inl (44), .inl ((sg_g (sx_put σ167 27 72 ((a1 * 6 + (6 - (m118 : Int)))) (q170)) 36 4))]) (σ' := (sx_put σ167 27 72 ((a1 * 6 + (6 - (m118 : Int)))) (q170))) rfl ?_
                  have r175 := tK_r hc (i171)
                  rw [show (sg_g (sx_put σ167 27 72 ((a1 * 6 + (6 - (m118 : Int)))) (q170)) 36 4) = (tK c (i171)) from by rw [sx_put_c _ _ _ _ _ _ _ (by decide), hk173.2.2.2.2.1]]
                  refine wk_if2 tt_182 (tgt := 125) rfl rfl (by omega) (by decide) (fun (h176 : ¬ (tK c (i171)) = 44) => ?_) (fun (h176 : (tK c (i171)) = 44) => ?_)
                  ·
                    refine wk_b tt_182 3 (pc' := 128) (ls' := [(2, .inl (0)), (0, .inr (.inr (.ref 35))), (1, .inl (a1)), (3, .inl (v114))]) (st' := [.inl (0)]) (σ' := (sx_put σ167 27 72 ((a1 * 6 + (6 - (m118 : Int)))) (q170))) rfl ?_
                    refine wk_if tt_182 (tgt := 138) rfl rfl (by decide) (fun _ => ?_) (fun (h : ¬ 0 = 0) => absurd h (by decide))
                    refine wk_b tt_182 2 (pc' := 20) (ls' := [(3, .inl ((v114 + 1))), (2, .inl (0)), (0, .inr (.inr (.ref 35))), (1, .inl (a1))]) (st' := []) (σ' := (sx_put σ167 27 72 ((a1 * 6 + (6 - (m118 : Int)))) (q170))) rfl ?_
                    refine wk_ls [(0, .inr (.inr (.ref 35))), (1, .inl (a1)), (2, .inl (0)), (3, .inl ((v114 + 1)))] rfl ⟨rfl, rfl, rfl, rfl, trivial⟩ (ih117 (sx_put σ167 27 72 ((a1 * 6 + (6 - (m118 : Int)))) (q170)) (0) ((v114 + 1)) (i171) (sx_put (pDPar τ122 (a1) ((tW c (i121))) ((tPl c (i121)))) 27 72 ((a1 * 6 + (6 - (m118 : Int)))) (q170)) (sg_F_p (sg_F_t (sg_F_t (sg_F_t (sg_F_t hF116 (sg_F_m (L := [3, 4, 5, 6, 7, 8, 9, 10, 11, 12, 13, 14, 15, 16, 17, 18, 20, 21, 22, 23, 24, 25, 26, 27, 4035, 4036, 5036, 6036, 7036, 8036, 9019, 17002]) hF153 rfl)) (sg_F_m (L := [3, 4, 5, 6, 7, 8, 9, 10, 11, 12, 13, 14, 15, 16, 17, 18, 20, 21, 22, 23, 24, 25, 26, 27, 4035, 4036, 5036, 6036, 7036, 8036, 9019, 17002]) hF158 rfl)) (sg_F_m (L := [3, 4, 5, 6, 7, 8, 9, 10, 11, 12, 13, 14, 15, 16, 17, 18, 20, 21, 22, 23, 24, 25, 26, 27, 4035, 4036, 5036, 6036, 7036, 8036, 9019, 17002]) hF163 rfl)) (sg_F_m (L := [3, 4, 5, 6, 7, 8, 9, 10, 11, 12, 13, 14, 15, 16, 17, 18, 20, 21, 22, 23, 24, 25, 26, 27, 4035, 4036, 5036, 6036, 7036, 8036, 9019, 17002]) hF169 rfl)) rfl _ _ _) (ag_p (te_F (te_F (te_F ht154 hF158 rfl) hF163 rfl) hF169 rfl) _ _ _ _) (tk_ag hk173 (ag_xp (ag_r _ _) rfl _ _ _)) ?_)
                    exact ⟨(hI120_e.trans (by simp only [pParL, pParE, h133_a, h141, h147_a, h164, he172, h176, ↓reduceIte, Int.reduceEq, reduceCtorEq, or_true, true_or, or_false, false_or, and_true, true_and, and_false, false_and, not_true_eq_false, not_false_eq_true, decide_eq_true_eq, or_self, and_self, ite_self, Int.reduceLE])), by omega, by omega, by omega⟩
                  ·
                    refine wk_b tt_182 4 (pc' := 128) (ls' := [(2, .inl (1)), (0, .inr (.inr (.ref 35))), (1, .inl (a1)), (3, .inl (v114))]) (st' := [.inl (1)]) (σ' := (sx_put σ167 27 72 ((a1 * 6 + (6 - (m118 : Int)))) (q170))) rfl ?_
                    refine wk_if tt_182 (tgt := 138) rfl rfl (by decide) (fun (h : 1 = 0) => absurd h (by decide)) (fun _ => ?_)
                    refine wk_b tt_182 2 (pc' := 135) (ls' := [(2, .inl (1)), (0, .inr (.inr (.ref 35))), (1, .inl (a1)), (3, .inl (v114))]) (st' := [.inr (.inr (.ref 36))]) (σ' := (sx_put σ167 27 72 ((a1 * 6 + (6 - (m118 : Int)))) (q170))) rfl ?_
                    refine wk_call tt_182 rfl rfl rfl rfl rfl tt_195 rfl (by omega) (tk_nx z (sx_put σ167 27 72 ((a1 * 6 + (6 - (m118 : Int)))) (q170)) c hc (i171) (tk_ag hk173 (ag_xp (ag_r _ _) rfl _ _ _)) (by omega)) (fun w179 σ180 hq181 => ?_)
                    obtain ⟨rfl, hF182, hj183⟩ := hq181
                    refine wk_b tt_182 2 (pc' := 20) (ls' := [(3, .inl ((v114 + 1))), (2, .inl (1)), (0, .inr (.inr (.ref 35))), (1, .inl (a1))]) (st' := []) (σ' := σ180) rfl ?_
                    refine wk_ls [(0, .inr (.inr (.ref 35))), (1, .inl (a1)), (2, .inl (1)), (3, .inl ((v114 + 1)))] rfl ⟨rfl, rfl, rfl, rfl, trivial⟩ (ih117 σ180 (1) ((v114 + 1)) (i171 + 1) (sx_put (pDPar τ122 (a1) ((tW c (i121))) ((tPl c (i121)))) 27 72 ((a1 * 6 + (6 - (m118 : Int)))) (q170)) (sg_F_t (sg_F_p (sg_F_t (sg_F_t (sg_F_t (sg_F_t hF116 (sg_F_m (L := [3, 4, 5, 6, 7, 8, 9, 10, 11, 12, 13, 14, 15, 16, 17, 18, 20, 21, 22, 23, 24, 25, 26, 27, 4035, 4036, 5036, 6036, 7036, 8036, 9019, 17002]) hF153 rfl)) (sg_F_m (L := [3, 4, 5, 6, 7, 8, 9, 10, 11, 12, 13, 14, 15, 16, 17, 18, 20, 21, 22, 23, 24, 25, 26, 27, 4035, 4036, 5036, 6036, 7036, 8036, 9019, 17002]) hF158 rfl)) (sg_F_m (L := [3, 4, 5, 6, 7, 8, 9, 10, 11, 12, 13, 14, 15, 16, 17, 18, 20, 21, 22, 23, 24, 25, 26, 27, 4035, 4036, 5036, 6036, 7036, 8036, 9019, 17002]) hF163 rfl)) (sg_F_m (L := [3, 4, 5, 6, 7, 8, 9, 10, 11, 12, 13, 14, 15, 16, 17, 18, 20, 21, 22, 23, 24, 25, 26, 27, 4035, 4036, 5036, 6036, 7036, 8036, 9019, 17002]) hF169 rfl)) rfl _ _ _) (sg_F_m (L := [3, 4, 5, 6, 7, 8, 9, 10, 11, 12, 13, 14, 15, 16, 17, 18, 20, 21, 22, 23, 24, 25, 26, 27, 4035, 4036, 5036, 6036, 7036, 8036, 9019, 17002]) hF182 rfl)) (te_F (ag_p (te_F (te_F (te_F ht154 hF158 rfl) hF163 rfl) hF169 rfl) _ _ _ _) hF182 rfl) hj183 ?_)
                    exact ⟨(hI120_e.trans (by simp only [pParL, pParE, h133_a, h141, h147_a, h164, he172, h176, ↓reduceIte, Int.reduceEq, reduceCtorEq, or_true, true_or, or_false, false_or, and_true, true_and, and_false, false_and, not_true_eq_false, not_false_eq_true, decide_eq_true_eq, or_self, and_self, ite_self, Int.reduceLE])), by omega, by omega, by omega⟩
                ·
                  refine wk_callp (v0 := none) (σ1 := (sx_put σ167 27 72 (sg_n (((a1 * 6) + v114))) (q170))) tt_182 rfl rfl rfl rfl rfl tt_21 rfl (by omega) (pt_i z σ167 27 72 (((a1 * 6) + v114)) (q170) rfl (by decide)) ?_
                  refine wk_b tt_182 4 (pc' := 118) (ls' := [(0, .inr (.inr (.ref 35))), (1, .inl (a1)), (2, .inl (v113)), (3, .inl (v114))]) (st' := [.inl (44), .inl ((sg_g (sx_put σ167 27 72 (sg_n (((a1 * 6) + v114))) (q170)) 36 4))]) (σ' := (sx_put σ167 27 72 (sg_n (((a1 * 6) + v114))) (q170))) rfl ?_
                  rw [show (sg_g (sx_put σ167 27 72 (sg_n (((a1 * 6) + v114))) (q170)) 36 4) = 260 from by rw [sx_put_c _ _ _ _ _ _ _ (by decide), hk173.1]]
                  refine wk_if2 tt_182 (tgt := 125) rfl rfl (by decide) (by decide) (fun _ => ?_) (fun (h : 260 = 44) => absurd h (by decide))
                  refine wk_b tt_182 3 (pc' := 128) (ls' := [(2, .inl (0)), (0, .inr (.inr (.ref 35))), (1, .inl (a1)), (3, .inl (v114))]) (st' := [.inl (0)]) (σ' := (sx_put σ167 27 72 (sg_n (((a1 * 6) + v114))) (q170))) rfl ?_
                  refine wk_if tt_182 (tgt := 138) rfl rfl (by decide) (fun _ => ?_) (fun (h : ¬ 0 = 0) => absurd h (by decide))
                  refine wk_b tt_182 2 (pc' := 20) (ls' := [(3, .inl ((v114 + 1))), (2, .inl (0)), (0, .inr (.inr (.ref 35))), (1, .inl (a1))]) (st' := []) (σ' := (sx_put σ167 27 72 (sg_n (((a1 * 6) + v114))) (q170))) rfl ?_
                  refine wk_b tt_182 2 (pc' := 23) (ls' := [(3, .inl ((v114 + 1))), (2, .inl (0)), (0, .inr (.inr (.ref 35))), (1, .inl (a1))]) (st' := [.inl (6), .inl ((v114 + 1))]) (σ' := (sx_put σ167 27 72 (sg_n (((a1 * 6) + v114))) (q170))) rfl ?_
                  refine wk_if2 tt_182 (tgt := 144) rfl rfl (by omega) (by decide) (fun (h186 : 6 < (v114 + 1)) => ?_) (fun (h186 : (v114 + 1) ≤ 6) => ?_)
                  ·
                    refine wk_b tt_182 2 (pc' := 147) (ls' := [(3, .inl ((v114 + 1))), (2, .inl (0)), (0, .inr (.inr (.ref 35))), (1, .inl (a1))]) (st' := [.inl (41), .inr (.inr (.ref 35))]) (σ' := (sx_put σ167 27 72 (sg_n (((a1 * 6) + v114))) (q170))) rfl ?_
                    refine wk_call tt_182 rfl rfl rfl rfl rfl tt_173 rfl (by omega) (pj_exp z (sx_put σ167 27 72 (sg_n (((a1 * 6) + v114))) (q170)) (41) (jm_ag hk173 (ag_xp (ag_r _ _) rfl _ _ _)) (by omega)) (fun w187 σ188 hq189 => ?_)
                    obtain ⟨rfl, hF190, hj191⟩ := hq189
                    refine wk_rV tt_182 rfl rfl ?_
                    exact ⟨rfl, (sg_F_t (sg_F_p (sg_F_t (sg_F_t (sg_F_t (sg_F_t hF116 (sg_F_m (L := [3, 4, 5, 6, 7, 8, 9, 10, 11, 12, 13, 14, 15, 16, 17, 18, 20, 21, 22, 23, 24, 25, 26, 27, 4035, 4036, 5036, 6036, 7036, 8036, 9019, 17002]) hF153 rfl)) (sg_F_m (L := [3, 4, 5, 6, 7, 8, 9, 10, 11, 12, 13, 14, 15, 16, 17, 18, 20, 21, 22, 23, 24, 25, 26, 27, 4035, 4036, 5036, 6036, 7036, 8036, 9019, 17002]) hF158 rfl)) (sg_F_m (L := [3, 4, 5, 6, 7, 8, 9, 10, 11, 12, 13, 14, 15, 16, 17, 18, 20, 21, 22, 23, 24, 25, 26, 27, 4035, 4036, 5036, 6036, 7036, 8036, 9019, 17002]) hF163 rfl)) (sg_F_m (L := [3, 4, 5, 6, 7, 8, 9, 10, 11, 12, 13, 14, 15, 16, 17, 18, 20, 21, 22, 23, 24, 25, 26, 27, 4035, 4036, 5036, 6036, 7036, 8036, 9019, 17002]) hF169 rfl)) rfl _ _ _) (sg_F_m (L := [3, 4, 5, 6, 7, 8, 9, 10, 11, 12, 13, 14, 15, 16, 17, 18, 20, 21, 22, 23, 24, 25, 26, 27, 4035, 4036, 5036, 6036, 7036, 8036, 9019, 17002]) hF190 rfl)), Or.inr ⟨(hI120_e.trans (by simp only [pParL, pParE, h133_a, h141, h147_a, h164, he172, ↓reduceIte, Int.reduceEq, reduceCtorEq, or_true, true_or, or_false, false_or, and_true, true_and, and_false, false_and, not_true_eq_false, not_false_eq_true, decide_eq_true_eq, or_self, and_self, ite_self, Int.reduceLE])), hj191⟩⟩
                  ·
                    refine wk_b tt_182 1 (pc' := 27) (ls' := [(3, .inl ((v114 + 1))), (2, .inl (0)), (0, .inr (.inr (.ref 35))), (1, .inl (a1))]) (st' := [.inl (0)]) (σ' := (sx_put σ167 27 72 (sg_n (((a1 * 6) + v114))) (q170))) rfl ?_
                    refine wk_if tt_182 (tgt := 144) rfl rfl (by decide) (fun _ => ?_) (fun (h : ¬ 0 = 0) => absurd h (by decide))
                    refine wk_b tt_182 2 (pc' := 147) (ls' := [(3, .inl ((v114 + 1))), (2, .inl (0)), (0, .inr (.inr (.ref 35))), (1, .inl (a1))]) (st' := [.inl (41), .inr (.inr (.ref 35))]) (σ' := (sx_put σ167 27 72 (sg_n (((a1 * 6) + v114))) (q170))) rfl ?_
                    refine wk_call tt_182 rfl rfl rfl rfl rfl tt_173 rfl (by omega) (pj_exp z (sx_put σ167 27 72 (sg_n (((a1 * 6) + v114))) (q170)) (41) (jm_ag hk173 (ag_xp (ag_r _ _) rfl _ _ _)) (by omega)) (fun w193 σ194 hq195 => ?_)
                    obtain ⟨rfl, hF196, hj197⟩ := hq195
                    refine wk_rV tt_182 rfl rfl ?_
                    exact ⟨rfl, (sg_F_t (sg_F_p (sg_F_t (sg_F_t (sg_F_t (sg_F_t hF116 (sg_F_m (L := [3, 4, 5, 6, 7, 8, 9, 10, 11, 12, 13, 14, 15, 16, 17, 18, 20, 21, 22, 23, 24, 25, 26, 27, 4035, 4036, 5036, 6036, 7036, 8036, 9019, 17002]) hF153 rfl)) (sg_F_m (L := [3, 4, 5, 6, 7, 8, 9, 10, 11, 12, 13, 14, 15, 16, 17, 18, 20, 21, 22, 23, 24, 25, 26, 27, 4035, 4036, 5036, 6036, 7036, 8036, 9019, 17002]) hF158 rfl)) (sg_F_m (L := [3, 4, 5, 6, 7, 8, 9, 10, 11, 12, 13, 14, 15, 16, 17, 18, 20, 21, 22, 23, 24, 25, 26, 27, 4035, 4036, 5036, 6036, 7036, 8036, 9019, 17002]) hF163 rfl)) (sg_F_m (L := [3, 4, 5, 6, 7, 8, 9, 10, 11, 12, 13, 14, 15, 16, 17, 18, 20, 21, 22, 23, 24, 25, 26, 27, 4035, 4036, 5036, 6036, 7036, 8036, 9019, 17002]) hF169 rfl)) rfl _ _ _) (sg_F_m (L := [3, 4, 5, 6, 7, 8, 9, 10, 11, 12, 13, 14, 15, 16, 17, 18, 20, 21, 22, 23, 24, 25, 26, 27, 4035, 4036, 5036, 6036, 7036, 8036, 9019, 17002]) hF196 rfl)), Or.inr ⟨(hI120_e.trans (by simp only [pParL, pParE, h133_a, h141, h147_a, h164, he172, ↓reduceIte, Int.reduceEq, reduceCtorEq, or_true, true_or, or_false, false_or, and_true, true_and, and_false, false_and, not_true_eq_false, not_false_eq_true, decide_eq_true_eq, or_self, and_self, ite_self, Int.reduceLE])), hj197⟩⟩
              ·
                refine wk_b tt_182 9 (pc' := 103) (ls' := [(0, .inr (.inr (.ref 35))), (1, .inl (a1)), (2, .inl (v113)), (3, .inl (v114))]) (st' := [.inr (.inr (.ref 35)), .inl (((a1 * 6) + v114)), .inr (.inr (.ref 27))]) (σ' := σ161) rfl ?_
                refine wk_call tt_182 rfl rfl rfl rfl rfl tt_188 rfl (by omega) (pj_typ z σ161 hk165) (fun w198 σ199 hq200 => ?_)
                obtain ⟨q203, rfl, hF201, hj202⟩ := hq200
                refine wk_callp (v0 := none) (σ1 := (sx_put σ199 27 72 (sg_n (((a1 * 6) + v114))) (q203))) tt_182 rfl rfl rfl rfl rfl tt_21 rfl (by omega) (pt_i z σ199 27 72 (((a1 * 6) + v114)) (q203) rfl (by decide)) ?_
                refine wk_b tt_182 4 (pc' := 118) (ls' := [(0, .inr (.inr (.ref 35))), (1, .inl (a1)), (2, .inl (v113)), (3, .inl (v114))]) (st' := [.inl (44), .inl ((sg_g (sx_put σ199 27 72 (sg_n (((a1 * 6) + v114))) (q203)) 36 4))]) (σ' := (sx_put σ199 27 72 (sg_n (((a1 * 6) + v114))) (q203))) rfl ?_
                rw [show (sg_g (sx_put σ199 27 72 (sg_n (((a1 * 6) + v114))) (q203)) 36 4) = 260 from by rw [sx_put_c _ _ _ _ _ _ _ (by decide), hj202.1]]
                refine wk_if2 tt_182 (tgt := 125) rfl rfl (by decide) (by decide) (fun _ => ?_) (fun (h : 260 = 44) => absurd h (by decide))
                refine wk_b tt_182 3 (pc' := 128) (ls' := [(2, .inl (0)), (0, .inr (.inr (.ref 35))), (1, .inl (a1)), (3, .inl (v114))]) (st' := [.inl (0)]) (σ' := (sx_put σ199 27 72 (sg_n (((a1 * 6) + v114))) (q203))) rfl ?_
                refine wk_if tt_182 (tgt := 138) rfl rfl (by decide) (fun _ => ?_) (fun (h : ¬ 0 = 0) => absurd h (by decide))
                refine wk_b tt_182 2 (pc' := 20) (ls' := [(3, .inl ((v114 + 1))), (2, .inl (0)), (0, .inr (.inr (.ref 35))), (1, .inl (a1))]) (st' := []) (σ' := (sx_put σ199 27 72 (sg_n (((a1 * 6) + v114))) (q203))) rfl ?_
                refine wk_b tt_182 2 (pc' := 23) (ls' := [(3, .inl ((v114 + 1))), (2, .inl (0)), (0, .inr (.inr (.ref 35))), (1, .inl (a1))]) (st' := [.inl (6), .inl ((v114 + 1))]) (σ' := (sx_put σ199 27 72 (sg_n (((a1 * 6) + v114))) (q203))) rfl ?_
                refine wk_if2 tt_182 (tgt := 144) rfl rfl (by omega) (by decide) (fun (h206 : 6 < (v114 + 1)) => ?_) (fun (h206 : (v114 + 1) ≤ 6) => ?_)
                ·
                  refine wk_b tt_182 2 (pc' := 147) (ls' := [(3, .inl ((v114 + 1))), (2, .inl (0)), (0, .inr (.inr (.ref 35))), (1, .inl (a1))]) (st' := [.inl (41), .inr (.inr (.ref 35))]) (σ' := (sx_put σ199 27 72 (sg_n (((a1 * 6) + v114))) (q203))) rfl ?_
                  refine wk_call tt_182 rfl rfl rfl rfl rfl tt_173 rfl (by omega) (pj_exp z (sx_put σ199 27 72 (sg_n (((a1 * 6) + v114))) (q203)) (41) (jm_ag hj202 (ag_xp (ag_r _ _) rfl _ _ _)) (by omega)) (fun w207 σ208 hq209 => ?_)
                  obtain ⟨rfl, hF210, hj211⟩ := hq209
                  refine wk_rV tt_182 rfl rfl ?_
                  exact ⟨rfl, (sg_F_t (sg_F_p (sg_F_t (sg_F_t (sg_F_t (sg_F_t hF116 (sg_F_m (L := [3, 4, 5, 6, 7, 8, 9, 10, 11, 12, 13, 14, 15, 16, 17, 18, 20, 21, 22, 23, 24, 25, 26, 27, 4035, 4036, 5036, 6036, 7036, 8036, 9019, 17002]) hF153 rfl)) (sg_F_m (L := [3, 4, 5, 6, 7, 8, 9, 10, 11, 12, 13, 14, 15, 16, 17, 18, 20, 21, 22, 23, 24, 25, 26, 27, 4035, 4036, 5036, 6036, 7036, 8036, 9019, 17002]) hF158 rfl)) (sg_F_m (L := [3, 4, 5, 6, 7, 8, 9, 10, 11, 12, 13, 14, 15, 16, 17, 18, 20, 21, 22, 23, 24, 25, 26, 27, 4035, 4036, 5036, 6036, 7036, 8036, 9019, 17002]) hF163 rfl)) (sg_F_m (L := [3, 4, 5, 6, 7, 8, 9, 10, 11, 12, 13, 14, 15, 16, 17, 18, 20, 21, 22, 23, 24, 25, 26, 27, 4035, 4036, 5036, 6036, 7036, 8036, 9019, 17002]) hF201 rfl)) rfl _ _ _) (sg_F_m (L := [3, 4, 5, 6, 7, 8, 9, 10, 11, 12, 13, 14, 15, 16, 17, 18, 20, 21, 22, 23, 24, 25, 26, 27, 4035, 4036, 5036, 6036, 7036, 8036, 9019, 17002]) hF210 rfl)), Or.inr ⟨(hI120_e.trans (by simp only [pParL, pParE, h133_a, h141, h147_a, h164, ↓reduceIte, Int.reduceEq, reduceCtorEq, or_true, true_or, or_false, false_or, and_true, true_and, and_false, false_and, not_true_eq_false, not_false_eq_true, decide_eq_true_eq, or_self, and_self, ite_self, Int.reduceLE])), hj211⟩⟩
                ·
                  refine wk_b tt_182 1 (pc' := 27) (ls' := [(3, .inl ((v114 + 1))), (2, .inl (0)), (0, .inr (.inr (.ref 35))), (1, .inl (a1))]) (st' := [.inl (0)]) (σ' := (sx_put σ199 27 72 (sg_n (((a1 * 6) + v114))) (q203))) rfl ?_
                  refine wk_if tt_182 (tgt := 144) rfl rfl (by decide) (fun _ => ?_) (fun (h : ¬ 0 = 0) => absurd h (by decide))
                  refine wk_b tt_182 2 (pc' := 147) (ls' := [(3, .inl ((v114 + 1))), (2, .inl (0)), (0, .inr (.inr (.ref 35))), (1, .inl (a1))]) (st' := [.inl (41), .inr (.inr (.ref 35))]) (σ' := (sx_put σ199 27 72 (sg_n (((a1 * 6) + v114))) (q203))) rfl ?_
                  refine wk_call tt_182 rfl rfl rfl rfl rfl tt_173 rfl (by omega) (pj_exp z (sx_put σ199 27 72 (sg_n (((a1 * 6) + v114))) (q203)) (41) (jm_ag hj202 (ag_xp (ag_r _ _) rfl _ _ _)) (by omega)) (fun w213 σ214 hq215 => ?_)
                  obtain ⟨rfl, hF216, hj217⟩ := hq215
                  refine wk_rV tt_182 rfl rfl ?_
                  exact ⟨rfl, (sg_F_t (sg_F_p (sg_F_t (sg_F_t (sg_F_t (sg_F_t hF116 (sg_F_m (L := [3, 4, 5, 6, 7, 8, 9, 10, 11, 12, 13, 14, 15, 16, 17, 18, 20, 21, 22, 23, 24, 25, 26, 27, 4035, 4036, 5036, 6036, 7036, 8036, 9019, 17002]) hF153 rfl)) (sg_F_m (L := [3, 4, 5, 6, 7, 8, 9, 10, 11, 12, 13, 14, 15, 16, 17, 18, 20, 21, 22, 23, 24, 25, 26, 27, 4035, 4036, 5036, 6036, 7036, 8036, 9019, 17002]) hF158 rfl)) (sg_F_m (L := [3, 4, 5, 6, 7, 8, 9, 10, 11, 12, 13, 14, 15, 16, 17, 18, 20, 21, 22, 23, 24, 25, 26, 27, 4035, 4036, 5036, 6036, 7036, 8036, 9019, 17002]) hF163 rfl)) (sg_F_m (L := [3, 4, 5, 6, 7, 8, 9, 10, 11, 12, 13, 14, 15, 16, 17, 18, 20, 21, 22, 23, 24, 25, 26, 27, 4035, 4036, 5036, 6036, 7036, 8036, 9019, 17002]) hF201 rfl)) rfl _ _ _) (sg_F_m (L := [3, 4, 5, 6, 7, 8, 9, 10, 11, 12, 13, 14, 15, 16, 17, 18, 20, 21, 22, 23, 24, 25, 26, 27, 4035, 4036, 5036, 6036, 7036, 8036, 9019, 17002]) hF216 rfl)), Or.inr ⟨(hI120_e.trans (by simp only [pParL, pParE, h133_a, h141, h147_a, h164, ↓reduceIte, Int.reduceEq, reduceCtorEq, or_true, true_or, or_false, false_or, and_true, true_and, and_false, false_and, not_true_eq_false, not_false_eq_true, decide_eq_true_eq, or_self, and_self, ite_self, Int.reduceLE])), hj217⟩⟩
            ·
              have h147_a : m118 = 0 := by omega
              refine wk_b tt_182 1 (pc' := 50) (ls' := [(0, .inr (.inr (.ref 35))), (1, .inl (a1)), (2, .inl (v113)), (3, .inl (v114))]) (st' := [.inr (.inr (.ref 35))]) (σ' := σ115) rfl ?_
              refine wk_call tt_182 rfl rfl rfl rfl rfl tt_175 rfl (by omega) (px_failR z σ115 c hc (i121) hk124) (fun w218 σ219 hq220 => ?_)
              obtain ⟨rfl, hF221, hj222⟩ := hq220
              refine wk_rV tt_182 rfl rfl ?_
              exact ⟨rfl, (sg_F_t hF116 (sg_F_m (L := [3, 4, 5, 6, 7, 8, 9, 10, 11, 12, 13, 14, 15, 16, 17, 18, 20, 21, 22, 23, 24, 25, 26, 27, 4035, 4036, 5036, 6036, 7036, 8036, 9019, 17002]) hF221 rfl)), Or.inr ⟨(hI120_e.trans (by simp only [pParL, pParE, h133_a, h141, h147_a, ↓reduceIte, Int.reduceEq, reduceCtorEq, or_true, true_or, or_false, false_or, and_true, true_and, and_false, false_and, not_true_eq_false, not_false_eq_true, decide_eq_true_eq, or_self, and_self, ite_self, Int.reduceLE])), hj222⟩⟩
    refine wk_ls [(0, .inr (.inr (.ref 35))), (1, .inl (a1)), (2, .inl (1)), (3, .inl (0))] rfl ⟨rfl, rfl, rfl, rfl, trivial⟩ (lp119 7 σ (1) (0) (i) τ (sg_F_r [3, 4, 5, 6, 7, 8, 9, 10, 11, 12, 13, 14, 15, 16, 17, 18, 20, 21, 22, 23, 24, 25, 26, 27, 4035, 4036, 5036, 6036, 7036, 8036, 9019, 17002] σ) ht hk ?_)
    exact ⟨((by simp only [pPars, pParE, h2, ↓reduceIte, Int.reduceEq, reduceCtorEq, or_true, true_or, or_false, false_or, and_true, true_and, and_false, false_and, not_true_eq_false, not_false_eq_true, decide_eq_true_eq, or_self, and_self, ite_self, Int.reduceLE])), by omega, by omega, by omega⟩
-- NestedVectors$Parser.meaning
set_option maxRecDepth 8000 in
theorem px_mea (c : tkC) (hc : tkOK c) (d : Nat) (a1 : Int) (hd : 0 ≤ a1 ∧ a1 ≤ 12) (E : pF) (hE : cE c d 174 0 (fun _ => True) E) : cD c (d + 9) 181 a1 (fun _ => True) (pMean c E a1) := by
  intro z σ i τ ht hk hp
  refine wk_b tt_181 2 (pc' := 3) (ls' := [(0, .inr (.inr (.ref 35))), (1, .inl (a1))]) (st' := [.inl (61), .inr (.inr (.ref 35))]) (σ' := σ) rfl ?_
  refine wk_call tt_181 rfl rfl rfl rfl rfl tt_173 rfl (by omega) (px_exp z σ (61) c hc (i) hk (by omega)) (fun w1 σ2 hq3 => ?_)
  obtain ⟨rfl, hF4, hq3⟩ := hq3
  rcases hq3 with ⟨h5, hk6⟩ | ⟨h5, hk6⟩
  ·
    refine wk_b tt_181 6 (pc' := 16) (ls' := [(0, .inr (.inr (.ref 35))), (1, .inl (a1))]) (st' := [.inl (0), .inr (.inr (.ref 35)), .inl (a1), .inr (.inr (.ref 22))]) (σ' := σ2) rfl ?_
    refine wk_call tt_181 rfl rfl rfl rfl rfl tt_174 rfl (by omega) (hE z σ2 (i + 1) τ (te_F ht hF4 rfl) hk6 trivial) (fun w7 σ8 hq9 => ?_)
    obtain ⟨q16, rfl, hF10, hq9⟩ := hq9
    rcases hq9 with ⟨i11, τ12, he13, rq17, ht14, hk15⟩ | ⟨he13, hk15⟩
    ·
      refine wk_callp (v0 := none) (σ1 := (sx_put σ8 22 12 (a1) (q16))) tt_181 rfl rfl rfl rfl rfl tt_21 rfl (by omega) (pt_i0 z σ8 22 12 (a1) (q16) rfl (by decide) (by omega)) ?_
      refine wk_b tt_181 2 (pc' := 25) (ls' := [(0, .inr (.inr (.ref 35))), (1, .inl (a1))]) (st' := [.inl (59), .inr (.inr (.ref 35))]) (σ' := (sx_put σ8 22 12 (a1) (q16))) rfl ?_
      refine wk_call tt_181 rfl rfl rfl rfl rfl tt_173 rfl (by omega) (px_exp z (sx_put σ8 22 12 (a1) (q16)) (59) c hc (i11) (tk_ag hk15 (ag_xp (ag_r _ _) rfl _ _ _)) (by omega)) (fun w18 σ19 hq20 => ?_)
      obtain ⟨rfl, hF21, hq20⟩ := hq20
      rcases hq20 with ⟨h22, hk23⟩ | ⟨h22, hk23⟩
      ·
        refine wk_rV tt_181 rfl rfl ?_
        exact ⟨rfl, (sg_F_t (sg_F_p (sg_F_t (sg_F_t (sg_F_r [3, 4, 5, 6, 7, 8, 9, 10, 11, 12, 13, 14, 15, 16, 17, 18, 20, 21, 22, 23, 24, 25, 26, 27, 4035, 4036, 5036, 6036, 7036, 8036, 9019, 17002] σ) (sg_F_m (L := [3, 4, 5, 6, 7, 8, 9, 10, 11, 12, 13, 14, 15, 16, 17, 18, 20, 21, 22, 23, 24, 25, 26, 27, 4035, 4036, 5036, 6036, 7036, 8036, 9019, 17002]) hF4 rfl)) (sg_F_m (L := [3, 4, 5, 6, 7, 8, 9, 10, 11, 12, 13, 14, 15, 16, 17, 18, 20, 21, 22, 23, 24, 25, 26, 27, 4035, 4036, 5036, 6036, 7036, 8036, 9019, 17002]) hF10 rfl)) rfl _ _ _) (sg_F_m (L := [3, 4, 5, 6, 7, 8, 9, 10, 11, 12, 13, 14, 15, 16, 17, 18, 20, 21, 22, 23, 24, 25, 26, 27, 4035, 4036, 5036, 6036, 7036, 8036, 9019, 17002]) hF21 rfl)), Or.inl ⟨_, _, ((by simp only [pMean, h5, he13, h22, ↓reduceIte, Int.reduceEq, reduceCtorEq, or_true, true_or, or_false, false_or, and_true, true_and, and_false, false_and, not_true_eq_false, not_false_eq_true, decide_eq_true_eq, or_self, and_self, ite_self, Int.reduceLE])), (te_F (ag_p ht14 _ _ _ _) hF21 rfl), hk23⟩⟩
      ·
        refine wk_rV tt_181 rfl rfl ?_
        exact ⟨rfl, (sg_F_t (sg_F_p (sg_F_t (sg_F_t (sg_F_r [3, 4, 5, 6, 7, 8, 9, 10, 11, 12, 13, 14, 15, 16, 17, 18, 20, 21, 22, 23, 24, 25, 26, 27, 4035, 4036, 5036, 6036, 7036, 8036, 9019, 17002] σ) (sg_F_m (L := [3, 4, 5, 6, 7, 8, 9, 10, 11, 12, 13, 14, 15, 16, 17, 18, 20, 21, 22, 23, 24, 25, 26, 27, 4035, 4036, 5036, 6036, 7036, 8036, 9019, 17002]) hF4 rfl)) (sg_F_m (L := [3, 4, 5, 6, 7, 8, 9, 10, 11, 12, 13, 14, 15, 16, 17, 18, 20, 21, 22, 23, 24, 25, 26, 27, 4035, 4036, 5036, 6036, 7036, 8036, 9019, 17002]) hF10 rfl)) rfl _ _ _) (sg_F_m (L := [3, 4, 5, 6, 7, 8, 9, 10, 11, 12, 13, 14, 15, 16, 17, 18, 20, 21, 22, 23, 24, 25, 26, 27, 4035, 4036, 5036, 6036, 7036, 8036, 9019, 17002]) hF21 rfl)), Or.inr ⟨((by simp only [pMean, h5, he13, h22, ↓reduceIte, Int.reduceEq, reduceCtorEq, or_true, true_or, or_false, false_or, and_true, true_and, and_false, false_and, not_true_eq_false, not_false_eq_true, decide_eq_true_eq, or_self, and_self, ite_self, Int.reduceLE])), hk23⟩⟩
    ·
      refine wk_callp (v0 := none) (σ1 := (sx_put σ8 22 12 (sg_n (a1)) (q16))) tt_181 rfl rfl rfl rfl rfl tt_21 rfl (by omega) (pt_i z σ8 22 12 (a1) (q16) rfl (by decide)) ?_
      refine wk_b tt_181 2 (pc' := 25) (ls' := [(0, .inr (.inr (.ref 35))), (1, .inl (a1))]) (st' := [.inl (59), .inr (.inr (.ref 35))]) (σ' := (sx_put σ8 22 12 (sg_n (a1)) (q16))) rfl ?_
      refine wk_call tt_181 rfl rfl rfl rfl rfl tt_173 rfl (by omega) (pj_exp z (sx_put σ8 22 12 (sg_n (a1)) (q16)) (59) (jm_ag hk15 (ag_xp (ag_r _ _) rfl _ _ _)) (by omega)) (fun w24 σ25 hq26 => ?_)
      obtain ⟨rfl, hF27, hj28⟩ := hq26
      refine wk_rV tt_181 rfl rfl ?_
      exact ⟨rfl, (sg_F_t (sg_F_p (sg_F_t (sg_F_t (sg_F_r [3, 4, 5, 6, 7, 8, 9, 10, 11, 12, 13, 14, 15, 16, 17, 18, 20, 21, 22, 23, 24, 25, 26, 27, 4035, 4036, 5036, 6036, 7036, 8036, 9019, 17002] σ) (sg_F_m (L := [3, 4, 5, 6, 7, 8, 9, 10, 11, 12, 13, 14, 15, 16, 17, 18, 20, 21, 22, 23, 24, 25, 26, 27, 4035, 4036, 5036, 6036, 7036, 8036, 9019, 17002]) hF4 rfl)) (sg_F_m (L := [3, 4, 5, 6, 7, 8, 9, 10, 11, 12, 13, 14, 15, 16, 17, 18, 20, 21, 22, 23, 24, 25, 26, 27, 4035, 4036, 5036, 6036, 7036, 8036, 9019, 17002]) hF10 rfl)) rfl _ _ _) (sg_F_m (L := [3, 4, 5, 6, 7, 8, 9, 10, 11, 12, 13, 14, 15, 16, 17, 18, 20, 21, 22, 23, 24, 25, 26, 27, 4035, 4036, 5036, 6036, 7036, 8036, 9019, 17002]) hF27 rfl)), Or.inr ⟨((by simp only [pMean, h5, he13, ↓reduceIte, Int.reduceEq, reduceCtorEq, or_true, true_or, or_false, false_or, and_true, true_and, and_false, false_and, not_true_eq_false, not_false_eq_true, decide_eq_true_eq, or_self, and_self, ite_self, Int.reduceLE])), hj28⟩⟩
  ·
    refine wk_b tt_181 6 (pc' := 16) (ls' := [(0, .inr (.inr (.ref 35))), (1, .inl (a1))]) (st' := [.inl (0), .inr (.inr (.ref 35)), .inl (a1), .inr (.inr (.ref 22))]) (σ' := σ2) rfl ?_
    refine wk_call tt_181 rfl rfl rfl rfl rfl tt_174 rfl (by omega) (pj_expression z σ2 (0) hk6) (fun w29 σ30 hq31 => ?_)
    obtain ⟨q34, rfl, hF32, hj33⟩ := hq31
    refine wk_callp (v0 := none) (σ1 := (sx_put σ30 22 12 (sg_n (a1)) (q34))) tt_181 rfl rfl rfl rfl rfl tt_21 rfl (by omega) (pt_i z σ30 22 12 (a1) (q34) rfl (by decide)) ?_
    refine wk_b tt_181 2 (pc' := 25) (ls' := [(0, .inr (.inr (.ref 35))), (1, .inl (a1))]) (st' := [.inl (59), .inr (.inr (.ref 35))]) (σ' := (sx_put σ30 22 12 (sg_n (a1)) (q34))) rfl ?_
    refine wk_call tt_181 rfl rfl rfl rfl rfl tt_173 rfl (by omega) (pj_exp z (sx_put σ30 22 12 (sg_n (a1)) (q34)) (59) (jm_ag hj33 (ag_xp (ag_r _ _) rfl _ _ _)) (by omega)) (fun w35 σ36 hq37 => ?_)
    obtain ⟨rfl, hF38, hj39⟩ := hq37
    refine wk_rV tt_181 rfl rfl ?_
    exact ⟨rfl, (sg_F_t (sg_F_p (sg_F_t (sg_F_t (sg_F_r [3, 4, 5, 6, 7, 8, 9, 10, 11, 12, 13, 14, 15, 16, 17, 18, 20, 21, 22, 23, 24, 25, 26, 27, 4035, 4036, 5036, 6036, 7036, 8036, 9019, 17002] σ) (sg_F_m (L := [3, 4, 5, 6, 7, 8, 9, 10, 11, 12, 13, 14, 15, 16, 17, 18, 20, 21, 22, 23, 24, 25, 26, 27, 4035, 4036, 5036, 6036, 7036, 8036, 9019, 17002]) hF4 rfl)) (sg_F_m (L := [3, 4, 5, 6, 7, 8, 9, 10, 11, 12, 13, 14, 15, 16, 17, 18, 20, 21, 22, 23, 24, 25, 26, 27, 4035, 4036, 5036, 6036, 7036, 8036, 9019, 17002]) hF32 rfl)) rfl _ _ _) (sg_F_m (L := [3, 4, 5, 6, 7, 8, 9, 10, 11, 12, 13, 14, 15, 16, 17, 18, 20, 21, 22, 23, 24, 25, 26, 27, 4035, 4036, 5036, 6036, 7036, 8036, 9019, 17002]) hF38 rfl)), Or.inr ⟨((by simp only [pMean, h5, ↓reduceIte, Int.reduceEq, reduceCtorEq, or_true, true_or, or_false, false_or, and_true, true_and, and_false, false_and, not_true_eq_false, not_false_eq_true, decide_eq_true_eq, or_self, and_self, ite_self, Int.reduceLE])), hj39⟩⟩
-- NestedVectors$Parser.parameters
set_option maxRecDepth 8000 in
theorem pj_prm (z : Value) (σ : sg_S) (a1 : Int) (hj : jm σ) : wx z 2 182 0 [(0, .inr (.inr (.ref 35))), (1, .inl (a1))] [] σ (fun v σ' => v = none ∧ sg_F [4035, 5036] σ σ' ∧ jm σ') := by
  refine wk_b tt_182 4 (pc' := 9) (ls' := [(0, .inr (.inr (.ref 35))), (1, .inl (a1))]) (st' := [.inl (41), .inl ((sg_g σ 36 4))]) (σ' := σ) rfl ?_
  rw [show (sg_g σ 36 4) = 260 from by rw [hj.1]]
  refine wk_if2 tt_182 (tgt := 16) rfl rfl (by decide) (by decide) (fun (h : 260 = 41) => absurd h (by decide)) (fun _ => ?_)
  refine wk_b tt_182 5 (pc' := 20) (ls' := [(3, .inl (0)), (2, .inl (1)), (0, .inr (.inr (.ref 35))), (1, .inl (a1))]) (st' := []) (σ' := σ) rfl ?_
  refine wk_b tt_182 2 (pc' := 23) (ls' := [(3, .inl (0)), (2, .inl (1)), (0, .inr (.inr (.ref 35))), (1, .inl (a1))]) (st' := [.inl (6), .inl (0)]) (σ' := σ) rfl ?_
  refine wk_if2 tt_182 (tgt := 144) rfl rfl (by decide) (by decide) (fun (h : 6 < 0) => absurd h (by decide)) (fun _ => ?_)
  refine wk_b tt_182 1 (pc' := 27) (ls' := [(3, .inl (0)), (2, .inl (1)), (0, .inr (.inr (.ref 35))), (1, .inl (a1))]) (st' := [.inl (1)]) (σ' := σ) rfl ?_
  refine wk_if tt_182 (tgt := 144) rfl rfl (by decide) (fun (h : 1 = 0) => absurd h (by decide)) (fun _ => ?_)
  refine wk_b tt_182 4 (pc' := 40) (ls' := [(3, .inl (0)), (2, .inl (1)), (0, .inr (.inr (.ref 35))), (1, .inl (a1))]) (st' := [.inl (258), .inl ((sg_g σ 36 4))]) (σ' := σ) rfl ?_
  rw [show (sg_g σ 36 4) = 260 from by rw [hj.1]]
  refine wk_if2 tt_182 (tgt := 49) rfl rfl (by decide) (by decide) (fun _ => ?_) (fun (h : 260 = 258) => absurd h (by decide))
  refine wk_b tt_182 1 (pc' := 50) (ls' := [(3, .inl (0)), (2, .inl (1)), (0, .inr (.inr (.ref 35))), (1, .inl (a1))]) (st' := [.inr (.inr (.ref 35))]) (σ' := σ) rfl ?_
  refine wk_call tt_182 rfl rfl rfl rfl rfl tt_175 rfl (by decide) (px_failJ z σ hj) (fun w5 σ6 hq7 => ?_)
  obtain ⟨rfl, hF8, hj9⟩ := hq7
  refine wk_rV tt_182 rfl rfl ?_
  exact ⟨rfl, (sg_F_t (sg_F_r [4035, 5036] σ) (sg_F_m (L := [4035, 5036]) hF8 rfl)), hj9⟩
-- NestedVectors$Parser.meaning
set_option maxRecDepth 8000 in
theorem pj_mea (z : Value) (σ : sg_S) (a1 : Int) (hj : jm σ) : wx z 9 181 0 [(0, .inr (.inr (.ref 35))), (1, .inl (a1))] [] σ (fun v σ' => v = none ∧ sg_F [22, 4035, 5036] σ σ' ∧ jm σ') := by
  refine wk_b tt_181 2 (pc' := 3) (ls' := [(0, .inr (.inr (.ref 35))), (1, .inl (a1))]) (st' := [.inl (61), .inr (.inr (.ref 35))]) (σ' := σ) rfl ?_
  refine wk_call tt_181 rfl rfl rfl rfl rfl tt_173 rfl (by decide) (pj_exp z σ (61) hj (by omega)) (fun w1 σ2 hq3 => ?_)
  obtain ⟨rfl, hF4, hj5⟩ := hq3
  refine wk_b tt_181 6 (pc' := 16) (ls' := [(0, .inr (.inr (.ref 35))), (1, .inl (a1))]) (st' := [.inl (0), .inr (.inr (.ref 35)), .inl (a1), .inr (.inr (.ref 22))]) (σ' := σ2) rfl ?_
  refine wk_call tt_181 rfl rfl rfl rfl rfl tt_174 rfl (by decide) (pj_expression z σ2 (0) hj5) (fun w6 σ7 hq8 => ?_)
  obtain ⟨q11, rfl, hF9, hj10⟩ := hq8
  refine wk_callp (v0 := none) (σ1 := (sx_put σ7 22 12 (sg_n (a1)) (q11))) tt_181 rfl rfl rfl rfl rfl tt_21 rfl (by decide) (pt_i z σ7 22 12 (a1) (q11) rfl (by decide)) ?_
  refine wk_b tt_181 2 (pc' := 25) (ls' := [(0, .inr (.inr (.ref 35))), (1, .inl (a1))]) (st' := [.inl (59), .inr (.inr (.ref 35))]) (σ' := (sx_put σ7 22 12 (sg_n (a1)) (q11))) rfl ?_
  refine wk_call tt_181 rfl rfl rfl rfl rfl tt_173 rfl (by decide) (pj_exp z (sx_put σ7 22 12 (sg_n (a1)) (q11)) (59) (jm_ag hj10 (ag_xp (ag_r _ _) rfl _ _ _)) (by omega)) (fun w12 σ13 hq14 => ?_)
  obtain ⟨rfl, hF15, hj16⟩ := hq14
  refine wk_rV tt_181 rfl rfl ?_
  exact ⟨rfl, (sg_F_t (sg_F_p (sg_F_t (sg_F_t (sg_F_r [22, 4035, 5036] σ) (sg_F_m (L := [22, 4035, 5036]) hF4 rfl)) (sg_F_m (L := [22, 4035, 5036]) hF9 rfl)) rfl _ _ _) (sg_F_m (L := [22, 4035, 5036]) hF15 rfl)), hj16⟩
/-! Rows for conditions by program (vc.py): longs compared, ranges. -/
theorem sg_Rgl2 {x : Int} (h : sg_R x) : sg_RL x := ⟨by have := h.1; omega, by have := h.2; omega⟩
theorem sg_Rz {x : Int} (h : x = 0 ∨ x = 1) : sg_R x := by rcases h with h | h <;> subst h <;> decide
section VCR
variable {E : am_E} {T : List am_M} {Sh : List sg_Sh} {d j pc : Nat} {ls : bm_L} {st : List bm_V} {σ : sg_S} {Q : Option bm_V → sg_S → Prop} {M : am_M}
theorem wk_lcif {x y : Int} {c : ClassFile.Cond} {off num num1 : Int} {lk lk1 : am_K} {tgt : Nat} (hM : T[j]? = some M) (hq : am_find M.2.2.2.2 pc = some (pc, .lcmp, num, lk)) (hq1 : am_find M.2.2.2.2 (pc + 1) = some (pc + 1, .ifCond c off, num1, lk1)) (ht : ((pc + 1 : Nat) : Int) + off = (tgt : Int)) (hx : sg_RL x) (hy : sg_RL y) (k1 : sg_c c x y → wk E T Sh d j tgt ls st σ Q) (k2 : sg_nc c x y → wk E T Sh d j (pc + 4) ls st σ Q) : wk E T Sh d j pc ls (.inr (.inl y) :: .inr (.inl x) :: st) σ Q := by
  obtain ⟨h1, h2, h3, h4⟩ := bm_lc3 hx hy
  refine wk_b hM 1 (pc' := pc + 1) (ls' := ls) (st' := .inl (bm_lc x y) :: st) (σ' := σ) ?_ ?_
  · simp only [bm_run, hq, bm_step, bm_c2]
  refine wk_if hM hq1 ht ⟨by omega, by omega⟩ (fun h => k1 ?_) (fun h => k2 ?_)
  · cases c <;> simp only [sg_c] at h ⊢ <;> first | exact h1.mp h | exact fun q => h (h1.mpr q) | exact h2.mp h | omega
  · cases c <;> simp only [sg_nc] at h ⊢ <;> first | exact h1.mp h | exact fun q => h (h1.mpr q) | exact h2.mp h | omega
end VCR
theorem sw_st {x k : Int} (h : k ≤ x) (e : ¬ x = k) : k + 1 ≤ x := by omega
theorem sw_lo (x k : Int) : x < k ∨ k ≤ x := by omega
