-- NestedVectors$Parser.unary
set_option maxRecDepth 8000 in
theorem px_una (c : tkC) (hc : tkOK c) (d : Nat) (a1 : Int) (hn : 0 ≤ a1 ∧ a1 ≤ 12) (w : Bool) (hw : w = decide (a1 < 12)) (U I : pF) (hU : a1 < 12 → cE c d 189 (a1 + 1) (fun _ => True) U) (hI : cE c d 178 a1 (fun _ => True) I) : cE c (d + 6) 189 a1 (fun _ => True) (pUn c w U I) := by
  intro z σ i τ ht hk hp
  refine wk_b tt_189 4 (pc' := 9) (ls' := [(0, .inr (.inr (.ref 35))), (1, .inl (a1))]) (st' := [.inl (35), .inl ((sg_g σ 36 4))]) (σ' := σ) rfl ?_
  have r1 := tK_r hc (i)
  rw [show (sg_g σ 36 4) = (tK c (i)) from by rw [hk.2.2.2.2.1]]
  refine wk_if2 tt_189 (tgt := 20) rfl rfl (by omega) (by decide) (fun (h2 : ¬ (tK c (i)) = 35) => ?_) (fun (h2 : (tK c (i)) = 35) => ?_)
  ·
    refine wk_b tt_189 2 (pc' := 22) (ls' := [(0, .inr (.inr (.ref 35))), (1, .inl (a1))]) (st' := [.inl (a1), .inr (.inr (.ref 35))]) (σ' := σ) rfl ?_
    refine wk_call tt_189 rfl rfl rfl rfl rfl tt_178 rfl (by omega) (hI z σ (i) τ ht hk trivial) (fun w3 σ4 hq5 => ?_)
    obtain ⟨q12, rfl, hF6, hq5⟩ := hq5
    rcases hq5 with ⟨i7, τ8, he9, rq13, ht10, hk11⟩ | ⟨he9, hk11⟩
    ·
      refine wk_rI tt_189 rfl rfl ?_
      exact ⟨_, rfl, (sg_F_t (sg_F_r [3, 4, 5, 6, 7, 8, 9, 10, 11, 12, 13, 14, 15, 16, 17, 18, 4035, 4036, 5036, 6036, 7036, 8036, 17002] σ) (sg_F_m (L := [3, 4, 5, 6, 7, 8, 9, 10, 11, 12, 13, 14, 15, 16, 17, 18, 4035, 4036, 5036, 6036, 7036, 8036, 17002]) hF6 rfl)), Or.inl ⟨_, _, ((by simp only [pUn, h2, he9, ↓reduceIte, Int.reduceEq, reduceCtorEq, or_true, true_or, or_false, false_or, and_true, true_and, and_false, false_and, not_true_eq_false, not_false_eq_true, decide_eq_true_eq, or_self, and_self, ite_self, Int.reduceLE])), (by first | omega | exact sg_Rg _ _ _ | decide), ht10, hk11⟩⟩
    ·
      refine wk_rI tt_189 rfl rfl ?_
      exact ⟨_, rfl, (sg_F_t (sg_F_r [3, 4, 5, 6, 7, 8, 9, 10, 11, 12, 13, 14, 15, 16, 17, 18, 4035, 4036, 5036, 6036, 7036, 8036, 17002] σ) (sg_F_m (L := [3, 4, 5, 6, 7, 8, 9, 10, 11, 12, 13, 14, 15, 16, 17, 18, 4035, 4036, 5036, 6036, 7036, 8036, 17002]) hF6 rfl)), Or.inr ⟨((by simp only [pUn, h2, he9, ↓reduceIte, Int.reduceEq, reduceCtorEq, or_true, true_or, or_false, false_or, and_true, true_and, and_false, false_and, not_true_eq_false, not_false_eq_true, decide_eq_true_eq, or_self, and_self, ite_self, Int.reduceLE])), hk11⟩⟩
  ·
    refine wk_b tt_189 2 (pc' := 14) (ls' := [(0, .inr (.inr (.ref 35))), (1, .inl (a1))]) (st' := [.inl (a1), .inr (.inr (.ref 35))]) (σ' := σ) rfl ?_
    refine wk_call tt_189 rfl rfl rfl rfl rfl tt_190 rfl (by omega) (px_wth z σ (a1) c hc (i) hk hn) (fun w14 σ15 hq16 => ?_)
    rcases hq16 with ⟨rfl, hw19_e, hw19⟩ | ⟨rfl, hF17, hj18, hw19⟩
    ·
      rw [hw19_e]
      have hw19_w : w = true := by rw [hw]; exact decide_eq_true hw19
      refine wk_if tt_189 (tgt := 26) rfl rfl (by decide) (fun _ => ?_) (fun (h : 1 = 0) => absurd h (by decide))
      refine wk_b tt_189 1 (pc' := 27) (ls' := [(0, .inr (.inr (.ref 35))), (1, .inl (a1))]) (st' := [.inr (.inr (.ref 35))]) (σ' := σ) rfl ?_
      refine wk_call tt_189 rfl rfl rfl rfl rfl tt_171 rfl (by omega) (px_crt z σ c hc (i) τ ht hk (by omega)) (fun w21 σ22 hq23 => ?_)
      obtain ⟨q30, rfl, hF24, hq23⟩ := hq23
      rcases hq23 with ⟨i25, τ26, he27, rq31, ht28, hk29⟩ | ⟨he27, hk29⟩
      ·
        refine wk_b tt_189 8 (pc' := 40) (ls' := [(2, .inl (q30)), (0, .inr (.inr (.ref 35))), (1, .inl (a1))]) (st' := [.inl ((a1 + 1)), .inr (.inr (.ref 35)), .inl (q30), .inr (.inr (.ref 2))]) (σ' := σ22) rfl ?_
        refine wk_call tt_189 rfl rfl rfl rfl rfl tt_189 rfl (by omega) (hU (by omega) z σ22 (i25) τ26 ht28 hk29 trivial) (fun w32 σ33 hq34 => ?_)
        obtain ⟨q41, rfl, hF35, hq34⟩ := hq34
        rcases hq34 with ⟨i36, τ37, he38, rq42, ht39, hk40⟩ | ⟨he38, hk40⟩
        ·
          refine wk_call tt_189 rfl rfl rfl rfl rfl tt_205 rfl (by omega) (px_att z σ33 (q30) (q41) τ37 ht39 (by first | omega | exact sg_Rg _ _ _) (by first | omega | exact sg_Rg _ _ _)) (fun w43 σ44 hq45 => ?_)
          obtain ⟨rfl, hF46, ht47⟩ := hq45
          refine wk_b tt_189 4 (pc' := 52) (ls' := [(2, .inl (q30)), (0, .inr (.inr (.ref 35))), (1, .inl (a1))]) (st' := [.inl (q30), .inl (q30), .inr (.inr (.ref 2))]) (σ' := σ44) rfl ?_
          refine wk_call tt_189 rfl rfl rfl rfl rfl tt_206 rfl (by omega) (px_cls z σ44 (q30) (q30) (pAttach τ37 (q30) (q41)) ht47 (by first | omega | exact sg_Rg _ _ _) (by first | omega | exact sg_Rg _ _ _)) (fun w48 σ49 hq50 => ?_)
          obtain ⟨rfl, hF51, ht52⟩ := hq50
          refine wk_b tt_189 1 (pc' := 56) (ls' := [(2, .inl (q30)), (0, .inr (.inr (.ref 35))), (1, .inl (a1))]) (st' := [.inl (q30)]) (σ' := σ49) rfl ?_
          refine wk_rI tt_189 rfl rfl ?_
          exact ⟨_, rfl, (sg_F_t (sg_F_t (sg_F_t (sg_F_t (sg_F_r [3, 4, 5, 6, 7, 8, 9, 10, 11, 12, 13, 14, 15, 16, 17, 18, 4035, 4036, 5036, 6036, 7036, 8036, 17002] σ) (sg_F_m (L := [3, 4, 5, 6, 7, 8, 9, 10, 11, 12, 13, 14, 15, 16, 17, 18, 4035, 4036, 5036, 6036, 7036, 8036, 17002]) hF24 rfl)) (sg_F_m (L := [3, 4, 5, 6, 7, 8, 9, 10, 11, 12, 13, 14, 15, 16, 17, 18, 4035, 4036, 5036, 6036, 7036, 8036, 17002]) hF35 rfl)) (sg_F_m (L := [3, 4, 5, 6, 7, 8, 9, 10, 11, 12, 13, 14, 15, 16, 17, 18, 4035, 4036, 5036, 6036, 7036, 8036, 17002]) hF46 rfl)) (sg_F_m (L := [3, 4, 5, 6, 7, 8, 9, 10, 11, 12, 13, 14, 15, 16, 17, 18, 4035, 4036, 5036, 6036, 7036, 8036, 17002]) hF51 rfl)), Or.inl ⟨_, _, ((by simp only [pUn, h2, hw19_w, he27, he38, ↓reduceIte, Int.reduceEq, reduceCtorEq, or_true, true_or, or_false, false_or, and_true, true_and, and_false, false_and, not_true_eq_false, not_false_eq_true, decide_eq_true_eq, or_self, and_self, ite_self, Int.reduceLE])), (by first | omega | exact sg_Rg _ _ _ | decide), ht52, (tk_ag hk40 (ag_t (tkq_F hF51 rfl) (ag_t (tkq_F hF46 rfl) (ag_r _ _))))⟩⟩
        ·
          refine wk_call tt_189 rfl rfl rfl rfl rfl tt_205 rfl (by omega) (bp_1 z σ33 (q30) (q41)) (fun w53 σ54 hq55 => ?_)
          obtain ⟨rfl, hF56⟩ := hq55
          refine wk_b tt_189 4 (pc' := 52) (ls' := [(2, .inl (q30)), (0, .inr (.inr (.ref 35))), (1, .inl (a1))]) (st' := [.inl (q30), .inl (q30), .inr (.inr (.ref 2))]) (σ' := σ54) rfl ?_
          refine wk_call tt_189 rfl rfl rfl rfl rfl tt_206 rfl (by omega) (bp_2 z σ54 (q30) (q30)) (fun w57 σ58 hq59 => ?_)
          obtain ⟨rfl, hF60⟩ := hq59
          refine wk_b tt_189 1 (pc' := 56) (ls' := [(2, .inl (q30)), (0, .inr (.inr (.ref 35))), (1, .inl (a1))]) (st' := [.inl (q30)]) (σ' := σ58) rfl ?_
          refine wk_rI tt_189 rfl rfl ?_
          exact ⟨_, rfl, (sg_F_t (sg_F_t (sg_F_t (sg_F_t (sg_F_r [3, 4, 5, 6, 7, 8, 9, 10, 11, 12, 13, 14, 15, 16, 17, 18, 4035, 4036, 5036, 6036, 7036, 8036, 17002] σ) (sg_F_m (L := [3, 4, 5, 6, 7, 8, 9, 10, 11, 12, 13, 14, 15, 16, 17, 18, 4035, 4036, 5036, 6036, 7036, 8036, 17002]) hF24 rfl)) (sg_F_m (L := [3, 4, 5, 6, 7, 8, 9, 10, 11, 12, 13, 14, 15, 16, 17, 18, 4035, 4036, 5036, 6036, 7036, 8036, 17002]) hF35 rfl)) (sg_F_m (L := [3, 4, 5, 6, 7, 8, 9, 10, 11, 12, 13, 14, 15, 16, 17, 18, 4035, 4036, 5036, 6036, 7036, 8036, 17002]) hF56 rfl)) (sg_F_m (L := [3, 4, 5, 6, 7, 8, 9, 10, 11, 12, 13, 14, 15, 16, 17, 18, 4035, 4036, 5036, 6036, 7036, 8036, 17002]) hF60 rfl)), Or.inr ⟨((by simp only [pUn, h2, hw19_w, he27, he38, ↓reduceIte, Int.reduceEq, reduceCtorEq, or_true, true_or, or_false, false_or, and_true, true_and, and_false, false_and, not_true_eq_false, not_false_eq_true, decide_eq_true_eq, or_self, and_self, ite_self, Int.reduceLE])), (jm_ag hk40 (ag_t (tkq_F hF60 rfl) (ag_t (tkq_F hF56 rfl) (ag_r _ _))))⟩⟩
      ·
        refine wk_b tt_189 8 (pc' := 40) (ls' := [(2, .inl (q30)), (0, .inr (.inr (.ref 35))), (1, .inl (a1))]) (st' := [.inl ((a1 + 1)), .inr (.inr (.ref 35)), .inl (q30), .inr (.inr (.ref 2))]) (σ' := σ22) rfl ?_
        refine wk_call tt_189 rfl rfl rfl rfl rfl tt_189 rfl (by omega) (pj_unary z σ22 ((a1 + 1)) hk29) (fun w61 σ62 hq63 => ?_)
        obtain ⟨q66, rfl, hF64, hj65⟩ := hq63
        refine wk_call tt_189 rfl rfl rfl rfl rfl tt_205 rfl (by omega) (bp_1 z σ62 (q30) (q66)) (fun w67 σ68 hq69 => ?_)
        obtain ⟨rfl, hF70⟩ := hq69
        refine wk_b tt_189 4 (pc' := 52) (ls' := [(2, .inl (q30)), (0, .inr (.inr (.ref 35))), (1, .inl (a1))]) (st' := [.inl (q30), .inl (q30), .inr (.inr (.ref 2))]) (σ' := σ68) rfl ?_
        refine wk_call tt_189 rfl rfl rfl rfl rfl tt_206 rfl (by omega) (bp_2 z σ68 (q30) (q30)) (fun w71 σ72 hq73 => ?_)
        obtain ⟨rfl, hF74⟩ := hq73
        refine wk_b tt_189 1 (pc' := 56) (ls' := [(2, .inl (q30)), (0, .inr (.inr (.ref 35))), (1, .inl (a1))]) (st' := [.inl (q30)]) (σ' := σ72) rfl ?_
        refine wk_rI tt_189 rfl rfl ?_
        exact ⟨_, rfl, (sg_F_t (sg_F_t (sg_F_t (sg_F_t (sg_F_r [3, 4, 5, 6, 7, 8, 9, 10, 11, 12, 13, 14, 15, 16, 17, 18, 4035, 4036, 5036, 6036, 7036, 8036, 17002] σ) (sg_F_m (L := [3, 4, 5, 6, 7, 8, 9, 10, 11, 12, 13, 14, 15, 16, 17, 18, 4035, 4036, 5036, 6036, 7036, 8036, 17002]) hF24 rfl)) (sg_F_m (L := [3, 4, 5, 6, 7, 8, 9, 10, 11, 12, 13, 14, 15, 16, 17, 18, 4035, 4036, 5036, 6036, 7036, 8036, 17002]) hF64 rfl)) (sg_F_m (L := [3, 4, 5, 6, 7, 8, 9, 10, 11, 12, 13, 14, 15, 16, 17, 18, 4035, 4036, 5036, 6036, 7036, 8036, 17002]) hF70 rfl)) (sg_F_m (L := [3, 4, 5, 6, 7, 8, 9, 10, 11, 12, 13, 14, 15, 16, 17, 18, 4035, 4036, 5036, 6036, 7036, 8036, 17002]) hF74 rfl)), Or.inr ⟨((by simp only [pUn, h2, hw19_w, he27, ↓reduceIte, Int.reduceEq, reduceCtorEq, or_true, true_or, or_false, false_or, and_true, true_and, and_false, false_and, not_true_eq_false, not_false_eq_true, decide_eq_true_eq, or_self, and_self, ite_self, Int.reduceLE])), (jm_ag hj65 (ag_t (tkq_F hF74 rfl) (ag_t (tkq_F hF70 rfl) (ag_r _ _))))⟩⟩
    ·
      have hw19_w : w = false := by rw [hw]; exact decide_eq_false (by omega)
      refine wk_if tt_189 (tgt := 26) rfl rfl (by decide) (fun (h : ¬ 0 = 0) => absurd h (by decide)) (fun _ => ?_)
      refine wk_b tt_189 2 (pc' := 22) (ls' := [(0, .inr (.inr (.ref 35))), (1, .inl (a1))]) (st' := [.inl (a1), .inr (.inr (.ref 35))]) (σ' := σ15) rfl ?_
      refine wk_call tt_189 rfl rfl rfl rfl rfl tt_178 rfl (by omega) (pj_item z σ15 (a1) hj18) (fun w76 σ77 hq78 => ?_)
      obtain ⟨q81, rfl, hF79, hj80⟩ := hq78
      refine wk_rI tt_189 rfl rfl ?_
      exact ⟨_, rfl, (sg_F_t (sg_F_t (sg_F_r [3, 4, 5, 6, 7, 8, 9, 10, 11, 12, 13, 14, 15, 16, 17, 18, 4035, 4036, 5036, 6036, 7036, 8036, 17002] σ) (sg_F_m (L := [3, 4, 5, 6, 7, 8, 9, 10, 11, 12, 13, 14, 15, 16, 17, 18, 4035, 4036, 5036, 6036, 7036, 8036, 17002]) hF17 rfl)) (sg_F_m (L := [3, 4, 5, 6, 7, 8, 9, 10, 11, 12, 13, 14, 15, 16, 17, 18, 4035, 4036, 5036, 6036, 7036, 8036, 17002]) hF79 rfl)), Or.inr ⟨((by simp only [pUn, h2, hw19_w, Bool.false_eq_true, ↓reduceIte, Int.reduceEq, reduceCtorEq, or_true, true_or, or_false, false_or, and_true, true_and, and_false, false_and, not_true_eq_false, not_false_eq_true, decide_eq_true_eq, or_self, and_self, ite_self, Int.reduceLE])), hj80⟩⟩
-- NestedVectors$Parser.item
set_option maxRecDepth 8000 in
theorem px_itm (c : tkC) (hc : tkOK c) (d : Nat) (a1 : Int) (hn : 0 ≤ a1 ∧ a1 ≤ 12) (w : Bool) (hw : w = decide (a1 < 12)) (E : pF) (hE : a1 < 12 → cE c d 174 (a1 + 1) (fun _ => True) E) (A : pF) (hA : cE c d 167 a1 (fun _ => True) A) : cE c (d + 9) 178 a1 (fun _ => True) (pItem c w E A) := by
  intro z σ i τ ht hk hp
  refine wk_b tt_178 2 (pc' := 2) (ls' := [(0, .inr (.inr (.ref 35))), (1, .inl (a1))]) (st' := [.inl (a1), .inr (.inr (.ref 35))]) (σ' := σ) rfl ?_
  refine wk_call tt_178 rfl rfl rfl rfl rfl tt_167 rfl (by omega) (hA z σ (i) τ ht hk trivial) (fun w1 σ2 hq3 => ?_)
  obtain ⟨q10, rfl, hF4, hq3⟩ := hq3
  rcases hq3 with ⟨i5, τ6, he7, rq11, ht8, hk9⟩ | ⟨he7, hk9⟩
  ·
    refine wk_b tt_178 3 (pc' := 8) (ls' := [(3, .inl (0)), (2, .inl (q10)), (0, .inr (.inr (.ref 35))), (1, .inl (a1))]) (st' := []) (σ' := σ2) rfl ?_
    have lp18 : ∀ (m17 : Nat) (σ14 : sg_S) (v12 : Int) (v13 : Int) (i20 : Nat) (τ21 : sg_S), sg_F [3, 4, 5, 6, 7, 8, 9, 10, 11, 12, 13, 14, 15, 16, 17, 18, 4035, 4036, 5036, 6036, 7036, 8036, 17002] σ σ14 → te σ14 τ21 → tk c σ14 i20 → (pItem c w E A i τ = pItL c w E m17 v12 i20 τ21 ∧ sg_R v12 ∧ v13 + m17 = 201 ∧ 0 ≤ v13) → wx z (d + 9) 178 8 [(0, .inr (.inr (.ref 35))), (1, .inl (a1)), (2, .inl (v12)), (3, .inl (v13))] [] σ14 (pq pL0 c (pItem c w E A i τ) σ) := by
      intro m17
      induction m17 with
      | zero =>
        intro σ14 v12 v13 i20 τ21 hF15 ht22 hk23 hI19
        obtain ⟨hI19_e, hI19_b⟩ := hI19
        refine wk_b tt_178 2 (pc' := 12) (ls' := [(0, .inr (.inr (.ref 35))), (1, .inl (a1)), (2, .inl (v12)), (3, .inl (v13))]) (st' := [.inl (200), .inl (v13)]) (σ' := σ14) rfl ?_
        refine wk_if2 tt_178 (tgt := 68) rfl rfl (by omega) (by decide) (fun (h24 : 200 < v13) => ?_) (fun (h : v13 ≤ 200) => absurd h (by omega))
        refine wk_b tt_178 1 (pc' := 69) (ls' := [(0, .inr (.inr (.ref 35))), (1, .inl (a1)), (2, .inl (v12)), (3, .inl (v13))]) (st' := [.inl (v12)]) (σ' := σ14) rfl ?_
        refine wk_rI tt_178 rfl rfl ?_
        exact ⟨_, rfl, hF15, Or.inl ⟨_, _, (hI19_e.trans (by simp only [pItL, ↓reduceIte, Int.reduceEq, reduceCtorEq, or_true, true_or, or_false, false_or, and_true, true_and, and_false, false_and, not_true_eq_false, not_false_eq_true, decide_eq_true_eq, or_self, and_self, ite_self, Int.reduceLE])), (by first | omega | exact sg_Rg _ _ _ | decide), ht22, hk23⟩⟩
      | succ m17 ih16 =>
        intro σ14 v12 v13 i20 τ21 hF15 ht22 hk23 hI19
        obtain ⟨hI19_e, hI19_b⟩ := hI19
        refine wk_b tt_178 2 (pc' := 12) (ls' := [(0, .inr (.inr (.ref 35))), (1, .inl (a1)), (2, .inl (v12)), (3, .inl (v13))]) (st' := [.inl (200), .inl (v13)]) (σ' := σ14) rfl ?_
        refine wk_if2 tt_178 (tgt := 68) rfl rfl (by omega) (by decide) (fun (h : 200 < v13) => absurd h (by omega)) (fun (h25 : v13 ≤ 200) => ?_)
        refine wk_b tt_178 4 (pc' := 24) (ls' := [(0, .inr (.inr (.ref 35))), (1, .inl (a1)), (2, .inl (v12)), (3, .inl (v13))]) (st' := [.inl (91), .inl ((sg_g σ14 36 4))]) (σ' := σ14) rfl ?_
        have r26 := tK_r hc (i20)
        rw [show (sg_g σ14 36 4) = (tK c (i20)) from by rw [hk23.2.2.2.2.1]]
        refine wk_if2 tt_178 (tgt := 68) rfl rfl (by omega) (by decide) (fun (h27 : ¬ (tK c (i20)) = 91) => ?_) (fun (h27 : (tK c (i20)) = 91) => ?_)
        ·
          refine wk_b tt_178 1 (pc' := 69) (ls' := [(0, .inr (.inr (.ref 35))), (1, .inl (a1)), (2, .inl (v12)), (3, .inl (v13))]) (st' := [.inl (v12)]) (σ' := σ14) rfl ?_
          refine wk_rI tt_178 rfl rfl ?_
          exact ⟨_, rfl, hF15, Or.inl ⟨_, _, (hI19_e.trans (by simp only [pItL, h27, ↓reduceIte, Int.reduceEq, reduceCtorEq, or_true, true_or, or_false, false_or, and_true, true_and, and_false, false_and, not_true_eq_false, not_false_eq_true, decide_eq_true_eq, or_self, and_self, ite_self, Int.reduceLE])), (by first | omega | exact sg_Rg _ _ _ | decide), ht22, hk23⟩⟩
        ·
          refine wk_b tt_178 2 (pc' := 29) (ls' := [(0, .inr (.inr (.ref 35))), (1, .inl (a1)), (2, .inl (v12)), (3, .inl (v13))]) (st' := [.inl (a1), .inr (.inr (.ref 35))]) (σ' := σ14) rfl ?_
          refine wk_call tt_178 rfl rfl rfl rfl rfl tt_190 rfl (by omega) (px_wth z σ14 (a1) c hc (i20) hk23 hn) (fun w28 σ29 hq30 => ?_)
          rcases hq30 with ⟨rfl, hw33_e, hw33⟩ | ⟨rfl, hF31, hj32, hw33⟩
          ·
            rw [hw33_e]
            have hw33_w : w = true := by rw [hw]; exact decide_eq_true hw33
            refine wk_if tt_178 (tgt := 68) rfl rfl (by decide) (fun (h : 1 = 0) => absurd h (by decide)) (fun _ => ?_)
            refine wk_b tt_178 1 (pc' := 36) (ls' := [(0, .inr (.inr (.ref 35))), (1, .inl (a1)), (2, .inl (v12)), (3, .inl (v13))]) (st' := [.inr (.inr (.ref 35))]) (σ' := σ14) rfl ?_
            refine wk_call tt_178 rfl rfl rfl rfl rfl tt_171 rfl (by omega) (px_crt z σ14 c hc (i20) τ21 ht22 hk23 (by omega)) (fun w35 σ36 hq37 => ?_)
            obtain ⟨q44, rfl, hF38, hq37⟩ := hq37
            rcases hq37 with ⟨i39, τ40, he41, rq45, ht42, hk43⟩ | ⟨he41, hk43⟩
            ·
              refine wk_b tt_178 8 (pc' := 49) (ls' := [(4, .inl (q44)), (0, .inr (.inr (.ref 35))), (1, .inl (a1)), (2, .inl (v12)), (3, .inl (v13))]) (st' := [.inl ((a1 + 1)), .inr (.inr (.ref 35)), .inl (v12), .inl (q44), .inr (.inr (.ref 35))]) (σ' := σ36) rfl ?_
              refine wk_call tt_178 rfl rfl rfl rfl rfl tt_174 rfl (by omega) (hE (by omega) z σ36 (i39) τ40 ht42 hk43 trivial) (fun w46 σ47 hq48 => ?_)
              obtain ⟨q55, rfl, hF49, hq48⟩ := hq48
              rcases hq48 with ⟨i50, τ51, he52, rq56, ht53, hk54⟩ | ⟨he52, hk54⟩
              ·
                refine wk_call tt_178 rfl rfl rfl rfl rfl tt_168 rfl (by omega) (px_both z σ47 (q44) (v12) (q55) τ51 ht53 (by first | omega | exact sg_Rg _ _ _) (by first | omega | exact sg_Rg _ _ _) (by first | omega | exact sg_Rg _ _ _)) (fun w57 σ58 hq59 => ?_)
                obtain ⟨rfl, hF60, ht61⟩ := hq59
                refine wk_b tt_178 3 (pc' := 59) (ls' := [(2, .inl (q44)), (4, .inl (q44)), (0, .inr (.inr (.ref 35))), (1, .inl (a1)), (3, .inl (v13))]) (st' := [.inl (93), .inr (.inr (.ref 35))]) (σ' := σ58) rfl ?_
                refine wk_call tt_178 rfl rfl rfl rfl rfl tt_173 rfl (by omega) (px_exp z σ58 (93) c hc (i50) (tk_ag hk54 (ag_t (tkq_F hF60 rfl) (ag_r _ _))) (by omega)) (fun w62 σ63 hq64 => ?_)
                obtain ⟨rfl, hF65, hq64⟩ := hq64
                rcases hq64 with ⟨h66, hk67⟩ | ⟨h66, hk67⟩
                ·
                  refine wk_b tt_178 2 (pc' := 8) (ls' := [(3, .inl ((v13 + 1))), (2, .inl (q44)), (4, .inl (q44)), (0, .inr (.inr (.ref 35))), (1, .inl (a1))]) (st' := []) (σ' := σ63) rfl ?_
                  refine wk_ls [(0, .inr (.inr (.ref 35))), (1, .inl (a1)), (2, .inl (q44)), (3, .inl ((v13 + 1)))] rfl ⟨rfl, rfl, rfl, rfl, trivial⟩ (ih16 σ63 (q44) ((v13 + 1)) (i50 + 1) (pBoth τ51 (q44) (v12) (q55)) (sg_F_t (sg_F_t (sg_F_t (sg_F_t hF15 (sg_F_m (L := [3, 4, 5, 6, 7, 8, 9, 10, 11, 12, 13, 14, 15, 16, 17, 18, 4035, 4036, 5036, 6036, 7036, 8036, 17002]) hF38 rfl)) (sg_F_m (L := [3, 4, 5, 6, 7, 8, 9, 10, 11, 12, 13, 14, 15, 16, 17, 18, 4035, 4036, 5036, 6036, 7036, 8036, 17002]) hF49 rfl)) (sg_F_m (L := [3, 4, 5, 6, 7, 8, 9, 10, 11, 12, 13, 14, 15, 16, 17, 18, 4035, 4036, 5036, 6036, 7036, 8036, 17002]) hF60 rfl)) (sg_F_m (L := [3, 4, 5, 6, 7, 8, 9, 10, 11, 12, 13, 14, 15, 16, 17, 18, 4035, 4036, 5036, 6036, 7036, 8036, 17002]) hF65 rfl)) (te_F ht61 hF65 rfl) hk67 ?_)
                  exact ⟨(hI19_e.trans (by simp only [pItL, h27, hw33_w, he41, he52, h66, ↓reduceIte, Int.reduceEq, reduceCtorEq, or_true, true_or, or_false, false_or, and_true, true_and, and_false, false_and, not_true_eq_false, not_false_eq_true, decide_eq_true_eq, or_self, and_self, ite_self, Int.reduceLE])), by omega, by omega, by omega⟩
                ·
                  refine wk_b tt_178 2 (pc' := 8) (ls' := [(3, .inl ((v13 + 1))), (2, .inl (q44)), (4, .inl (q44)), (0, .inr (.inr (.ref 35))), (1, .inl (a1))]) (st' := []) (σ' := σ63) rfl ?_
                  refine wk_b tt_178 2 (pc' := 12) (ls' := [(3, .inl ((v13 + 1))), (2, .inl (q44)), (4, .inl (q44)), (0, .inr (.inr (.ref 35))), (1, .inl (a1))]) (st' := [.inl (200), .inl ((v13 + 1))]) (σ' := σ63) rfl ?_
                  refine wk_if2 tt_178 (tgt := 68) rfl rfl (by omega) (by decide) (fun (h68 : 200 < (v13 + 1)) => ?_) (fun (h68 : (v13 + 1) ≤ 200) => ?_)
                  ·
                    refine wk_b tt_178 1 (pc' := 69) (ls' := [(3, .inl ((v13 + 1))), (2, .inl (q44)), (4, .inl (q44)), (0, .inr (.inr (.ref 35))), (1, .inl (a1))]) (st' := [.inl (q44)]) (σ' := σ63) rfl ?_
                    refine wk_rI tt_178 rfl rfl ?_
                    exact ⟨_, rfl, (sg_F_t (sg_F_t (sg_F_t (sg_F_t hF15 (sg_F_m (L := [3, 4, 5, 6, 7, 8, 9, 10, 11, 12, 13, 14, 15, 16, 17, 18, 4035, 4036, 5036, 6036, 7036, 8036, 17002]) hF38 rfl)) (sg_F_m (L := [3, 4, 5, 6, 7, 8, 9, 10, 11, 12, 13, 14, 15, 16, 17, 18, 4035, 4036, 5036, 6036, 7036, 8036, 17002]) hF49 rfl)) (sg_F_m (L := [3, 4, 5, 6, 7, 8, 9, 10, 11, 12, 13, 14, 15, 16, 17, 18, 4035, 4036, 5036, 6036, 7036, 8036, 17002]) hF60 rfl)) (sg_F_m (L := [3, 4, 5, 6, 7, 8, 9, 10, 11, 12, 13, 14, 15, 16, 17, 18, 4035, 4036, 5036, 6036, 7036, 8036, 17002]) hF65 rfl)), Or.inr ⟨(hI19_e.trans (by simp only [pItL, h27, hw33_w, he41, he52, h66, ↓reduceIte, Int.reduceEq, reduceCtorEq, or_true, true_or, or_false, false_or, and_true, true_and, and_false, false_and, not_true_eq_false, not_false_eq_true, decide_eq_true_eq, or_self, and_self, ite_self, Int.reduceLE])), hk67⟩⟩
                  ·
                    refine wk_b tt_178 4 (pc' := 24) (ls' := [(3, .inl ((v13 + 1))), (2, .inl (q44)), (4, .inl (q44)), (0, .inr (.inr (.ref 35))), (1, .inl (a1))]) (st' := [.inl (91), .inl ((sg_g σ63 36 4))]) (σ' := σ63) rfl ?_
                    rw [show (sg_g σ63 36 4) = 260 from by rw [hk67.1]]
                    refine wk_if2 tt_178 (tgt := 68) rfl rfl (by decide) (by decide) (fun _ => ?_) (fun (h : 260 = 91) => absurd h (by decide))
                    refine wk_b tt_178 1 (pc' := 69) (ls' := [(3, .inl ((v13 + 1))), (2, .inl (q44)), (4, .inl (q44)), (0, .inr (.inr (.ref 35))), (1, .inl (a1))]) (st' := [.inl (q44)]) (σ' := σ63) rfl ?_
                    refine wk_rI tt_178 rfl rfl ?_
                    exact ⟨_, rfl, (sg_F_t (sg_F_t (sg_F_t (sg_F_t hF15 (sg_F_m (L := [3, 4, 5, 6, 7, 8, 9, 10, 11, 12, 13, 14, 15, 16, 17, 18, 4035, 4036, 5036, 6036, 7036, 8036, 17002]) hF38 rfl)) (sg_F_m (L := [3, 4, 5, 6, 7, 8, 9, 10, 11, 12, 13, 14, 15, 16, 17, 18, 4035, 4036, 5036, 6036, 7036, 8036, 17002]) hF49 rfl)) (sg_F_m (L := [3, 4, 5, 6, 7, 8, 9, 10, 11, 12, 13, 14, 15, 16, 17, 18, 4035, 4036, 5036, 6036, 7036, 8036, 17002]) hF60 rfl)) (sg_F_m (L := [3, 4, 5, 6, 7, 8, 9, 10, 11, 12, 13, 14, 15, 16, 17, 18, 4035, 4036, 5036, 6036, 7036, 8036, 17002]) hF65 rfl)), Or.inr ⟨(hI19_e.trans (by simp only [pItL, h27, hw33_w, he41, he52, h66, ↓reduceIte, Int.reduceEq, reduceCtorEq, or_true, true_or, or_false, false_or, and_true, true_and, and_false, false_and, not_true_eq_false, not_false_eq_true, decide_eq_true_eq, or_self, and_self, ite_self, Int.reduceLE])), hk67⟩⟩
              ·
                refine wk_call tt_178 rfl rfl rfl rfl rfl tt_168 rfl (by omega) (bp_3 z σ47 (q44) (v12) (q55)) (fun w70 σ71 hq72 => ?_)
                obtain ⟨⟨q74, rfl⟩, hF73⟩ := hq72
                refine wk_b tt_178 3 (pc' := 59) (ls' := [(2, .inl (q74)), (4, .inl (q44)), (0, .inr (.inr (.ref 35))), (1, .inl (a1)), (3, .inl (v13))]) (st' := [.inl (93), .inr (.inr (.ref 35))]) (σ' := σ71) rfl ?_
                refine wk_call tt_178 rfl rfl rfl rfl rfl tt_173 rfl (by omega) (pj_exp z σ71 (93) (jm_ag hk54 (ag_t (tkq_F hF73 rfl) (ag_r _ _))) (by omega)) (fun w75 σ76 hq77 => ?_)
                obtain ⟨rfl, hF78, hj79⟩ := hq77
                refine wk_b tt_178 2 (pc' := 8) (ls' := [(3, .inl ((v13 + 1))), (2, .inl (q74)), (4, .inl (q44)), (0, .inr (.inr (.ref 35))), (1, .inl (a1))]) (st' := []) (σ' := σ76) rfl ?_
                refine wk_b tt_178 2 (pc' := 12) (ls' := [(3, .inl ((v13 + 1))), (2, .inl (q74)), (4, .inl (q44)), (0, .inr (.inr (.ref 35))), (1, .inl (a1))]) (st' := [.inl (200), .inl ((v13 + 1))]) (σ' := σ76) rfl ?_
                refine wk_if2 tt_178 (tgt := 68) rfl rfl (by omega) (by decide) (fun (h80 : 200 < (v13 + 1)) => ?_) (fun (h80 : (v13 + 1) ≤ 200) => ?_)
                ·
                  refine wk_b tt_178 1 (pc' := 69) (ls' := [(3, .inl ((v13 + 1))), (2, .inl (q74)), (4, .inl (q44)), (0, .inr (.inr (.ref 35))), (1, .inl (a1))]) (st' := [.inl (q74)]) (σ' := σ76) rfl ?_
                  refine wk_rI tt_178 rfl rfl ?_
                  exact ⟨_, rfl, (sg_F_t (sg_F_t (sg_F_t (sg_F_t hF15 (sg_F_m (L := [3, 4, 5, 6, 7, 8, 9, 10, 11, 12, 13, 14, 15, 16, 17, 18, 4035, 4036, 5036, 6036, 7036, 8036, 17002]) hF38 rfl)) (sg_F_m (L := [3, 4, 5, 6, 7, 8, 9, 10, 11, 12, 13, 14, 15, 16, 17, 18, 4035, 4036, 5036, 6036, 7036, 8036, 17002]) hF49 rfl)) (sg_F_m (L := [3, 4, 5, 6, 7, 8, 9, 10, 11, 12, 13, 14, 15, 16, 17, 18, 4035, 4036, 5036, 6036, 7036, 8036, 17002]) hF73 rfl)) (sg_F_m (L := [3, 4, 5, 6, 7, 8, 9, 10, 11, 12, 13, 14, 15, 16, 17, 18, 4035, 4036, 5036, 6036, 7036, 8036, 17002]) hF78 rfl)), Or.inr ⟨(hI19_e.trans (by simp only [pItL, h27, hw33_w, he41, he52, ↓reduceIte, Int.reduceEq, reduceCtorEq, or_true, true_or, or_false, false_or, and_true, true_and, and_false, false_and, not_true_eq_false, not_false_eq_true, decide_eq_true_eq, or_self, and_self, ite_self, Int.reduceLE])), hj79⟩⟩
                ·
                  refine wk_b tt_178 4 (pc' := 24) (ls' := [(3, .inl ((v13 + 1))), (2, .inl (q74)), (4, .inl (q44)), (0, .inr (.inr (.ref 35))), (1, .inl (a1))]) (st' := [.inl (91), .inl ((sg_g σ76 36 4))]) (σ' := σ76) rfl ?_
                  rw [show (sg_g σ76 36 4) = 260 from by rw [hj79.1]]
                  refine wk_if2 tt_178 (tgt := 68) rfl rfl (by decide) (by decide) (fun _ => ?_) (fun (h : 260 = 91) => absurd h (by decide))
                  refine wk_b tt_178 1 (pc' := 69) (ls' := [(3, .inl ((v13 + 1))), (2, .inl (q74)), (4, .inl (q44)), (0, .inr (.inr (.ref 35))), (1, .inl (a1))]) (st' := [.inl (q74)]) (σ' := σ76) rfl ?_
                  refine wk_rI tt_178 rfl rfl ?_
                  exact ⟨_, rfl, (sg_F_t (sg_F_t (sg_F_t (sg_F_t hF15 (sg_F_m (L := [3, 4, 5, 6, 7, 8, 9, 10, 11, 12, 13, 14, 15, 16, 17, 18, 4035, 4036, 5036, 6036, 7036, 8036, 17002]) hF38 rfl)) (sg_F_m (L := [3, 4, 5, 6, 7, 8, 9, 10, 11, 12, 13, 14, 15, 16, 17, 18, 4035, 4036, 5036, 6036, 7036, 8036, 17002]) hF49 rfl)) (sg_F_m (L := [3, 4, 5, 6, 7, 8, 9, 10, 11, 12, 13, 14, 15, 16, 17, 18, 4035, 4036, 5036, 6036, 7036, 8036, 17002]) hF73 rfl)) (sg_F_m (L := [3, 4, 5, 6, 7, 8, 9, 10, 11, 12, 13, 14, 15, 16, 17, 18, 4035, 4036, 5036, 6036, 7036, 8036, 17002]) hF78 rfl)), Or.inr ⟨(hI19_e.trans (by simp only [pItL, h27, hw33_w, he41, he52, ↓reduceIte, Int.reduceEq, reduceCtorEq, or_true, true_or, or_false, false_or, and_true, true_and, and_false, false_and, not_true_eq_false, not_false_eq_true, decide_eq_true_eq, or_self, and_self, ite_self, Int.reduceLE])), hj79⟩⟩
            ·
              refine wk_b tt_178 8 (pc' := 49) (ls' := [(4, .inl (q44)), (0, .inr (.inr (.ref 35))), (1, .inl (a1)), (2, .inl (v12)), (3, .inl (v13))]) (st' := [.inl ((a1 + 1)), .inr (.inr (.ref 35)), .inl (v12), .inl (q44), .inr (.inr (.ref 35))]) (σ' := σ36) rfl ?_
              refine wk_call tt_178 rfl rfl rfl rfl rfl tt_174 rfl (by omega) (pj_expression z σ36 ((a1 + 1)) hk43) (fun w82 σ83 hq84 => ?_)
              obtain ⟨q87, rfl, hF85, hj86⟩ := hq84
              refine wk_call tt_178 rfl rfl rfl rfl rfl tt_168 rfl (by omega) (bp_3 z σ83 (q44) (v12) (q87)) (fun w88 σ89 hq90 => ?_)
              obtain ⟨⟨q92, rfl⟩, hF91⟩ := hq90
              refine wk_b tt_178 3 (pc' := 59) (ls' := [(2, .inl (q92)), (4, .inl (q44)), (0, .inr (.inr (.ref 35))), (1, .inl (a1)), (3, .inl (v13))]) (st' := [.inl (93), .inr (.inr (.ref 35))]) (σ' := σ89) rfl ?_
              refine wk_call tt_178 rfl rfl rfl rfl rfl tt_173 rfl (by omega) (pj_exp z σ89 (93) (jm_ag hj86 (ag_t (tkq_F hF91 rfl) (ag_r _ _))) (by omega)) (fun w93 σ94 hq95 => ?_)
              obtain ⟨rfl, hF96, hj97⟩ := hq95
              refine wk_b tt_178 2 (pc' := 8) (ls' := [(3, .inl ((v13 + 1))), (2, .inl (q92)), (4, .inl (q44)), (0, .inr (.inr (.ref 35))), (1, .inl (a1))]) (st' := []) (σ' := σ94) rfl ?_
              refine wk_b tt_178 2 (pc' := 12) (ls' := [(3, .inl ((v13 + 1))), (2, .inl (q92)), (4, .inl (q44)), (0, .inr (.inr (.ref 35))), (1, .inl (a1))]) (st' := [.inl (200), .inl ((v13 + 1))]) (σ' := σ94) rfl ?_
              refine wk_if2 tt_178 (tgt := 68) rfl rfl (by omega) (by decide) (fun (h98 : 200 < (v13 + 1)) => ?_) (fun (h98 : (v13 + 1) ≤ 200) => ?_)
              ·
                refine wk_b tt_178 1 (pc' := 69) (ls' := [(3, .inl ((v13 + 1))), (2, .inl (q92)), (4, .inl (q44)), (0, .inr (.inr (.ref 35))), (1, .inl (a1))]) (st' := [.inl (q92)]) (σ' := σ94) rfl ?_
                refine wk_rI tt_178 rfl rfl ?_
                exact ⟨_, rfl, (sg_F_t (sg_F_t (sg_F_t (sg_F_t hF15 (sg_F_m (L := [3, 4, 5, 6, 7, 8, 9, 10, 11, 12, 13, 14, 15, 16, 17, 18, 4035, 4036, 5036, 6036, 7036, 8036, 17002]) hF38 rfl)) (sg_F_m (L := [3, 4, 5, 6, 7, 8, 9, 10, 11, 12, 13, 14, 15, 16, 17, 18, 4035, 4036, 5036, 6036, 7036, 8036, 17002]) hF85 rfl)) (sg_F_m (L := [3, 4, 5, 6, 7, 8, 9, 10, 11, 12, 13, 14, 15, 16, 17, 18, 4035, 4036, 5036, 6036, 7036, 8036, 17002]) hF91 rfl)) (sg_F_m (L := [3, 4, 5, 6, 7, 8, 9, 10, 11, 12, 13, 14, 15, 16, 17, 18, 4035, 4036, 5036, 6036, 7036, 8036, 17002]) hF96 rfl)), Or.inr ⟨(hI19_e.trans (by simp only [pItL, h27, hw33_w, he41, ↓reduceIte, Int.reduceEq, reduceCtorEq, or_true, true_or, or_false, false_or, and_true, true_and, and_false, false_and, not_true_eq_false, not_false_eq_true, decide_eq_true_eq, or_self, and_self, ite_self, Int.reduceLE])), hj97⟩⟩
              ·
                refine wk_b tt_178 4 (pc' := 24) (ls' := [(3, .inl ((v13 + 1))), (2, .inl (q92)), (4, .inl (q44)), (0, .inr (.inr (.ref 35))), (1, .inl (a1))]) (st' := [.inl (91), .inl ((sg_g σ94 36 4))]) (σ' := σ94) rfl ?_
                rw [show (sg_g σ94 36 4) = 260 from by rw [hj97.1]]
                refine wk_if2 tt_178 (tgt := 68) rfl rfl (by decide) (by decide) (fun _ => ?_) (fun (h : 260 = 91) => absurd h (by decide))
                refine wk_b tt_178 1 (pc' := 69) (ls' := [(3, .inl ((v13 + 1))), (2, .inl (q92)), (4, .inl (q44)), (0, .inr (.inr (.ref 35))), (1, .inl (a1))]) (st' := [.inl (q92)]) (σ' := σ94) rfl ?_
                refine wk_rI tt_178 rfl rfl ?_
                exact ⟨_, rfl, (sg_F_t (sg_F_t (sg_F_t (sg_F_t hF15 (sg_F_m (L := [3, 4, 5, 6, 7, 8, 9, 10, 11, 12, 13, 14, 15, 16, 17, 18, 4035, 4036, 5036, 6036, 7036, 8036, 17002]) hF38 rfl)) (sg_F_m (L := [3, 4, 5, 6, 7, 8, 9, 10, 11, 12, 13, 14, 15, 16, 17, 18, 4035, 4036, 5036, 6036, 7036, 8036, 17002]) hF85 rfl)) (sg_F_m (L := [3, 4, 5, 6, 7, 8, 9, 10, 11, 12, 13, 14, 15, 16, 17, 18, 4035, 4036, 5036, 6036, 7036, 8036, 17002]) hF91 rfl)) (sg_F_m (L := [3, 4, 5, 6, 7, 8, 9, 10, 11, 12, 13, 14, 15, 16, 17, 18, 4035, 4036, 5036, 6036, 7036, 8036, 17002]) hF96 rfl)), Or.inr ⟨(hI19_e.trans (by simp only [pItL, h27, hw33_w, he41, ↓reduceIte, Int.reduceEq, reduceCtorEq, or_true, true_or, or_false, false_or, and_true, true_and, and_false, false_and, not_true_eq_false, not_false_eq_true, decide_eq_true_eq, or_self, and_self, ite_self, Int.reduceLE])), hj97⟩⟩
          ·
            have hw33_w : w = false := by rw [hw]; exact decide_eq_false (by omega)
            refine wk_if tt_178 (tgt := 68) rfl rfl (by decide) (fun _ => ?_) (fun (h : ¬ 0 = 0) => absurd h (by decide))
            refine wk_b tt_178 1 (pc' := 69) (ls' := [(0, .inr (.inr (.ref 35))), (1, .inl (a1)), (2, .inl (v12)), (3, .inl (v13))]) (st' := [.inl (v12)]) (σ' := σ29) rfl ?_
            refine wk_rI tt_178 rfl rfl ?_
            exact ⟨_, rfl, (sg_F_t hF15 (sg_F_m (L := [3, 4, 5, 6, 7, 8, 9, 10, 11, 12, 13, 14, 15, 16, 17, 18, 4035, 4036, 5036, 6036, 7036, 8036, 17002]) hF31 rfl)), Or.inr ⟨(hI19_e.trans (by simp only [pItL, h27, hw33_w, Bool.false_eq_true, ↓reduceIte, Int.reduceEq, reduceCtorEq, or_true, true_or, or_false, false_or, and_true, true_and, and_false, false_and, not_true_eq_false, not_false_eq_true, decide_eq_true_eq, or_self, and_self, ite_self, Int.reduceLE])), hj32⟩⟩
    refine wk_ls [(0, .inr (.inr (.ref 35))), (1, .inl (a1)), (2, .inl (q10)), (3, .inl (0))] rfl ⟨rfl, rfl, rfl, rfl, trivial⟩ (lp18 201 σ2 (q10) (0) (i5) τ6 (sg_F_t (sg_F_r [3, 4, 5, 6, 7, 8, 9, 10, 11, 12, 13, 14, 15, 16, 17, 18, 4035, 4036, 5036, 6036, 7036, 8036, 17002] σ) (sg_F_m (L := [3, 4, 5, 6, 7, 8, 9, 10, 11, 12, 13, 14, 15, 16, 17, 18, 4035, 4036, 5036, 6036, 7036, 8036, 17002]) hF4 rfl)) ht8 hk9 ?_)
    exact ⟨((by simp only [pItem, he7, ↓reduceIte, Int.reduceEq, reduceCtorEq, or_true, true_or, or_false, false_or, and_true, true_and, and_false, false_and, not_true_eq_false, not_false_eq_true, decide_eq_true_eq, or_self, and_self, ite_self, Int.reduceLE])), by omega, by omega, by omega⟩
  ·
    refine wk_b tt_178 3 (pc' := 8) (ls' := [(3, .inl (0)), (2, .inl (q10)), (0, .inr (.inr (.ref 35))), (1, .inl (a1))]) (st' := []) (σ' := σ2) rfl ?_
    refine wk_b tt_178 2 (pc' := 12) (ls' := [(3, .inl (0)), (2, .inl (q10)), (0, .inr (.inr (.ref 35))), (1, .inl (a1))]) (st' := [.inl (200), .inl (0)]) (σ' := σ2) rfl ?_
    refine wk_if2 tt_178 (tgt := 68) rfl rfl (by decide) (by decide) (fun (h : 200 < 0) => absurd h (by decide)) (fun _ => ?_)
    refine wk_b tt_178 4 (pc' := 24) (ls' := [(3, .inl (0)), (2, .inl (q10)), (0, .inr (.inr (.ref 35))), (1, .inl (a1))]) (st' := [.inl (91), .inl ((sg_g σ2 36 4))]) (σ' := σ2) rfl ?_
    rw [show (sg_g σ2 36 4) = 260 from by rw [hk9.1]]
    refine wk_if2 tt_178 (tgt := 68) rfl rfl (by decide) (by decide) (fun _ => ?_) (fun (h : 260 = 91) => absurd h (by decide))
    refine wk_b tt_178 1 (pc' := 69) (ls' := [(3, .inl (0)), (2, .inl (q10)), (0, .inr (.inr (.ref 35))), (1, .inl (a1))]) (st' := [.inl (q10)]) (σ' := σ2) rfl ?_
    refine wk_rI tt_178 rfl rfl ?_
    exact ⟨_, rfl, (sg_F_t (sg_F_r [3, 4, 5, 6, 7, 8, 9, 10, 11, 12, 13, 14, 15, 16, 17, 18, 4035, 4036, 5036, 6036, 7036, 8036, 17002] σ) (sg_F_m (L := [3, 4, 5, 6, 7, 8, 9, 10, 11, 12, 13, 14, 15, 16, 17, 18, 4035, 4036, 5036, 6036, 7036, 8036, 17002]) hF4 rfl)), Or.inr ⟨((by simp only [pItem, he7, ↓reduceIte, Int.reduceEq, reduceCtorEq, or_true, true_or, or_false, false_or, and_true, true_and, and_false, false_and, not_true_eq_false, not_false_eq_true, decide_eq_true_eq, or_self, and_self, ite_self, Int.reduceLE])), hk9⟩⟩
def cL (c : tkC) (d j : Nat) (nest : Int) (P : Int → Nat → sg_S → Option (Nat × sg_S)) : Prop := ∀ (z : Value) (σ : sg_S) (k : Int) (i : Nat) (τ : sg_S), te σ τ → tk c σ i → sg_R k → wx z d j 0 [(0, .inr (.inr (.ref 35))), (1, .inl k), (2, .inl nest)] [] σ (pqN pL0 c (P k i τ) σ)
def cW (c : tkC) (d j : Nat) (nest : Int) (P : pF) : Prop := ∀ (z : Value) (σ : sg_S) (i : Nat) (τ : sg_S), te σ τ → tk c σ i → (tK c i = 258 ∨ 267 ≤ tK c i ∧ tK c i ≤ 278) → wx z d j 0 [(0, .inr (.inr (.ref 35))), (1, .inl (tK c i)), (2, .inl nest)] [] σ (pq pL0 c (P i τ) σ)
-- NestedVectors$Parser.list
set_option maxRecDepth 8000 in
theorem px_lst (c : tkC) (hc : tkOK c) (d : Nat) (a1 : Int) (hn : 0 ≤ a1 ∧ a1 ≤ 12) (E : pF) (hE : cE c d 174 a1 (fun _ => True) E) : cL c (d + 5) 180 a1 (fun k i τ => pListL c E k 201 i τ) := by
  intro z σ k i τ ht hk hkR
  refine wk_b tt_180 2 (pc' := 2) (ls' := [(3, .inl (0)), (0, .inr (.inr (.ref 35))), (1, .inl (k)), (2, .inl (a1))]) (st' := []) (σ' := σ) rfl ?_
  have lp6 : ∀ (m5 : Nat) (σ2 : sg_S) (v1 : Int) (i8 : Nat) (τ9 : sg_S), sg_F [3, 4, 5, 6, 7, 8, 9, 10, 11, 12, 13, 14, 15, 16, 17, 18, 4035, 4036, 5036, 6036, 7036, 8036, 17002] σ σ2 → te σ2 τ9 → tk c σ2 i8 → (pListL c E k 201 i τ = pListL c E k m5 i8 τ9 ∧ v1 + m5 = 201 ∧ 0 ≤ v1) → wx z (d + 5) 180 2 [(0, .inr (.inr (.ref 35))), (1, .inl (k)), (2, .inl (a1)), (3, .inl (v1))] [] σ2 (pqN pL0 c (pListL c E k 201 i τ) σ) := by
    intro m5
    induction m5 with
    | zero =>
      intro σ2 v1 i8 τ9 hF3 ht10 hk11 hI7
      obtain ⟨hI7_e, hI7_b⟩ := hI7
      refine wk_b tt_180 2 (pc' := 6) (ls' := [(0, .inr (.inr (.ref 35))), (1, .inl (k)), (2, .inl (a1)), (3, .inl (v1))]) (st' := [.inl (200), .inl (v1)]) (σ' := σ2) rfl ?_
      refine wk_if2 tt_180 (tgt := 48) rfl rfl (by omega) (by decide) (fun (h12 : 200 < v1) => ?_) (fun (h : v1 ≤ 200) => absurd h (by omega))
      refine wk_rV tt_180 rfl rfl ?_
      exact ⟨rfl, hF3, Or.inl ⟨_, _, (hI7_e.trans (by simp only [pListL, ↓reduceIte, Int.reduceEq, reduceCtorEq, or_true, true_or, or_false, false_or, and_true, true_and, and_false, false_and, not_true_eq_false, not_false_eq_true, decide_eq_true_eq, or_self, and_self, ite_self, Int.reduceLE])), ht10, hk11⟩⟩
    | succ m5 ih4 =>
      intro σ2 v1 i8 τ9 hF3 ht10 hk11 hI7
      obtain ⟨hI7_e, hI7_b⟩ := hI7
      refine wk_b tt_180 2 (pc' := 6) (ls' := [(0, .inr (.inr (.ref 35))), (1, .inl (k)), (2, .inl (a1)), (3, .inl (v1))]) (st' := [.inl (200), .inl (v1)]) (σ' := σ2) rfl ?_
      refine wk_if2 tt_180 (tgt := 48) rfl rfl (by omega) (by decide) (fun (h : 200 < v1) => absurd h (by omega)) (fun (h13 : v1 ≤ 200) => ?_)
      refine wk_b tt_180 5 (pc' := 16) (ls' := [(0, .inr (.inr (.ref 35))), (1, .inl (k)), (2, .inl (a1)), (3, .inl (v1))]) (st' := [.inl (a1), .inr (.inr (.ref 35)), .inl (k), .inr (.inr (.ref 2))]) (σ' := σ2) rfl ?_
      refine wk_call tt_180 rfl rfl rfl rfl rfl tt_174 rfl (by omega) (hE z σ2 (i8) τ9 ht10 hk11 trivial) (fun w14 σ15 hq16 => ?_)
      obtain ⟨q23, rfl, hF17, hq16⟩ := hq16
      rcases hq16 with ⟨i18, τ19, he20, rq24, ht21, hk22⟩ | ⟨he20, hk22⟩
      ·
        refine wk_call tt_180 rfl rfl rfl rfl rfl tt_205 rfl (by omega) (px_att z σ15 (k) (q23) τ19 ht21 (by first | omega | exact sg_Rg _ _ _) (by first | omega | exact sg_Rg _ _ _)) (fun w25 σ26 hq27 => ?_)
        obtain ⟨rfl, hF28, ht29⟩ := hq27
        refine wk_b tt_180 4 (pc' := 31) (ls' := [(0, .inr (.inr (.ref 35))), (1, .inl (k)), (2, .inl (a1)), (3, .inl (v1))]) (st' := [.inl (44), .inl ((sg_g σ26 36 4))]) (σ' := σ26) rfl ?_
        have r30 := tK_r hc (i18)
        rw [show (sg_g σ26 36 4) = (tK c (i18)) from by rw [sg_F_ga hF28 rfl, hk22.2.2.2.2.1]]
        refine wk_if2 tt_180 (tgt := 35) rfl rfl (by omega) (by decide) (fun (h31 : (tK c (i18)) = 44) => ?_) (fun (h31 : ¬ (tK c (i18)) = 44) => ?_)
        ·
          refine wk_b tt_180 2 (pc' := 39) (ls' := [(0, .inr (.inr (.ref 35))), (1, .inl (k)), (2, .inl (a1)), (3, .inl (v1))]) (st' := [.inr (.inr (.ref 36))]) (σ' := σ26) rfl ?_
          refine wk_call tt_180 rfl rfl rfl rfl rfl tt_195 rfl (by omega) (tk_nx z σ26 c hc (i18) (tk_ag hk22 (ag_t (tkq_F hF28 rfl) (ag_r _ _))) (by omega)) (fun w32 σ33 hq34 => ?_)
          obtain ⟨rfl, hF35, hj36⟩ := hq34
          refine wk_b tt_180 2 (pc' := 2) (ls' := [(3, .inl ((v1 + 1))), (0, .inr (.inr (.ref 35))), (1, .inl (k)), (2, .inl (a1))]) (st' := []) (σ' := σ33) rfl ?_
          refine wk_ls [(0, .inr (.inr (.ref 35))), (1, .inl (k)), (2, .inl (a1)), (3, .inl ((v1 + 1)))] rfl ⟨rfl, rfl, rfl, rfl, trivial⟩ (ih4 σ33 ((v1 + 1)) (i18 + 1) (pAttach τ19 (k) (q23)) (sg_F_t (sg_F_t (sg_F_t hF3 (sg_F_m (L := [3, 4, 5, 6, 7, 8, 9, 10, 11, 12, 13, 14, 15, 16, 17, 18, 4035, 4036, 5036, 6036, 7036, 8036, 17002]) hF17 rfl)) (sg_F_m (L := [3, 4, 5, 6, 7, 8, 9, 10, 11, 12, 13, 14, 15, 16, 17, 18, 4035, 4036, 5036, 6036, 7036, 8036, 17002]) hF28 rfl)) (sg_F_m (L := [3, 4, 5, 6, 7, 8, 9, 10, 11, 12, 13, 14, 15, 16, 17, 18, 4035, 4036, 5036, 6036, 7036, 8036, 17002]) hF35 rfl)) (te_F ht29 hF35 rfl) hj36 ?_)
          exact ⟨(hI7_e.trans (by simp only [pListL, he20, h31, ↓reduceIte, Int.reduceEq, reduceCtorEq, or_true, true_or, or_false, false_or, and_true, true_and, and_false, false_and, not_true_eq_false, not_false_eq_true, decide_eq_true_eq, or_self, and_self, ite_self, Int.reduceLE])), by omega, by omega⟩
        ·
          refine wk_rV tt_180 rfl rfl ?_
          exact ⟨rfl, (sg_F_t (sg_F_t hF3 (sg_F_m (L := [3, 4, 5, 6, 7, 8, 9, 10, 11, 12, 13, 14, 15, 16, 17, 18, 4035, 4036, 5036, 6036, 7036, 8036, 17002]) hF17 rfl)) (sg_F_m (L := [3, 4, 5, 6, 7, 8, 9, 10, 11, 12, 13, 14, 15, 16, 17, 18, 4035, 4036, 5036, 6036, 7036, 8036, 17002]) hF28 rfl)), Or.inl ⟨_, _, (hI7_e.trans (by simp only [pListL, he20, h31, ↓reduceIte, Int.reduceEq, reduceCtorEq, or_true, true_or, or_false, false_or, and_true, true_and, and_false, false_and, not_true_eq_false, not_false_eq_true, decide_eq_true_eq, or_self, and_self, ite_self, Int.reduceLE])), ht29, (tk_ag hk22 (ag_t (tkq_F hF28 rfl) (ag_r _ _)))⟩⟩
      ·
        refine wk_call tt_180 rfl rfl rfl rfl rfl tt_205 rfl (by omega) (bp_1 z σ15 (k) (q23)) (fun w37 σ38 hq39 => ?_)
        obtain ⟨rfl, hF40⟩ := hq39
        refine wk_b tt_180 4 (pc' := 31) (ls' := [(0, .inr (.inr (.ref 35))), (1, .inl (k)), (2, .inl (a1)), (3, .inl (v1))]) (st' := [.inl (44), .inl ((sg_g σ38 36 4))]) (σ' := σ38) rfl ?_
        rw [show (sg_g σ38 36 4) = 260 from by rw [sg_F_ga hF40 rfl, hk22.1]]
        refine wk_if2 tt_180 (tgt := 35) rfl rfl (by decide) (by decide) (fun (h : 260 = 44) => absurd h (by decide)) (fun _ => ?_)
        refine wk_rV tt_180 rfl rfl ?_
        exact ⟨rfl, (sg_F_t (sg_F_t hF3 (sg_F_m (L := [3, 4, 5, 6, 7, 8, 9, 10, 11, 12, 13, 14, 15, 16, 17, 18, 4035, 4036, 5036, 6036, 7036, 8036, 17002]) hF17 rfl)) (sg_F_m (L := [3, 4, 5, 6, 7, 8, 9, 10, 11, 12, 13, 14, 15, 16, 17, 18, 4035, 4036, 5036, 6036, 7036, 8036, 17002]) hF40 rfl)), Or.inr ⟨(hI7_e.trans (by simp only [pListL, he20, ↓reduceIte, Int.reduceEq, reduceCtorEq, or_true, true_or, or_false, false_or, and_true, true_and, and_false, false_and, not_true_eq_false, not_false_eq_true, decide_eq_true_eq, or_self, and_self, ite_self, Int.reduceLE])), (jm_ag hk22 (ag_t (tkq_F hF40 rfl) (ag_r _ _)))⟩⟩
  refine wk_ls [(0, .inr (.inr (.ref 35))), (1, .inl (k)), (2, .inl (a1)), (3, .inl (0))] rfl ⟨rfl, rfl, rfl, rfl, trivial⟩ (lp6 201 σ (0) (i) τ (sg_F_r [3, 4, 5, 6, 7, 8, 9, 10, 11, 12, 13, 14, 15, 16, 17, 18, 4035, 4036, 5036, 6036, 7036, 8036, 17002] σ) ht hk ?_)
  exact ⟨rfl, by omega, by omega⟩
-- NestedVectors$Parser.generators
set_option maxRecDepth 8000 in
theorem px_gen (c : tkC) (hc : tkOK c) (d : Nat) (a1 : Int) (hn : 0 ≤ a1 ∧ a1 ≤ 12) (E : pF) (hE : cE c d 174 a1 (fun _ => True) E) : cL c (d + 9) 176 a1 (fun k i τ => pGenL c E k 5 i τ) := by
  intro z σ k i τ ht hk hkR
  refine wk_b tt_176 2 (pc' := 2) (ls' := [(3, .inl (0)), (0, .inr (.inr (.ref 35))), (1, .inl (k)), (2, .inl (a1))]) (st' := []) (σ' := σ) rfl ?_
  have lp6 : ∀ (m5 : Nat) (σ2 : sg_S) (v1 : Int) (i8 : Nat) (τ9 : sg_S), sg_F [3, 4, 5, 6, 7, 8, 9, 10, 11, 12, 13, 14, 15, 16, 17, 18, 4035, 4036, 5036, 6036, 7036, 8036, 17002] σ σ2 → te σ2 τ9 → tk c σ2 i8 → (pGenL c E k 5 i τ = pGenL c E k m5 i8 τ9 ∧ v1 + m5 = 5 ∧ 0 ≤ v1) → wx z (d + 9) 176 2 [(0, .inr (.inr (.ref 35))), (1, .inl (k)), (2, .inl (a1)), (3, .inl (v1))] [] σ2 (pqN pL0 c (pGenL c E k 5 i τ) σ) := by
    intro m5
    induction m5 with
    | zero =>
      intro σ2 v1 i8 τ9 hF3 ht10 hk11 hI7
      obtain ⟨hI7_e, hI7_b⟩ := hI7
      refine wk_b tt_176 2 (pc' := 4) (ls' := [(0, .inr (.inr (.ref 35))), (1, .inl (k)), (2, .inl (a1)), (3, .inl (v1))]) (st' := [.inl (4), .inl (v1)]) (σ' := σ2) rfl ?_
      refine wk_if2 tt_176 (tgt := 147) rfl rfl (by omega) (by decide) (fun (h12 : 4 < v1) => ?_) (fun (h : v1 ≤ 4) => absurd h (by omega))
      refine wk_rV tt_176 rfl rfl ?_
      exact ⟨rfl, hF3, Or.inl ⟨_, _, (hI7_e.trans (by simp only [pGenL, ↓reduceIte, Int.reduceEq, reduceCtorEq, or_true, true_or, or_false, false_or, and_true, true_and, and_false, false_and, not_true_eq_false, not_false_eq_true, decide_eq_true_eq, or_self, and_self, ite_self, Int.reduceLE])), ht10, hk11⟩⟩
    | succ m5 ih4 =>
      intro σ2 v1 i8 τ9 hF3 ht10 hk11 hI7
      obtain ⟨hI7_e, hI7_b⟩ := hI7
      refine wk_b tt_176 2 (pc' := 4) (ls' := [(0, .inr (.inr (.ref 35))), (1, .inl (k)), (2, .inl (a1)), (3, .inl (v1))]) (st' := [.inl (4), .inl (v1)]) (σ' := σ2) rfl ?_
      refine wk_if2 tt_176 (tgt := 147) rfl rfl (by omega) (by decide) (fun (h : 4 < v1) => absurd h (by omega)) (fun (h13 : v1 ≤ 4) => ?_)
      refine wk_b tt_176 4 (pc' := 17) (ls' := [(0, .inr (.inr (.ref 35))), (1, .inl (k)), (2, .inl (a1)), (3, .inl (v1))]) (st' := [.inl (258), .inl ((sg_g σ2 36 4))]) (σ' := σ2) rfl ?_
      have r14 := tK_r hc (i8)
      rw [show (sg_g σ2 36 4) = (tK c (i8)) from by rw [hk11.2.2.2.2.1]]
      refine wk_if2 tt_176 (tgt := 25) rfl rfl (by omega) (by decide) (fun (h15 : ¬ (tK c (i8)) = 258) => ?_) (fun (h15 : (tK c (i8)) = 258) => ?_)
      ·
        refine wk_b tt_176 1 (pc' := 26) (ls' := [(0, .inr (.inr (.ref 35))), (1, .inl (k)), (2, .inl (a1)), (3, .inl (v1))]) (st' := [.inr (.inr (.ref 35))]) (σ' := σ2) rfl ?_
        refine wk_call tt_176 rfl rfl rfl rfl rfl tt_175 rfl (by omega) (px_failR z σ2 c hc (i8) hk11) (fun w16 σ17 hq18 => ?_)
        obtain ⟨rfl, hF19, hj20⟩ := hq18
        refine wk_rV tt_176 rfl rfl ?_
        exact ⟨rfl, (sg_F_t hF3 (sg_F_m (L := [3, 4, 5, 6, 7, 8, 9, 10, 11, 12, 13, 14, 15, 16, 17, 18, 4035, 4036, 5036, 6036, 7036, 8036, 17002]) hF19 rfl)), Or.inr ⟨(hI7_e.trans (by simp only [pGenL, h15, ↓reduceIte, Int.reduceEq, reduceCtorEq, or_true, true_or, or_false, false_or, and_true, true_and, and_false, false_and, not_true_eq_false, not_false_eq_true, decide_eq_true_eq, or_self, and_self, ite_self, Int.reduceLE])), hj20⟩⟩
      ·
        refine wk_b tt_176 2 (pc' := 22) (ls' := [(0, .inr (.inr (.ref 35))), (1, .inl (k)), (2, .inl (a1)), (3, .inl (v1))]) (st' := [.inl (4), .inl (v1)]) (σ' := σ2) rfl ?_
        refine wk_if2 tt_176 (tgt := 30) rfl rfl (by omega) (by decide) (fun (h21 : ¬ v1 = 4) => ?_) (fun (h21 : v1 = 4) => ?_)
        ·
          have h21_a : ¬ m5 = 0 := by omega
          refine wk_b tt_176 10 (pc' := 52) (ls' := [(6, .inl ((sg_g σ2 36 5))), (4, .inr (.inl ((sg_gl σ2 36 7)))), (0, .inr (.inr (.ref 35))), (1, .inl (k)), (2, .inl (a1)), (3, .inl (v1))]) (st' := [.inr (.inr (.ref 36))]) (σ' := σ2) rfl ?_
          rw [show (sg_gl σ2 36 7) = (tW c (i8)) from by rw [hk11.2.2.2.2.2.2.1 (by omega)]]
          have r22 := tPl_r hc (i8)
          have r23 := hc.2.1
          rw [show (sg_g σ2 36 5) = (tPl c (i8)) from by rw [hk11.2.2.2.2.2.1]]
          refine wk_call tt_176 rfl rfl rfl rfl rfl tt_195 rfl (by omega) (tk_nx z σ2 c hc (i8) hk11 (by omega)) (fun w24 σ25 hq26 => ?_)
          obtain ⟨rfl, hF27, hj28⟩ := hq26
          refine wk_b tt_176 2 (pc' := 59) (ls' := [(6, .inl ((tPl c (i8)))), (4, .inr (.inl ((tW c (i8))))), (0, .inr (.inr (.ref 35))), (1, .inl (k)), (2, .inl (a1)), (3, .inl (v1))]) (st' := [.inl (263), .inr (.inr (.ref 35))]) (σ' := σ25) rfl ?_
          refine wk_call tt_176 rfl rfl rfl rfl rfl tt_173 rfl (by omega) (px_exp z σ25 (263) c hc (i8 + 1) hj28 (by omega)) (fun w29 σ30 hq31 => ?_)
          obtain ⟨rfl, hF32, hq31⟩ := hq31
          rcases hq31 with ⟨h33, hk34⟩ | ⟨h33, hk34⟩
          ·
            refine wk_b tt_176 2 (pc' := 64) (ls' := [(6, .inl ((tPl c (i8)))), (4, .inr (.inl ((tW c (i8))))), (0, .inr (.inr (.ref 35))), (1, .inl (k)), (2, .inl (a1)), (3, .inl (v1))]) (st' := [.inl (a1), .inr (.inr (.ref 35))]) (σ' := σ30) rfl ?_
            refine wk_call tt_176 rfl rfl rfl rfl rfl tt_174 rfl (by omega) (hE z σ30 (i8 + 1 + 1) τ9 (te_F (te_F ht10 hF27 rfl) hF32 rfl) hk34 trivial) (fun w35 σ36 hq37 => ?_)
            obtain ⟨q44, rfl, hF38, hq37⟩ := hq37
            rcases hq37 with ⟨i39, τ40, he41, rq45, ht42, hk43⟩ | ⟨he41, hk43⟩
            ·
              refine wk_b tt_176 6 (pc' := 80) (ls' := [(7, .inl (q44)), (6, .inl ((tPl c (i8)))), (4, .inr (.inl ((tW c (i8))))), (0, .inr (.inr (.ref 35))), (1, .inl (k)), (2, .inl (a1)), (3, .inl (v1))]) (st' := [.inr (.inl ((tW c (i8)))), .inl (q44), .inr (.inr (.ref 18))]) (σ' := σ36) rfl ?_
              refine wk_callp (v0 := none) (σ1 := (sx_putl σ36 18 200 (q44) ((tW c (i8))))) tt_176 rfl rfl rfl rfl rfl tt_22 rfl (by omega) (pt_l0 z σ36 18 200 (q44) ((tW c (i8))) rfl (by decide) (by omega)) ?_
              refine wk_b tt_176 5 (pc' := 94) (ls' := [(7, .inl (q44)), (6, .inl ((tPl c (i8)))), (4, .inr (.inl ((tW c (i8))))), (0, .inr (.inr (.ref 35))), (1, .inl (k)), (2, .inl (a1)), (3, .inl (v1))]) (st' := [.inl ((tPl c (i8))), .inl (q44), .inr (.inr (.ref 15))]) (σ' := (sx_putl σ36 18 200 (q44) ((tW c (i8))))) rfl ?_
              refine wk_callp (v0 := none) (σ1 := (sx_put (sx_putl σ36 18 200 (q44) ((tW c (i8)))) 15 200 (q44) ((tPl c (i8))))) tt_176 rfl rfl rfl rfl rfl tt_21 rfl (by omega) (pt_i0 z (sx_putl σ36 18 200 (q44) ((tW c (i8)))) 15 200 (q44) ((tPl c (i8))) rfl (by decide) (by omega)) ?_
              refine wk_b tt_176 4 (pc' := 104) (ls' := [(7, .inl (q44)), (6, .inl ((tPl c (i8)))), (4, .inr (.inl ((tW c (i8))))), (0, .inr (.inr (.ref 35))), (1, .inl (k)), (2, .inl (a1)), (3, .inl (v1))]) (st' := [.inl (q44), .inl (k), .inr (.inr (.ref 2))]) (σ' := (sx_put (sx_putl σ36 18 200 (q44) ((tW c (i8)))) 15 200 (q44) ((tPl c (i8))))) rfl ?_
              refine wk_call tt_176 rfl rfl rfl rfl rfl tt_205 rfl (by omega) (px_att z (sx_put (sx_putl σ36 18 200 (q44) ((tW c (i8)))) 15 200 (q44) ((tPl c (i8)))) (k) (q44) (sx_put (sx_putl τ40 18 200 (q44) ((tW c (i8)))) 15 200 (q44) ((tPl c (i8)))) (ag_p (ag_pl ht42 _ _ _ _) _ _ _ _) (by first | omega | exact sg_Rg _ _ _) (by first | omega | exact sg_Rg _ _ _)) (fun w46 σ47 hq48 => ?_)
              obtain ⟨rfl, hF49, ht50⟩ := hq48
              refine wk_b tt_176 7 (pc' := 118) (ls' := [(7, .inl (q44)), (6, .inl ((tPl c (i8)))), (4, .inr (.inl ((tW c (i8))))), (0, .inr (.inr (.ref 35))), (1, .inl (k)), (2, .inl (a1)), (3, .inl (v1))]) (st' := [.inl ((v1 + 1)), .inl (k), .inr (.inr (.ref 13))]) (σ' := σ47) rfl ?_
              rw [show (v1 + 1) = (5 - (m5 : Int)) from by omega]
              refine wk_callp (v0 := none) (σ1 := (sx_put σ47 13 200 (k) ((5 - (m5 : Int))))) tt_176 rfl rfl rfl rfl rfl tt_21 rfl (by omega) (pt_i0 z σ47 13 200 (k) ((5 - (m5 : Int))) rfl (by decide) (by omega)) ?_
              refine wk_b tt_176 4 (pc' := 130) (ls' := [(7, .inl (q44)), (6, .inl ((tPl c (i8)))), (4, .inr (.inl ((tW c (i8))))), (0, .inr (.inr (.ref 35))), (1, .inl (k)), (2, .inl (a1)), (3, .inl (v1))]) (st' := [.inl (44), .inl ((sg_g (sx_put σ47 13 200 (k) ((5 - (m5 : Int)))) 36 4))]) (σ' := (sx_put σ47 13 200 (k) ((5 - (m5 : Int))))) rfl ?_
              have r51 := tK_r hc (i39)
              rw [show (sg_g (sx_put σ47 13 200 (k) ((5 - (m5 : Int)))) 36 4) = (tK c (i39)) from by rw [sx_put_c _ _ _ _ _ _ _ (by decide), sg_F_ga hF49 rfl, sx_put_c _ _ _ _ _ _ _ (by decide), sx_putlx_c _ _ _ _ _ _ _ (by decide), hk43.2.2.2.2.1]]
              refine wk_if2 tt_176 (tgt := 134) rfl rfl (by omega) (by decide) (fun (h52 : (tK c (i39)) = 44) => ?_) (fun (h52 : ¬ (tK c (i39)) = 44) => ?_)
              ·
                refine wk_b tt_176 2 (pc' := 138) (ls' := [(7, .inl (q44)), (6, .inl ((tPl c (i8)))), (4, .inr (.inl ((tW c (i8))))), (0, .inr (.inr (.ref 35))), (1, .inl (k)), (2, .inl (a1)), (3, .inl (v1))]) (st' := [.inr (.inr (.ref 36))]) (σ' := (sx_put σ47 13 200 (k) ((5 - (m5 : Int))))) rfl ?_
                refine wk_call tt_176 rfl rfl rfl rfl rfl tt_195 rfl (by omega) (tk_nx z (sx_put σ47 13 200 (k) ((5 - (m5 : Int)))) c hc (i39) (tk_ag hk43 (ag_xp (ag_t (tkq_F hF49 rfl) (ag_xp (ag_xpl (ag_r _ _) rfl _ _ _) rfl _ _ _)) rfl _ _ _)) (by omega)) (fun w53 σ54 hq55 => ?_)
                obtain ⟨rfl, hF56, hj57⟩ := hq55
                refine wk_b tt_176 2 (pc' := 2) (ls' := [(3, .inl ((v1 + 1))), (7, .inl (q44)), (6, .inl ((tPl c (i8)))), (4, .inr (.inl ((tW c (i8))))), (0, .inr (.inr (.ref 35))), (1, .inl (k)), (2, .inl (a1))]) (st' := []) (σ' := σ54) rfl ?_
                refine wk_ls [(0, .inr (.inr (.ref 35))), (1, .inl (k)), (2, .inl (a1)), (3, .inl ((v1 + 1)))] rfl ⟨rfl, rfl, rfl, rfl, trivial⟩ (ih4 σ54 ((v1 + 1)) (i39 + 1) (sx_put (pAttach (sx_put (sx_putl τ40 18 200 (q44) ((tW c (i8)))) 15 200 (q44) ((tPl c (i8)))) (k) (q44)) 13 200 (k) ((5 - (m5 : Int)))) (sg_F_t (sg_F_p (sg_F_t (sg_F_p (sg_F_pl (sg_F_t (sg_F_t (sg_F_t hF3 (sg_F_m (L := [3, 4, 5, 6, 7, 8, 9, 10, 11, 12, 13, 14, 15, 16, 17, 18, 4035, 4036, 5036, 6036, 7036, 8036, 17002]) hF27 rfl)) (sg_F_m (L := [3, 4, 5, 6, 7, 8, 9, 10, 11, 12, 13, 14, 15, 16, 17, 18, 4035, 4036, 5036, 6036, 7036, 8036, 17002]) hF32 rfl)) (sg_F_m (L := [3, 4, 5, 6, 7, 8, 9, 10, 11, 12, 13, 14, 15, 16, 17, 18, 4035, 4036, 5036, 6036, 7036, 8036, 17002]) hF38 rfl)) rfl _ _ _) rfl _ _ _) (sg_F_m (L := [3, 4, 5, 6, 7, 8, 9, 10, 11, 12, 13, 14, 15, 16, 17, 18, 4035, 4036, 5036, 6036, 7036, 8036, 17002]) hF49 rfl)) rfl _ _ _) (sg_F_m (L := [3, 4, 5, 6, 7, 8, 9, 10, 11, 12, 13, 14, 15, 16, 17, 18, 4035, 4036, 5036, 6036, 7036, 8036, 17002]) hF56 rfl)) (te_F (ag_p ht50 _ _ _ _) hF56 rfl) hj57 ?_)
                exact ⟨(hI7_e.trans (by simp only [pGenL, h15, h21_a, h33, he41, h52, ↓reduceIte, Int.reduceEq, reduceCtorEq, or_true, true_or, or_false, false_or, and_true, true_and, and_false, false_and, not_true_eq_false, not_false_eq_true, decide_eq_true_eq, or_self, and_self, ite_self, Int.reduceLE])), by omega, by omega⟩
              ·
                refine wk_rV tt_176 rfl rfl ?_
                exact ⟨rfl, (sg_F_p (sg_F_t (sg_F_p (sg_F_pl (sg_F_t (sg_F_t (sg_F_t hF3 (sg_F_m (L := [3, 4, 5, 6, 7, 8, 9, 10, 11, 12, 13, 14, 15, 16, 17, 18, 4035, 4036, 5036, 6036, 7036, 8036, 17002]) hF27 rfl)) (sg_F_m (L := [3, 4, 5, 6, 7, 8, 9, 10, 11, 12, 13, 14, 15, 16, 17, 18, 4035, 4036, 5036, 6036, 7036, 8036, 17002]) hF32 rfl)) (sg_F_m (L := [3, 4, 5, 6, 7, 8, 9, 10, 11, 12, 13, 14, 15, 16, 17, 18, 4035, 4036, 5036, 6036, 7036, 8036, 17002]) hF38 rfl)) rfl _ _ _) rfl _ _ _) (sg_F_m (L := [3, 4, 5, 6, 7, 8, 9, 10, 11, 12, 13, 14, 15, 16, 17, 18, 4035, 4036, 5036, 6036, 7036, 8036, 17002]) hF49 rfl)) rfl _ _ _), Or.inl ⟨_, _, (hI7_e.trans (by simp only [pGenL, h15, h21_a, h33, he41, h52, ↓reduceIte, Int.reduceEq, reduceCtorEq, or_true, true_or, or_false, false_or, and_true, true_and, and_false, false_and, not_true_eq_false, not_false_eq_true, decide_eq_true_eq, or_self, and_self, ite_self, Int.reduceLE])), (ag_p ht50 _ _ _ _), (tk_ag hk43 (ag_xp (ag_t (tkq_F hF49 rfl) (ag_xp (ag_xpl (ag_r _ _) rfl _ _ _) rfl _ _ _)) rfl _ _ _))⟩⟩
            ·
              refine wk_b tt_176 6 (pc' := 80) (ls' := [(7, .inl (q44)), (6, .inl ((tPl c (i8)))), (4, .inr (.inl ((tW c (i8))))), (0, .inr (.inr (.ref 35))), (1, .inl (k)), (2, .inl (a1)), (3, .inl (v1))]) (st' := [.inr (.inl ((tW c (i8)))), .inl (q44), .inr (.inr (.ref 18))]) (σ' := σ36) rfl ?_
              refine wk_callp (v0 := none) (σ1 := (sx_putl σ36 18 200 (sg_n (q44)) ((tW c (i8))))) tt_176 rfl rfl rfl rfl rfl tt_22 rfl (by omega) (pt_l z σ36 18 200 (q44) ((tW c (i8))) rfl (by decide)) ?_
              refine wk_b tt_176 5 (pc' := 94) (ls' := [(7, .inl (q44)), (6, .inl ((tPl c (i8)))), (4, .inr (.inl ((tW c (i8))))), (0, .inr (.inr (.ref 35))), (1, .inl (k)), (2, .inl (a1)), (3, .inl (v1))]) (st' := [.inl ((tPl c (i8))), .inl (q44), .inr (.inr (.ref 15))]) (σ' := (sx_putl σ36 18 200 (sg_n (q44)) ((tW c (i8))))) rfl ?_
              refine wk_callp (v0 := none) (σ1 := (sx_put (sx_putl σ36 18 200 (sg_n (q44)) ((tW c (i8)))) 15 200 (sg_n (q44)) ((tPl c (i8))))) tt_176 rfl rfl rfl rfl rfl tt_21 rfl (by omega) (pt_i z (sx_putl σ36 18 200 (sg_n (q44)) ((tW c (i8)))) 15 200 (q44) ((tPl c (i8))) rfl (by decide)) ?_
              refine wk_b tt_176 4 (pc' := 104) (ls' := [(7, .inl (q44)), (6, .inl ((tPl c (i8)))), (4, .inr (.inl ((tW c (i8))))), (0, .inr (.inr (.ref 35))), (1, .inl (k)), (2, .inl (a1)), (3, .inl (v1))]) (st' := [.inl (q44), .inl (k), .inr (.inr (.ref 2))]) (σ' := (sx_put (sx_putl σ36 18 200 (sg_n (q44)) ((tW c (i8)))) 15 200 (sg_n (q44)) ((tPl c (i8))))) rfl ?_
              refine wk_call tt_176 rfl rfl rfl rfl rfl tt_205 rfl (by omega) (bp_1 z (sx_put (sx_putl σ36 18 200 (sg_n (q44)) ((tW c (i8)))) 15 200 (sg_n (q44)) ((tPl c (i8)))) (k) (q44)) (fun w58 σ59 hq60 => ?_)
              obtain ⟨rfl, hF61⟩ := hq60
              refine wk_b tt_176 7 (pc' := 118) (ls' := [(7, .inl (q44)), (6, .inl ((tPl c (i8)))), (4, .inr (.inl ((tW c (i8))))), (0, .inr (.inr (.ref 35))), (1, .inl (k)), (2, .inl (a1)), (3, .inl (v1))]) (st' := [.inl ((v1 + 1)), .inl (k), .inr (.inr (.ref 13))]) (σ' := σ59) rfl ?_
              refine wk_callp (v0 := none) (σ1 := (sx_put σ59 13 200 (sg_n (k)) ((v1 + 1)))) tt_176 rfl rfl rfl rfl rfl tt_21 rfl (by omega) (pt_i z σ59 13 200 (k) ((v1 + 1)) rfl (by decide)) ?_
              refine wk_b tt_176 4 (pc' := 130) (ls' := [(7, .inl (q44)), (6, .inl ((tPl c (i8)))), (4, .inr (.inl ((tW c (i8))))), (0, .inr (.inr (.ref 35))), (1, .inl (k)), (2, .inl (a1)), (3, .inl (v1))]) (st' := [.inl (44), .inl ((sg_g (sx_put σ59 13 200 (sg_n (k)) ((v1 + 1))) 36 4))]) (σ' := (sx_put σ59 13 200 (sg_n (k)) ((v1 + 1)))) rfl ?_
              rw [show (sg_g (sx_put σ59 13 200 (sg_n (k)) ((v1 + 1))) 36 4) = 260 from by rw [sx_put_c _ _ _ _ _ _ _ (by decide), sg_F_ga hF61 rfl, sx_put_c _ _ _ _ _ _ _ (by decide), sx_putlx_c _ _ _ _ _ _ _ (by decide), hk43.1]]
              refine wk_if2 tt_176 (tgt := 134) rfl rfl (by decide) (by decide) (fun (h : 260 = 44) => absurd h (by decide)) (fun _ => ?_)
              refine wk_rV tt_176 rfl rfl ?_
              exact ⟨rfl, (sg_F_p (sg_F_t (sg_F_p (sg_F_pl (sg_F_t (sg_F_t (sg_F_t hF3 (sg_F_m (L := [3, 4, 5, 6, 7, 8, 9, 10, 11, 12, 13, 14, 15, 16, 17, 18, 4035, 4036, 5036, 6036, 7036, 8036, 17002]) hF27 rfl)) (sg_F_m (L := [3, 4, 5, 6, 7, 8, 9, 10, 11, 12, 13, 14, 15, 16, 17, 18, 4035, 4036, 5036, 6036, 7036, 8036, 17002]) hF32 rfl)) (sg_F_m (L := [3, 4, 5, 6, 7, 8, 9, 10, 11, 12, 13, 14, 15, 16, 17, 18, 4035, 4036, 5036, 6036, 7036, 8036, 17002]) hF38 rfl)) rfl _ _ _) rfl _ _ _) (sg_F_m (L := [3, 4, 5, 6, 7, 8, 9, 10, 11, 12, 13, 14, 15, 16, 17, 18, 4035, 4036, 5036, 6036, 7036, 8036, 17002]) hF61 rfl)) rfl _ _ _), Or.inr ⟨(hI7_e.trans (by simp only [pGenL, h15, h21_a, h33, he41, ↓reduceIte, Int.reduceEq, reduceCtorEq, or_true, true_or, or_false, false_or, and_true, true_and, and_false, false_and, not_true_eq_false, not_false_eq_true, decide_eq_true_eq, or_self, and_self, ite_self, Int.reduceLE])), (jm_ag hk43 (ag_xp (ag_t (tkq_F hF61 rfl) (ag_xp (ag_xpl (ag_r _ _) rfl _ _ _) rfl _ _ _)) rfl _ _ _))⟩⟩
          ·
            refine wk_b tt_176 2 (pc' := 64) (ls' := [(6, .inl ((tPl c (i8)))), (4, .inr (.inl ((tW c (i8))))), (0, .inr (.inr (.ref 35))), (1, .inl (k)), (2, .inl (a1)), (3, .inl (v1))]) (st' := [.inl (a1), .inr (.inr (.ref 35))]) (σ' := σ30) rfl ?_
            refine wk_call tt_176 rfl rfl rfl rfl rfl tt_174 rfl (by omega) (pj_expression z σ30 (a1) hk34) (fun w63 σ64 hq65 => ?_)
            obtain ⟨q68, rfl, hF66, hj67⟩ := hq65
            refine wk_b tt_176 6 (pc' := 80) (ls' := [(7, .inl (q68)), (6, .inl ((tPl c (i8)))), (4, .inr (.inl ((tW c (i8))))), (0, .inr (.inr (.ref 35))), (1, .inl (k)), (2, .inl (a1)), (3, .inl (v1))]) (st' := [.inr (.inl ((tW c (i8)))), .inl (q68), .inr (.inr (.ref 18))]) (σ' := σ64) rfl ?_
            refine wk_callp (v0 := none) (σ1 := (sx_putl σ64 18 200 (sg_n (q68)) ((tW c (i8))))) tt_176 rfl rfl rfl rfl rfl tt_22 rfl (by omega) (pt_l z σ64 18 200 (q68) ((tW c (i8))) rfl (by decide)) ?_
            refine wk_b tt_176 5 (pc' := 94) (ls' := [(7, .inl (q68)), (6, .inl ((tPl c (i8)))), (4, .inr (.inl ((tW c (i8))))), (0, .inr (.inr (.ref 35))), (1, .inl (k)), (2, .inl (a1)), (3, .inl (v1))]) (st' := [.inl ((tPl c (i8))), .inl (q68), .inr (.inr (.ref 15))]) (σ' := (sx_putl σ64 18 200 (sg_n (q68)) ((tW c (i8))))) rfl ?_
            refine wk_callp (v0 := none) (σ1 := (sx_put (sx_putl σ64 18 200 (sg_n (q68)) ((tW c (i8)))) 15 200 (sg_n (q68)) ((tPl c (i8))))) tt_176 rfl rfl rfl rfl rfl tt_21 rfl (by omega) (pt_i z (sx_putl σ64 18 200 (sg_n (q68)) ((tW c (i8)))) 15 200 (q68) ((tPl c (i8))) rfl (by decide)) ?_
            refine wk_b tt_176 4 (pc' := 104) (ls' := [(7, .inl (q68)), (6, .inl ((tPl c (i8)))), (4, .inr (.inl ((tW c (i8))))), (0, .inr (.inr (.ref 35))), (1, .inl (k)), (2, .inl (a1)), (3, .inl (v1))]) (st' := [.inl (q68), .inl (k), .inr (.inr (.ref 2))]) (σ' := (sx_put (sx_putl σ64 18 200 (sg_n (q68)) ((tW c (i8)))) 15 200 (sg_n (q68)) ((tPl c (i8))))) rfl ?_
            refine wk_call tt_176 rfl rfl rfl rfl rfl tt_205 rfl (by omega) (bp_1 z (sx_put (sx_putl σ64 18 200 (sg_n (q68)) ((tW c (i8)))) 15 200 (sg_n (q68)) ((tPl c (i8)))) (k) (q68)) (fun w69 σ70 hq71 => ?_)
            obtain ⟨rfl, hF72⟩ := hq71
            refine wk_b tt_176 7 (pc' := 118) (ls' := [(7, .inl (q68)), (6, .inl ((tPl c (i8)))), (4, .inr (.inl ((tW c (i8))))), (0, .inr (.inr (.ref 35))), (1, .inl (k)), (2, .inl (a1)), (3, .inl (v1))]) (st' := [.inl ((v1 + 1)), .inl (k), .inr (.inr (.ref 13))]) (σ' := σ70) rfl ?_
            refine wk_callp (v0 := none) (σ1 := (sx_put σ70 13 200 (sg_n (k)) ((v1 + 1)))) tt_176 rfl rfl rfl rfl rfl tt_21 rfl (by omega) (pt_i z σ70 13 200 (k) ((v1 + 1)) rfl (by decide)) ?_
            refine wk_b tt_176 4 (pc' := 130) (ls' := [(7, .inl (q68)), (6, .inl ((tPl c (i8)))), (4, .inr (.inl ((tW c (i8))))), (0, .inr (.inr (.ref 35))), (1, .inl (k)), (2, .inl (a1)), (3, .inl (v1))]) (st' := [.inl (44), .inl ((sg_g (sx_put σ70 13 200 (sg_n (k)) ((v1 + 1))) 36 4))]) (σ' := (sx_put σ70 13 200 (sg_n (k)) ((v1 + 1)))) rfl ?_
            rw [show (sg_g (sx_put σ70 13 200 (sg_n (k)) ((v1 + 1))) 36 4) = 260 from by rw [sx_put_c _ _ _ _ _ _ _ (by decide), sg_F_ga hF72 rfl, sx_put_c _ _ _ _ _ _ _ (by decide), sx_putlx_c _ _ _ _ _ _ _ (by decide), hj67.1]]
            refine wk_if2 tt_176 (tgt := 134) rfl rfl (by decide) (by decide) (fun (h : 260 = 44) => absurd h (by decide)) (fun _ => ?_)
            refine wk_rV tt_176 rfl rfl ?_
            exact ⟨rfl, (sg_F_p (sg_F_t (sg_F_p (sg_F_pl (sg_F_t (sg_F_t (sg_F_t hF3 (sg_F_m (L := [3, 4, 5, 6, 7, 8, 9, 10, 11, 12, 13, 14, 15, 16, 17, 18, 4035, 4036, 5036, 6036, 7036, 8036, 17002]) hF27 rfl)) (sg_F_m (L := [3, 4, 5, 6, 7, 8, 9, 10, 11, 12, 13, 14, 15, 16, 17, 18, 4035, 4036, 5036, 6036, 7036, 8036, 17002]) hF32 rfl)) (sg_F_m (L := [3, 4, 5, 6, 7, 8, 9, 10, 11, 12, 13, 14, 15, 16, 17, 18, 4035, 4036, 5036, 6036, 7036, 8036, 17002]) hF66 rfl)) rfl _ _ _) rfl _ _ _) (sg_F_m (L := [3, 4, 5, 6, 7, 8, 9, 10, 11, 12, 13, 14, 15, 16, 17, 18, 4035, 4036, 5036, 6036, 7036, 8036, 17002]) hF72 rfl)) rfl _ _ _), Or.inr ⟨(hI7_e.trans (by simp only [pGenL, h15, h21_a, h33, ↓reduceIte, Int.reduceEq, reduceCtorEq, or_true, true_or, or_false, false_or, and_true, true_and, and_false, false_and, not_true_eq_false, not_false_eq_true, decide_eq_true_eq, or_self, and_self, ite_self, Int.reduceLE])), (jm_ag hj67 (ag_xp (ag_t (tkq_F hF72 rfl) (ag_xp (ag_xpl (ag_r _ _) rfl _ _ _) rfl _ _ _)) rfl _ _ _))⟩⟩
        ·
          have h21_a : m5 = 0 := by omega
          refine wk_b tt_176 1 (pc' := 26) (ls' := [(0, .inr (.inr (.ref 35))), (1, .inl (k)), (2, .inl (a1)), (3, .inl (v1))]) (st' := [.inr (.inr (.ref 35))]) (σ' := σ2) rfl ?_
          refine wk_call tt_176 rfl rfl rfl rfl rfl tt_175 rfl (by omega) (px_failR z σ2 c hc (i8) hk11) (fun w74 σ75 hq76 => ?_)
          obtain ⟨rfl, hF77, hj78⟩ := hq76
          refine wk_rV tt_176 rfl rfl ?_
          exact ⟨rfl, (sg_F_t hF3 (sg_F_m (L := [3, 4, 5, 6, 7, 8, 9, 10, 11, 12, 13, 14, 15, 16, 17, 18, 4035, 4036, 5036, 6036, 7036, 8036, 17002]) hF77 rfl)), Or.inr ⟨(hI7_e.trans (by simp only [pGenL, h15, h21_a, ↓reduceIte, Int.reduceEq, reduceCtorEq, or_true, true_or, or_false, false_or, and_true, true_and, and_false, false_and, not_true_eq_false, not_false_eq_true, decide_eq_true_eq, or_self, and_self, ite_self, Int.reduceLE])), hj78⟩⟩
  refine wk_ls [(0, .inr (.inr (.ref 35))), (1, .inl (k)), (2, .inl (a1)), (3, .inl (0))] rfl ⟨rfl, rfl, rfl, rfl, trivial⟩ (lp6 5 σ (0) (i) τ (sg_F_r [3, 4, 5, 6, 7, 8, 9, 10, 11, 12, 13, 14, 15, 16, 17, 18, 4035, 4036, 5036, 6036, 7036, 8036, 17002] σ) ht hk ?_)
  exact ⟨rfl, by omega, by omega⟩
