-- NestedVectors$Parser.word
set_option maxRecDepth 8000 in
theorem px_wrd (c : tkC) (hc : tkOK c) (d : Nat) (a1 : Int) (hn : 0 ≤ a1 ∧ a1 ≤ 12) (w : Bool) (hw : w = decide (a1 < 12)) (E : pF) (hL : a1 < 12 → cL c d 180 (a1 + 1) (fun k i τ => pListL c E k 201 i τ)) : cW c (d + 10) 191 a1 (pWord c w E) := by
  intro z σ i τ ht hk hp
  refine wk_b tt_191 1 (pc' := 1) (ls' := [(0, .inr (.inr (.ref 35))), (1, .inl ((tK c (i)))), (2, .inl (a1))]) (st' := [.inr (.inr (.ref 35))]) (σ' := σ) rfl ?_
  refine wk_call tt_191 rfl rfl rfl rfl rfl tt_171 rfl (by omega) (px_crt z σ c hc (i) τ ht hk (by omega)) (fun w1 σ2 hq3 => ?_)
  obtain ⟨q10, rfl, hF4, hq3⟩ := hq3
  rcases hq3 with ⟨i5, τ6, he7, rq11, ht8, hk9⟩ | ⟨he7, hk9⟩
  ·
    refine wk_b tt_191 3 (pc' := 9) (ls' := [(3, .inl (q10)), (0, .inr (.inr (.ref 35))), (1, .inl ((tK c (i)))), (2, .inl (a1))]) (st' := [.inl (258), .inl ((tK c (i)))]) (σ' := σ2) rfl ?_
    have r13 := tK_r hc (i)
    refine wk_if2 tt_191 (tgt := 26) rfl rfl (by omega) (by decide) (fun (h12 : ¬ (tK c (i)) = 258) => ?_) (fun (h12 : (tK c (i)) = 258) => ?_)
    ·
      refine wk_b tt_191 2 (pc' := 30) (ls' := [(3, .inl (q10)), (0, .inr (.inr (.ref 35))), (1, .inl ((tK c (i)))), (2, .inl (a1))]) (st' := [.inl (258), .inl ((tK c (i)))]) (σ' := σ2) rfl ?_
      refine wk_if2 tt_191 (tgt := 47) rfl rfl (by omega) (by decide) (fun (h14 : ¬ (tK c (i)) = 258) => ?_) (fun (h : (tK c (i)) = 258) => absurd h (by omega))
      refine wk_b tt_191 4 (pc' := 56) (ls' := [(3, .inl (q10)), (0, .inr (.inr (.ref 35))), (1, .inl ((tK c (i)))), (2, .inl (a1))]) (st' := [.inl (40), .inl ((sg_g σ2 36 4))]) (σ' := σ2) rfl ?_
      have r15 := tK_r hc (i5)
      rw [show (sg_g σ2 36 4) = (tK c (i5)) from by rw [hk9.2.2.2.2.1]]
      refine wk_if2 tt_191 (tgt := 69) rfl rfl (by omega) (by decide) (fun (h16 : ¬ (tK c (i5)) = 40) => ?_) (fun (h16 : (tK c (i5)) = 40) => ?_)
      ·
        refine wk_b tt_191 2 (pc' := 72) (ls' := [(3, .inl (q10)), (0, .inr (.inr (.ref 35))), (1, .inl ((tK c (i)))), (2, .inl (a1))]) (st' := [.inl (40), .inr (.inr (.ref 35))]) (σ' := σ2) rfl ?_
        refine wk_call tt_191 rfl rfl rfl rfl rfl tt_173 rfl (by omega) (px_exp z σ2 (40) c hc (i5) hk9 (by omega)) (fun w17 σ18 hq19 => ?_)
        obtain ⟨rfl, hF20, hq19⟩ := hq19
        rcases hq19 with ⟨h21, hk22⟩ | ⟨h21, hk22⟩
        ·
          exfalso; omega
        ·
          refine wk_b tt_191 4 (pc' := 84) (ls' := [(3, .inl (q10)), (0, .inr (.inr (.ref 35))), (1, .inl ((tK c (i)))), (2, .inl (a1))]) (st' := [.inl (41), .inl ((sg_g σ18 36 4))]) (σ' := σ18) rfl ?_
          rw [show (sg_g σ18 36 4) = 260 from by rw [hk22.1]]
          refine wk_if2 tt_191 (tgt := 95) rfl rfl (by decide) (by decide) (fun (h : 260 = 41) => absurd h (by decide)) (fun _ => ?_)
          refine wk_b tt_191 5 (pc' := 92) (ls' := [(3, .inl (q10)), (0, .inr (.inr (.ref 35))), (1, .inl ((tK c (i)))), (2, .inl (a1))]) (st' := [.inl ((a1 + 1)), .inl (q10), .inr (.inr (.ref 35))]) (σ' := σ18) rfl ?_
          refine wk_call tt_191 rfl rfl rfl rfl rfl tt_180 rfl (by omega) (pj_list z σ18 (q10) ((a1 + 1)) hk22) (fun w24 σ25 hq26 => ?_)
          obtain ⟨rfl, hF27, hj28⟩ := hq26
          refine wk_b tt_191 2 (pc' := 98) (ls' := [(3, .inl (q10)), (0, .inr (.inr (.ref 35))), (1, .inl ((tK c (i)))), (2, .inl (a1))]) (st' := [.inl (41), .inr (.inr (.ref 35))]) (σ' := σ25) rfl ?_
          refine wk_call tt_191 rfl rfl rfl rfl rfl tt_173 rfl (by omega) (pj_exp z σ25 (41) hj28 (by omega)) (fun w29 σ30 hq31 => ?_)
          obtain ⟨rfl, hF32, hj33⟩ := hq31
          refine wk_b tt_191 4 (pc' := 107) (ls' := [(3, .inl (q10)), (0, .inr (.inr (.ref 35))), (1, .inl ((tK c (i)))), (2, .inl (a1))]) (st' := [.inl (q10), .inl (q10), .inr (.inr (.ref 2))]) (σ' := σ30) rfl ?_
          refine wk_call tt_191 rfl rfl rfl rfl rfl tt_206 rfl (by omega) (bp_2 z σ30 (q10) (q10)) (fun w34 σ35 hq36 => ?_)
          obtain ⟨rfl, hF37⟩ := hq36
          refine wk_b tt_191 1 (pc' := 111) (ls' := [(3, .inl (q10)), (0, .inr (.inr (.ref 35))), (1, .inl ((tK c (i)))), (2, .inl (a1))]) (st' := [.inl (q10)]) (σ' := σ35) rfl ?_
          refine wk_rI tt_191 rfl rfl ?_
          exact ⟨_, rfl, (sg_F_t (sg_F_t (sg_F_t (sg_F_t (sg_F_t (sg_F_r [3, 4, 5, 6, 7, 8, 9, 10, 11, 12, 13, 14, 15, 16, 17, 18, 4035, 4036, 5036, 6036, 7036, 8036, 17002] σ) (sg_F_m (L := [3, 4, 5, 6, 7, 8, 9, 10, 11, 12, 13, 14, 15, 16, 17, 18, 4035, 4036, 5036, 6036, 7036, 8036, 17002]) hF4 rfl)) (sg_F_m (L := [3, 4, 5, 6, 7, 8, 9, 10, 11, 12, 13, 14, 15, 16, 17, 18, 4035, 4036, 5036, 6036, 7036, 8036, 17002]) hF20 rfl)) (sg_F_m (L := [3, 4, 5, 6, 7, 8, 9, 10, 11, 12, 13, 14, 15, 16, 17, 18, 4035, 4036, 5036, 6036, 7036, 8036, 17002]) hF27 rfl)) (sg_F_m (L := [3, 4, 5, 6, 7, 8, 9, 10, 11, 12, 13, 14, 15, 16, 17, 18, 4035, 4036, 5036, 6036, 7036, 8036, 17002]) hF32 rfl)) (sg_F_m (L := [3, 4, 5, 6, 7, 8, 9, 10, 11, 12, 13, 14, 15, 16, 17, 18, 4035, 4036, 5036, 6036, 7036, 8036, 17002]) hF37 rfl)), Or.inr ⟨((by simp only [pWord, pWordE, he7, h12, h16, h21, ↓reduceIte, Int.reduceEq, reduceCtorEq, or_true, true_or, or_false, false_or, and_true, true_and, and_false, false_and, not_true_eq_false, not_false_eq_true, decide_eq_true_eq, or_self, and_self, ite_self, Int.reduceLE])), (jm_ag hj33 (ag_t (tkq_F hF37 rfl) (ag_r _ _)))⟩⟩
      ·
        refine wk_b tt_191 2 (pc' := 61) (ls' := [(3, .inl (q10)), (0, .inr (.inr (.ref 35))), (1, .inl ((tK c (i)))), (2, .inl (a1))]) (st' := [.inl (a1), .inr (.inr (.ref 35))]) (σ' := σ2) rfl ?_
        refine wk_call tt_191 rfl rfl rfl rfl rfl tt_190 rfl (by omega) (px_wth z σ2 (a1) c hc (i5) hk9 hn) (fun w38 σ39 hq40 => ?_)
        rcases hq40 with ⟨rfl, hw43_e, hw43⟩ | ⟨rfl, hF41, hj42, hw43⟩
        ·
          rw [hw43_e]
          have hw43_w : w = true := by rw [hw]; exact decide_eq_true hw43
          refine wk_if tt_191 (tgt := 69) rfl rfl (by decide) (fun _ => ?_) (fun (h : 1 = 0) => absurd h (by decide))
          refine wk_b tt_191 2 (pc' := 72) (ls' := [(3, .inl (q10)), (0, .inr (.inr (.ref 35))), (1, .inl ((tK c (i)))), (2, .inl (a1))]) (st' := [.inl (40), .inr (.inr (.ref 35))]) (σ' := σ2) rfl ?_
          refine wk_call tt_191 rfl rfl rfl rfl rfl tt_173 rfl (by omega) (px_exp z σ2 (40) c hc (i5) hk9 (by omega)) (fun w45 σ46 hq47 => ?_)
          obtain ⟨rfl, hF48, hq47⟩ := hq47
          rcases hq47 with ⟨h49, hk50⟩ | ⟨h49, hk50⟩
          ·
            refine wk_b tt_191 4 (pc' := 84) (ls' := [(3, .inl (q10)), (0, .inr (.inr (.ref 35))), (1, .inl ((tK c (i)))), (2, .inl (a1))]) (st' := [.inl (41), .inl ((sg_g σ46 36 4))]) (σ' := σ46) rfl ?_
            have r51 := tK_r hc (i5 + 1)
            rw [show (sg_g σ46 36 4) = (tK c (i5 + 1)) from by rw [hk50.2.2.2.2.1]]
            refine wk_if2 tt_191 (tgt := 95) rfl rfl (by omega) (by decide) (fun (h52 : (tK c (i5 + 1)) = 41) => ?_) (fun (h52 : ¬ (tK c (i5 + 1)) = 41) => ?_)
            ·
              refine wk_b tt_191 2 (pc' := 98) (ls' := [(3, .inl (q10)), (0, .inr (.inr (.ref 35))), (1, .inl ((tK c (i)))), (2, .inl (a1))]) (st' := [.inl (41), .inr (.inr (.ref 35))]) (σ' := σ46) rfl ?_
              refine wk_call tt_191 rfl rfl rfl rfl rfl tt_173 rfl (by omega) (px_exp z σ46 (41) c hc (i5 + 1) hk50 (by omega)) (fun w53 σ54 hq55 => ?_)
              obtain ⟨rfl, hF56, hq55⟩ := hq55
              rcases hq55 with ⟨h57, hk58⟩ | ⟨h57, hk58⟩
              ·
                refine wk_b tt_191 4 (pc' := 107) (ls' := [(3, .inl (q10)), (0, .inr (.inr (.ref 35))), (1, .inl ((tK c (i)))), (2, .inl (a1))]) (st' := [.inl (q10), .inl (q10), .inr (.inr (.ref 2))]) (σ' := σ54) rfl ?_
                refine wk_call tt_191 rfl rfl rfl rfl rfl tt_206 rfl (by omega) (px_cls z σ54 (q10) (q10) τ6 (te_F (te_F ht8 hF48 rfl) hF56 rfl) (by first | omega | exact sg_Rg _ _ _) (by first | omega | exact sg_Rg _ _ _)) (fun w59 σ60 hq61 => ?_)
                obtain ⟨rfl, hF62, ht63⟩ := hq61
                refine wk_b tt_191 1 (pc' := 111) (ls' := [(3, .inl (q10)), (0, .inr (.inr (.ref 35))), (1, .inl ((tK c (i)))), (2, .inl (a1))]) (st' := [.inl (q10)]) (σ' := σ60) rfl ?_
                refine wk_rI tt_191 rfl rfl ?_
                exact ⟨_, rfl, (sg_F_t (sg_F_t (sg_F_t (sg_F_t (sg_F_r [3, 4, 5, 6, 7, 8, 9, 10, 11, 12, 13, 14, 15, 16, 17, 18, 4035, 4036, 5036, 6036, 7036, 8036, 17002] σ) (sg_F_m (L := [3, 4, 5, 6, 7, 8, 9, 10, 11, 12, 13, 14, 15, 16, 17, 18, 4035, 4036, 5036, 6036, 7036, 8036, 17002]) hF4 rfl)) (sg_F_m (L := [3, 4, 5, 6, 7, 8, 9, 10, 11, 12, 13, 14, 15, 16, 17, 18, 4035, 4036, 5036, 6036, 7036, 8036, 17002]) hF48 rfl)) (sg_F_m (L := [3, 4, 5, 6, 7, 8, 9, 10, 11, 12, 13, 14, 15, 16, 17, 18, 4035, 4036, 5036, 6036, 7036, 8036, 17002]) hF56 rfl)) (sg_F_m (L := [3, 4, 5, 6, 7, 8, 9, 10, 11, 12, 13, 14, 15, 16, 17, 18, 4035, 4036, 5036, 6036, 7036, 8036, 17002]) hF62 rfl)), Or.inl ⟨_, _, ((by simp only [pWord, pWordE, he7, h12, h16, hw43_w, h49, h52, h57, ↓reduceIte, Int.reduceEq, reduceCtorEq, or_true, true_or, or_false, false_or, and_true, true_and, and_false, false_and, not_true_eq_false, not_false_eq_true, decide_eq_true_eq, or_self, and_self, ite_self, Int.reduceLE])), (by first | omega | exact sg_Rg _ _ _ | decide), ht63, (tk_ag hk58 (ag_t (tkq_F hF62 rfl) (ag_r _ _)))⟩⟩
              ·
                exfalso; omega
            ·
              refine wk_b tt_191 5 (pc' := 92) (ls' := [(3, .inl (q10)), (0, .inr (.inr (.ref 35))), (1, .inl ((tK c (i)))), (2, .inl (a1))]) (st' := [.inl ((a1 + 1)), .inl (q10), .inr (.inr (.ref 35))]) (σ' := σ46) rfl ?_
              refine wk_call tt_191 rfl rfl rfl rfl rfl tt_180 rfl (by omega) (hL (by omega) z σ46 (q10) (i5 + 1) τ6 (te_F ht8 hF48 rfl) hk50 (by omega)) (fun w64 σ65 hq66 => ?_)
              obtain ⟨rfl, hF67, hq66⟩ := hq66
              rcases hq66 with ⟨i68, τ69, he70, ht71, hk72⟩ | ⟨he70, hk72⟩
              ·
                refine wk_b tt_191 2 (pc' := 98) (ls' := [(3, .inl (q10)), (0, .inr (.inr (.ref 35))), (1, .inl ((tK c (i)))), (2, .inl (a1))]) (st' := [.inl (41), .inr (.inr (.ref 35))]) (σ' := σ65) rfl ?_
                refine wk_call tt_191 rfl rfl rfl rfl rfl tt_173 rfl (by omega) (px_exp z σ65 (41) c hc (i68) hk72 (by omega)) (fun w73 σ74 hq75 => ?_)
                obtain ⟨rfl, hF76, hq75⟩ := hq75
                rcases hq75 with ⟨h77, hk78⟩ | ⟨h77, hk78⟩
                ·
                  refine wk_b tt_191 4 (pc' := 107) (ls' := [(3, .inl (q10)), (0, .inr (.inr (.ref 35))), (1, .inl ((tK c (i)))), (2, .inl (a1))]) (st' := [.inl (q10), .inl (q10), .inr (.inr (.ref 2))]) (σ' := σ74) rfl ?_
                  refine wk_call tt_191 rfl rfl rfl rfl rfl tt_206 rfl (by omega) (px_cls z σ74 (q10) (q10) τ69 (te_F ht71 hF76 rfl) (by first | omega | exact sg_Rg _ _ _) (by first | omega | exact sg_Rg _ _ _)) (fun w79 σ80 hq81 => ?_)
                  obtain ⟨rfl, hF82, ht83⟩ := hq81
                  refine wk_b tt_191 1 (pc' := 111) (ls' := [(3, .inl (q10)), (0, .inr (.inr (.ref 35))), (1, .inl ((tK c (i)))), (2, .inl (a1))]) (st' := [.inl (q10)]) (σ' := σ80) rfl ?_
                  refine wk_rI tt_191 rfl rfl ?_
                  exact ⟨_, rfl, (sg_F_t (sg_F_t (sg_F_t (sg_F_t (sg_F_t (sg_F_r [3, 4, 5, 6, 7, 8, 9, 10, 11, 12, 13, 14, 15, 16, 17, 18, 4035, 4036, 5036, 6036, 7036, 8036, 17002] σ) (sg_F_m (L := [3, 4, 5, 6, 7, 8, 9, 10, 11, 12, 13, 14, 15, 16, 17, 18, 4035, 4036, 5036, 6036, 7036, 8036, 17002]) hF4 rfl)) (sg_F_m (L := [3, 4, 5, 6, 7, 8, 9, 10, 11, 12, 13, 14, 15, 16, 17, 18, 4035, 4036, 5036, 6036, 7036, 8036, 17002]) hF48 rfl)) (sg_F_m (L := [3, 4, 5, 6, 7, 8, 9, 10, 11, 12, 13, 14, 15, 16, 17, 18, 4035, 4036, 5036, 6036, 7036, 8036, 17002]) hF67 rfl)) (sg_F_m (L := [3, 4, 5, 6, 7, 8, 9, 10, 11, 12, 13, 14, 15, 16, 17, 18, 4035, 4036, 5036, 6036, 7036, 8036, 17002]) hF76 rfl)) (sg_F_m (L := [3, 4, 5, 6, 7, 8, 9, 10, 11, 12, 13, 14, 15, 16, 17, 18, 4035, 4036, 5036, 6036, 7036, 8036, 17002]) hF82 rfl)), Or.inl ⟨_, _, ((by simp only [pWord, pWordE, he7, h12, h16, hw43_w, h49, h52, he70, h77, ↓reduceIte, Int.reduceEq, reduceCtorEq, or_true, true_or, or_false, false_or, and_true, true_and, and_false, false_and, not_true_eq_false, not_false_eq_true, decide_eq_true_eq, or_self, and_self, ite_self, Int.reduceLE])), (by first | omega | exact sg_Rg _ _ _ | decide), ht83, (tk_ag hk78 (ag_t (tkq_F hF82 rfl) (ag_r _ _)))⟩⟩
                ·
                  refine wk_b tt_191 4 (pc' := 107) (ls' := [(3, .inl (q10)), (0, .inr (.inr (.ref 35))), (1, .inl ((tK c (i)))), (2, .inl (a1))]) (st' := [.inl (q10), .inl (q10), .inr (.inr (.ref 2))]) (σ' := σ74) rfl ?_
                  refine wk_call tt_191 rfl rfl rfl rfl rfl tt_206 rfl (by omega) (bp_2 z σ74 (q10) (q10)) (fun w84 σ85 hq86 => ?_)
                  obtain ⟨rfl, hF87⟩ := hq86
                  refine wk_b tt_191 1 (pc' := 111) (ls' := [(3, .inl (q10)), (0, .inr (.inr (.ref 35))), (1, .inl ((tK c (i)))), (2, .inl (a1))]) (st' := [.inl (q10)]) (σ' := σ85) rfl ?_
                  refine wk_rI tt_191 rfl rfl ?_
                  exact ⟨_, rfl, (sg_F_t (sg_F_t (sg_F_t (sg_F_t (sg_F_t (sg_F_r [3, 4, 5, 6, 7, 8, 9, 10, 11, 12, 13, 14, 15, 16, 17, 18, 4035, 4036, 5036, 6036, 7036, 8036, 17002] σ) (sg_F_m (L := [3, 4, 5, 6, 7, 8, 9, 10, 11, 12, 13, 14, 15, 16, 17, 18, 4035, 4036, 5036, 6036, 7036, 8036, 17002]) hF4 rfl)) (sg_F_m (L := [3, 4, 5, 6, 7, 8, 9, 10, 11, 12, 13, 14, 15, 16, 17, 18, 4035, 4036, 5036, 6036, 7036, 8036, 17002]) hF48 rfl)) (sg_F_m (L := [3, 4, 5, 6, 7, 8, 9, 10, 11, 12, 13, 14, 15, 16, 17, 18, 4035, 4036, 5036, 6036, 7036, 8036, 17002]) hF67 rfl)) (sg_F_m (L := [3, 4, 5, 6, 7, 8, 9, 10, 11, 12, 13, 14, 15, 16, 17, 18, 4035, 4036, 5036, 6036, 7036, 8036, 17002]) hF76 rfl)) (sg_F_m (L := [3, 4, 5, 6, 7, 8, 9, 10, 11, 12, 13, 14, 15, 16, 17, 18, 4035, 4036, 5036, 6036, 7036, 8036, 17002]) hF87 rfl)), Or.inr ⟨((by simp only [pWord, pWordE, he7, h12, h16, hw43_w, h49, h52, he70, h77, ↓reduceIte, Int.reduceEq, reduceCtorEq, or_true, true_or, or_false, false_or, and_true, true_and, and_false, false_and, not_true_eq_false, not_false_eq_true, decide_eq_true_eq, or_self, and_self, ite_self, Int.reduceLE])), (jm_ag hk78 (ag_t (tkq_F hF87 rfl) (ag_r _ _)))⟩⟩
              ·
                refine wk_b tt_191 2 (pc' := 98) (ls' := [(3, .inl (q10)), (0, .inr (.inr (.ref 35))), (1, .inl ((tK c (i)))), (2, .inl (a1))]) (st' := [.inl (41), .inr (.inr (.ref 35))]) (σ' := σ65) rfl ?_
                refine wk_call tt_191 rfl rfl rfl rfl rfl tt_173 rfl (by omega) (pj_exp z σ65 (41) hk72 (by omega)) (fun w88 σ89 hq90 => ?_)
                obtain ⟨rfl, hF91, hj92⟩ := hq90
                refine wk_b tt_191 4 (pc' := 107) (ls' := [(3, .inl (q10)), (0, .inr (.inr (.ref 35))), (1, .inl ((tK c (i)))), (2, .inl (a1))]) (st' := [.inl (q10), .inl (q10), .inr (.inr (.ref 2))]) (σ' := σ89) rfl ?_
                refine wk_call tt_191 rfl rfl rfl rfl rfl tt_206 rfl (by omega) (bp_2 z σ89 (q10) (q10)) (fun w93 σ94 hq95 => ?_)
                obtain ⟨rfl, hF96⟩ := hq95
                refine wk_b tt_191 1 (pc' := 111) (ls' := [(3, .inl (q10)), (0, .inr (.inr (.ref 35))), (1, .inl ((tK c (i)))), (2, .inl (a1))]) (st' := [.inl (q10)]) (σ' := σ94) rfl ?_
                refine wk_rI tt_191 rfl rfl ?_
                exact ⟨_, rfl, (sg_F_t (sg_F_t (sg_F_t (sg_F_t (sg_F_t (sg_F_r [3, 4, 5, 6, 7, 8, 9, 10, 11, 12, 13, 14, 15, 16, 17, 18, 4035, 4036, 5036, 6036, 7036, 8036, 17002] σ) (sg_F_m (L := [3, 4, 5, 6, 7, 8, 9, 10, 11, 12, 13, 14, 15, 16, 17, 18, 4035, 4036, 5036, 6036, 7036, 8036, 17002]) hF4 rfl)) (sg_F_m (L := [3, 4, 5, 6, 7, 8, 9, 10, 11, 12, 13, 14, 15, 16, 17, 18, 4035, 4036, 5036, 6036, 7036, 8036, 17002]) hF48 rfl)) (sg_F_m (L := [3, 4, 5, 6, 7, 8, 9, 10, 11, 12, 13, 14, 15, 16, 17, 18, 4035, 4036, 5036, 6036, 7036, 8036, 17002]) hF67 rfl)) (sg_F_m (L := [3, 4, 5, 6, 7, 8, 9, 10, 11, 12, 13, 14, 15, 16, 17, 18, 4035, 4036, 5036, 6036, 7036, 8036, 17002]) hF91 rfl)) (sg_F_m (L := [3, 4, 5, 6, 7, 8, 9, 10, 11, 12, 13, 14, 15, 16, 17, 18, 4035, 4036, 5036, 6036, 7036, 8036, 17002]) hF96 rfl)), Or.inr ⟨((by simp only [pWord, pWordE, he7, h12, h16, hw43_w, h49, h52, he70, ↓reduceIte, Int.reduceEq, reduceCtorEq, or_true, true_or, or_false, false_or, and_true, true_and, and_false, false_and, not_true_eq_false, not_false_eq_true, decide_eq_true_eq, or_self, and_self, ite_self, Int.reduceLE])), (jm_ag hj92 (ag_t (tkq_F hF96 rfl) (ag_r _ _)))⟩⟩
          ·
            exfalso; omega
        ·
          have hw43_w : w = false := by rw [hw]; exact decide_eq_false (by omega)
          refine wk_if tt_191 (tgt := 69) rfl rfl (by decide) (fun (h : ¬ 0 = 0) => absurd h (by decide)) (fun _ => ?_)
          refine wk_b tt_191 1 (pc' := 68) (ls' := [(3, .inl (q10)), (0, .inr (.inr (.ref 35))), (1, .inl ((tK c (i)))), (2, .inl (a1))]) (st' := [.inl (q10)]) (σ' := σ39) rfl ?_
          refine wk_rI tt_191 rfl rfl ?_
          exact ⟨_, rfl, (sg_F_t (sg_F_t (sg_F_r [3, 4, 5, 6, 7, 8, 9, 10, 11, 12, 13, 14, 15, 16, 17, 18, 4035, 4036, 5036, 6036, 7036, 8036, 17002] σ) (sg_F_m (L := [3, 4, 5, 6, 7, 8, 9, 10, 11, 12, 13, 14, 15, 16, 17, 18, 4035, 4036, 5036, 6036, 7036, 8036, 17002]) hF4 rfl)) (sg_F_m (L := [3, 4, 5, 6, 7, 8, 9, 10, 11, 12, 13, 14, 15, 16, 17, 18, 4035, 4036, 5036, 6036, 7036, 8036, 17002]) hF41 rfl)), Or.inr ⟨((by simp only [pWord, pWordE, he7, h12, h16, hw43_w, Bool.false_eq_true, ↓reduceIte, Int.reduceEq, reduceCtorEq, or_true, true_or, or_false, false_or, and_true, true_and, and_false, false_and, not_true_eq_false, not_false_eq_true, decide_eq_true_eq, or_self, and_self, ite_self, Int.reduceLE])), hj42⟩⟩
    ·
      refine wk_b tt_191 4 (pc' := 21) (ls' := [(3, .inl (q10)), (0, .inr (.inr (.ref 35))), (1, .inl ((tK c (i)))), (2, .inl (a1))]) (st' := [.inl (40), .inl ((sg_g σ2 36 4))]) (σ' := σ2) rfl ?_
      have r98 := tK_r hc (i5)
      rw [show (sg_g σ2 36 4) = (tK c (i5)) from by rw [hk9.2.2.2.2.1]]
      refine wk_if2 tt_191 (tgt := 26) rfl rfl (by omega) (by decide) (fun (h99 : (tK c (i5)) = 40) => ?_) (fun (h99 : ¬ (tK c (i5)) = 40) => ?_)
      ·
        refine wk_b tt_191 2 (pc' := 30) (ls' := [(3, .inl (q10)), (0, .inr (.inr (.ref 35))), (1, .inl ((tK c (i)))), (2, .inl (a1))]) (st' := [.inl (258), .inl ((tK c (i)))]) (σ' := σ2) rfl ?_
        refine wk_if2 tt_191 (tgt := 47) rfl rfl (by omega) (by decide) (fun (h : ¬ (tK c (i)) = 258) => absurd h (by omega)) (fun (h100 : (tK c (i)) = 258) => ?_)
        refine wk_b tt_191 5 (pc' := 44) (ls' := [(3, .inl (q10)), (0, .inr (.inr (.ref 35))), (1, .inl ((tK c (i)))), (2, .inl (a1))]) (st' := [.inl (280), .inl (q10), .inr (.inr (.ref 3))]) (σ' := σ2) rfl ?_
        refine wk_callp (v0 := none) (σ1 := (sx_put σ2 3 200 (q10) (280))) tt_191 rfl rfl rfl rfl rfl tt_21 rfl (by omega) (pt_i0 z σ2 3 200 (q10) (280) rfl (by decide) (by omega)) ?_
        refine wk_b tt_191 4 (pc' := 56) (ls' := [(3, .inl (q10)), (0, .inr (.inr (.ref 35))), (1, .inl ((tK c (i)))), (2, .inl (a1))]) (st' := [.inl (40), .inl ((sg_g (sx_put σ2 3 200 (q10) (280)) 36 4))]) (σ' := (sx_put σ2 3 200 (q10) (280))) rfl ?_
        rw [show (sg_g (sx_put σ2 3 200 (q10) (280)) 36 4) = (tK c (i5)) from by rw [sx_put_c _ _ _ _ _ _ _ (by decide), hk9.2.2.2.2.1]]
        refine wk_if2 tt_191 (tgt := 69) rfl rfl (by omega) (by decide) (fun (h : ¬ (tK c (i5)) = 40) => absurd h (by omega)) (fun (h101 : (tK c (i5)) = 40) => ?_)
        refine wk_b tt_191 2 (pc' := 61) (ls' := [(3, .inl (q10)), (0, .inr (.inr (.ref 35))), (1, .inl ((tK c (i)))), (2, .inl (a1))]) (st' := [.inl (a1), .inr (.inr (.ref 35))]) (σ' := (sx_put σ2 3 200 (q10) (280))) rfl ?_
        refine wk_call tt_191 rfl rfl rfl rfl rfl tt_190 rfl (by omega) (px_wth z (sx_put σ2 3 200 (q10) (280)) (a1) c hc (i5) (tk_ag hk9 (ag_xp (ag_r _ _) rfl _ _ _)) hn) (fun w102 σ103 hq104 => ?_)
        rcases hq104 with ⟨rfl, hw107_e, hw107⟩ | ⟨rfl, hF105, hj106, hw107⟩
        ·
          rw [hw107_e]
          have hw107_w : w = true := by rw [hw]; exact decide_eq_true hw107
          refine wk_if tt_191 (tgt := 69) rfl rfl (by decide) (fun _ => ?_) (fun (h : 1 = 0) => absurd h (by decide))
          refine wk_b tt_191 2 (pc' := 72) (ls' := [(3, .inl (q10)), (0, .inr (.inr (.ref 35))), (1, .inl ((tK c (i)))), (2, .inl (a1))]) (st' := [.inl (40), .inr (.inr (.ref 35))]) (σ' := (sx_put σ2 3 200 (q10) (280))) rfl ?_
          refine wk_call tt_191 rfl rfl rfl rfl rfl tt_173 rfl (by omega) (px_exp z (sx_put σ2 3 200 (q10) (280)) (40) c hc (i5) (tk_ag hk9 (ag_xp (ag_r _ _) rfl _ _ _)) (by omega)) (fun w109 σ110 hq111 => ?_)
          obtain ⟨rfl, hF112, hq111⟩ := hq111
          rcases hq111 with ⟨h113, hk114⟩ | ⟨h113, hk114⟩
          ·
            refine wk_b tt_191 4 (pc' := 84) (ls' := [(3, .inl (q10)), (0, .inr (.inr (.ref 35))), (1, .inl ((tK c (i)))), (2, .inl (a1))]) (st' := [.inl (41), .inl ((sg_g σ110 36 4))]) (σ' := σ110) rfl ?_
            have r115 := tK_r hc (i5 + 1)
            rw [show (sg_g σ110 36 4) = (tK c (i5 + 1)) from by rw [hk114.2.2.2.2.1]]
            refine wk_if2 tt_191 (tgt := 95) rfl rfl (by omega) (by decide) (fun (h116 : (tK c (i5 + 1)) = 41) => ?_) (fun (h116 : ¬ (tK c (i5 + 1)) = 41) => ?_)
            ·
              refine wk_b tt_191 2 (pc' := 98) (ls' := [(3, .inl (q10)), (0, .inr (.inr (.ref 35))), (1, .inl ((tK c (i)))), (2, .inl (a1))]) (st' := [.inl (41), .inr (.inr (.ref 35))]) (σ' := σ110) rfl ?_
              refine wk_call tt_191 rfl rfl rfl rfl rfl tt_173 rfl (by omega) (px_exp z σ110 (41) c hc (i5 + 1) hk114 (by omega)) (fun w117 σ118 hq119 => ?_)
              obtain ⟨rfl, hF120, hq119⟩ := hq119
              rcases hq119 with ⟨h121, hk122⟩ | ⟨h121, hk122⟩
              ·
                refine wk_b tt_191 4 (pc' := 107) (ls' := [(3, .inl (q10)), (0, .inr (.inr (.ref 35))), (1, .inl ((tK c (i)))), (2, .inl (a1))]) (st' := [.inl (q10), .inl (q10), .inr (.inr (.ref 2))]) (σ' := σ118) rfl ?_
                refine wk_call tt_191 rfl rfl rfl rfl rfl tt_206 rfl (by omega) (px_cls z σ118 (q10) (q10) (sx_put τ6 3 200 (q10) (280)) (te_F (te_F (ag_p ht8 _ _ _ _) hF112 rfl) hF120 rfl) (by first | omega | exact sg_Rg _ _ _) (by first | omega | exact sg_Rg _ _ _)) (fun w123 σ124 hq125 => ?_)
                obtain ⟨rfl, hF126, ht127⟩ := hq125
                refine wk_b tt_191 1 (pc' := 111) (ls' := [(3, .inl (q10)), (0, .inr (.inr (.ref 35))), (1, .inl ((tK c (i)))), (2, .inl (a1))]) (st' := [.inl (q10)]) (σ' := σ124) rfl ?_
                refine wk_rI tt_191 rfl rfl ?_
                exact ⟨_, rfl, (sg_F_t (sg_F_t (sg_F_t (sg_F_p (sg_F_t (sg_F_r [3, 4, 5, 6, 7, 8, 9, 10, 11, 12, 13, 14, 15, 16, 17, 18, 4035, 4036, 5036, 6036, 7036, 8036, 17002] σ) (sg_F_m (L := [3, 4, 5, 6, 7, 8, 9, 10, 11, 12, 13, 14, 15, 16, 17, 18, 4035, 4036, 5036, 6036, 7036, 8036, 17002]) hF4 rfl)) rfl _ _ _) (sg_F_m (L := [3, 4, 5, 6, 7, 8, 9, 10, 11, 12, 13, 14, 15, 16, 17, 18, 4035, 4036, 5036, 6036, 7036, 8036, 17002]) hF112 rfl)) (sg_F_m (L := [3, 4, 5, 6, 7, 8, 9, 10, 11, 12, 13, 14, 15, 16, 17, 18, 4035, 4036, 5036, 6036, 7036, 8036, 17002]) hF120 rfl)) (sg_F_m (L := [3, 4, 5, 6, 7, 8, 9, 10, 11, 12, 13, 14, 15, 16, 17, 18, 4035, 4036, 5036, 6036, 7036, 8036, 17002]) hF126 rfl)), Or.inl ⟨_, _, ((by simp only [pWord, pWordE, he7, h12, h99, hw107_w, h113, h116, h121, ↓reduceIte, Int.reduceEq, reduceCtorEq, or_true, true_or, or_false, false_or, and_true, true_and, and_false, false_and, not_true_eq_false, not_false_eq_true, decide_eq_true_eq, or_self, and_self, ite_self, Int.reduceLE])), (by first | omega | exact sg_Rg _ _ _ | decide), ht127, (tk_ag hk122 (ag_t (tkq_F hF126 rfl) (ag_r _ _)))⟩⟩
              ·
                exfalso; omega
            ·
              refine wk_b tt_191 5 (pc' := 92) (ls' := [(3, .inl (q10)), (0, .inr (.inr (.ref 35))), (1, .inl ((tK c (i)))), (2, .inl (a1))]) (st' := [.inl ((a1 + 1)), .inl (q10), .inr (.inr (.ref 35))]) (σ' := σ110) rfl ?_
              refine wk_call tt_191 rfl rfl rfl rfl rfl tt_180 rfl (by omega) (hL (by omega) z σ110 (q10) (i5 + 1) (sx_put τ6 3 200 (q10) (280)) (te_F (ag_p ht8 _ _ _ _) hF112 rfl) hk114 (by omega)) (fun w128 σ129 hq130 => ?_)
              obtain ⟨rfl, hF131, hq130⟩ := hq130
              rcases hq130 with ⟨i132, τ133, he134, ht135, hk136⟩ | ⟨he134, hk136⟩
              ·
                refine wk_b tt_191 2 (pc' := 98) (ls' := [(3, .inl (q10)), (0, .inr (.inr (.ref 35))), (1, .inl ((tK c (i)))), (2, .inl (a1))]) (st' := [.inl (41), .inr (.inr (.ref 35))]) (σ' := σ129) rfl ?_
                refine wk_call tt_191 rfl rfl rfl rfl rfl tt_173 rfl (by omega) (px_exp z σ129 (41) c hc (i132) hk136 (by omega)) (fun w137 σ138 hq139 => ?_)
                obtain ⟨rfl, hF140, hq139⟩ := hq139
                rcases hq139 with ⟨h141, hk142⟩ | ⟨h141, hk142⟩
                ·
                  refine wk_b tt_191 4 (pc' := 107) (ls' := [(3, .inl (q10)), (0, .inr (.inr (.ref 35))), (1, .inl ((tK c (i)))), (2, .inl (a1))]) (st' := [.inl (q10), .inl (q10), .inr (.inr (.ref 2))]) (σ' := σ138) rfl ?_
                  refine wk_call tt_191 rfl rfl rfl rfl rfl tt_206 rfl (by omega) (px_cls z σ138 (q10) (q10) τ133 (te_F ht135 hF140 rfl) (by first | omega | exact sg_Rg _ _ _) (by first | omega | exact sg_Rg _ _ _)) (fun w143 σ144 hq145 => ?_)
                  obtain ⟨rfl, hF146, ht147⟩ := hq145
                  refine wk_b tt_191 1 (pc' := 111) (ls' := [(3, .inl (q10)), (0, .inr (.inr (.ref 35))), (1, .inl ((tK c (i)))), (2, .inl (a1))]) (st' := [.inl (q10)]) (σ' := σ144) rfl ?_
                  refine wk_rI tt_191 rfl rfl ?_
                  exact ⟨_, rfl, (sg_F_t (sg_F_t (sg_F_t (sg_F_t (sg_F_p (sg_F_t (sg_F_r [3, 4, 5, 6, 7, 8, 9, 10, 11, 12, 13, 14, 15, 16, 17, 18, 4035, 4036, 5036, 6036, 7036, 8036, 17002] σ) (sg_F_m (L := [3, 4, 5, 6, 7, 8, 9, 10, 11, 12, 13, 14, 15, 16, 17, 18, 4035, 4036, 5036, 6036, 7036, 8036, 17002]) hF4 rfl)) rfl _ _ _) (sg_F_m (L := [3, 4, 5, 6, 7, 8, 9, 10, 11, 12, 13, 14, 15, 16, 17, 18, 4035, 4036, 5036, 6036, 7036, 8036, 17002]) hF112 rfl)) (sg_F_m (L := [3, 4, 5, 6, 7, 8, 9, 10, 11, 12, 13, 14, 15, 16, 17, 18, 4035, 4036, 5036, 6036, 7036, 8036, 17002]) hF131 rfl)) (sg_F_m (L := [3, 4, 5, 6, 7, 8, 9, 10, 11, 12, 13, 14, 15, 16, 17, 18, 4035, 4036, 5036, 6036, 7036, 8036, 17002]) hF140 rfl)) (sg_F_m (L := [3, 4, 5, 6, 7, 8, 9, 10, 11, 12, 13, 14, 15, 16, 17, 18, 4035, 4036, 5036, 6036, 7036, 8036, 17002]) hF146 rfl)), Or.inl ⟨_, _, ((by simp only [pWord, pWordE, he7, h12, h99, hw107_w, h113, h116, he134, h141, ↓reduceIte, Int.reduceEq, reduceCtorEq, or_true, true_or, or_false, false_or, and_true, true_and, and_false, false_and, not_true_eq_false, not_false_eq_true, decide_eq_true_eq, or_self, and_self, ite_self, Int.reduceLE])), (by first | omega | exact sg_Rg _ _ _ | decide), ht147, (tk_ag hk142 (ag_t (tkq_F hF146 rfl) (ag_r _ _)))⟩⟩
                ·
                  refine wk_b tt_191 4 (pc' := 107) (ls' := [(3, .inl (q10)), (0, .inr (.inr (.ref 35))), (1, .inl ((tK c (i)))), (2, .inl (a1))]) (st' := [.inl (q10), .inl (q10), .inr (.inr (.ref 2))]) (σ' := σ138) rfl ?_
                  refine wk_call tt_191 rfl rfl rfl rfl rfl tt_206 rfl (by omega) (bp_2 z σ138 (q10) (q10)) (fun w148 σ149 hq150 => ?_)
                  obtain ⟨rfl, hF151⟩ := hq150
                  refine wk_b tt_191 1 (pc' := 111) (ls' := [(3, .inl (q10)), (0, .inr (.inr (.ref 35))), (1, .inl ((tK c (i)))), (2, .inl (a1))]) (st' := [.inl (q10)]) (σ' := σ149) rfl ?_
                  refine wk_rI tt_191 rfl rfl ?_
                  exact ⟨_, rfl, (sg_F_t (sg_F_t (sg_F_t (sg_F_t (sg_F_p (sg_F_t (sg_F_r [3, 4, 5, 6, 7, 8, 9, 10, 11, 12, 13, 14, 15, 16, 17, 18, 4035, 4036, 5036, 6036, 7036, 8036, 17002] σ) (sg_F_m (L := [3, 4, 5, 6, 7, 8, 9, 10, 11, 12, 13, 14, 15, 16, 17, 18, 4035, 4036, 5036, 6036, 7036, 8036, 17002]) hF4 rfl)) rfl _ _ _) (sg_F_m (L := [3, 4, 5, 6, 7, 8, 9, 10, 11, 12, 13, 14, 15, 16, 17, 18, 4035, 4036, 5036, 6036, 7036, 8036, 17002]) hF112 rfl)) (sg_F_m (L := [3, 4, 5, 6, 7, 8, 9, 10, 11, 12, 13, 14, 15, 16, 17, 18, 4035, 4036, 5036, 6036, 7036, 8036, 17002]) hF131 rfl)) (sg_F_m (L := [3, 4, 5, 6, 7, 8, 9, 10, 11, 12, 13, 14, 15, 16, 17, 18, 4035, 4036, 5036, 6036, 7036, 8036, 17002]) hF140 rfl)) (sg_F_m (L := [3, 4, 5, 6, 7, 8, 9, 10, 11, 12, 13, 14, 15, 16, 17, 18, 4035, 4036, 5036, 6036, 7036, 8036, 17002]) hF151 rfl)), Or.inr ⟨((by simp only [pWord, pWordE, he7, h12, h99, hw107_w, h113, h116, he134, h141, ↓reduceIte, Int.reduceEq, reduceCtorEq, or_true, true_or, or_false, false_or, and_true, true_and, and_false, false_and, not_true_eq_false, not_false_eq_true, decide_eq_true_eq, or_self, and_self, ite_self, Int.reduceLE])), (jm_ag hk142 (ag_t (tkq_F hF151 rfl) (ag_r _ _)))⟩⟩
              ·
                refine wk_b tt_191 2 (pc' := 98) (ls' := [(3, .inl (q10)), (0, .inr (.inr (.ref 35))), (1, .inl ((tK c (i)))), (2, .inl (a1))]) (st' := [.inl (41), .inr (.inr (.ref 35))]) (σ' := σ129) rfl ?_
                refine wk_call tt_191 rfl rfl rfl rfl rfl tt_173 rfl (by omega) (pj_exp z σ129 (41) hk136 (by omega)) (fun w152 σ153 hq154 => ?_)
                obtain ⟨rfl, hF155, hj156⟩ := hq154
                refine wk_b tt_191 4 (pc' := 107) (ls' := [(3, .inl (q10)), (0, .inr (.inr (.ref 35))), (1, .inl ((tK c (i)))), (2, .inl (a1))]) (st' := [.inl (q10), .inl (q10), .inr (.inr (.ref 2))]) (σ' := σ153) rfl ?_
                refine wk_call tt_191 rfl rfl rfl rfl rfl tt_206 rfl (by omega) (bp_2 z σ153 (q10) (q10)) (fun w157 σ158 hq159 => ?_)
                obtain ⟨rfl, hF160⟩ := hq159
                refine wk_b tt_191 1 (pc' := 111) (ls' := [(3, .inl (q10)), (0, .inr (.inr (.ref 35))), (1, .inl ((tK c (i)))), (2, .inl (a1))]) (st' := [.inl (q10)]) (σ' := σ158) rfl ?_
                refine wk_rI tt_191 rfl rfl ?_
                exact ⟨_, rfl, (sg_F_t (sg_F_t (sg_F_t (sg_F_t (sg_F_p (sg_F_t (sg_F_r [3, 4, 5, 6, 7, 8, 9, 10, 11, 12, 13, 14, 15, 16, 17, 18, 4035, 4036, 5036, 6036, 7036, 8036, 17002] σ) (sg_F_m (L := [3, 4, 5, 6, 7, 8, 9, 10, 11, 12, 13, 14, 15, 16, 17, 18, 4035, 4036, 5036, 6036, 7036, 8036, 17002]) hF4 rfl)) rfl _ _ _) (sg_F_m (L := [3, 4, 5, 6, 7, 8, 9, 10, 11, 12, 13, 14, 15, 16, 17, 18, 4035, 4036, 5036, 6036, 7036, 8036, 17002]) hF112 rfl)) (sg_F_m (L := [3, 4, 5, 6, 7, 8, 9, 10, 11, 12, 13, 14, 15, 16, 17, 18, 4035, 4036, 5036, 6036, 7036, 8036, 17002]) hF131 rfl)) (sg_F_m (L := [3, 4, 5, 6, 7, 8, 9, 10, 11, 12, 13, 14, 15, 16, 17, 18, 4035, 4036, 5036, 6036, 7036, 8036, 17002]) hF155 rfl)) (sg_F_m (L := [3, 4, 5, 6, 7, 8, 9, 10, 11, 12, 13, 14, 15, 16, 17, 18, 4035, 4036, 5036, 6036, 7036, 8036, 17002]) hF160 rfl)), Or.inr ⟨((by simp only [pWord, pWordE, he7, h12, h99, hw107_w, h113, h116, he134, ↓reduceIte, Int.reduceEq, reduceCtorEq, or_true, true_or, or_false, false_or, and_true, true_and, and_false, false_and, not_true_eq_false, not_false_eq_true, decide_eq_true_eq, or_self, and_self, ite_self, Int.reduceLE])), (jm_ag hj156 (ag_t (tkq_F hF160 rfl) (ag_r _ _)))⟩⟩
          ·
            exfalso; omega
        ·
          have hw107_w : w = false := by rw [hw]; exact decide_eq_false (by omega)
          refine wk_if tt_191 (tgt := 69) rfl rfl (by decide) (fun (h : ¬ 0 = 0) => absurd h (by decide)) (fun _ => ?_)
          refine wk_b tt_191 1 (pc' := 68) (ls' := [(3, .inl (q10)), (0, .inr (.inr (.ref 35))), (1, .inl ((tK c (i)))), (2, .inl (a1))]) (st' := [.inl (q10)]) (σ' := σ103) rfl ?_
          refine wk_rI tt_191 rfl rfl ?_
          exact ⟨_, rfl, (sg_F_t (sg_F_p (sg_F_t (sg_F_r [3, 4, 5, 6, 7, 8, 9, 10, 11, 12, 13, 14, 15, 16, 17, 18, 4035, 4036, 5036, 6036, 7036, 8036, 17002] σ) (sg_F_m (L := [3, 4, 5, 6, 7, 8, 9, 10, 11, 12, 13, 14, 15, 16, 17, 18, 4035, 4036, 5036, 6036, 7036, 8036, 17002]) hF4 rfl)) rfl _ _ _) (sg_F_m (L := [3, 4, 5, 6, 7, 8, 9, 10, 11, 12, 13, 14, 15, 16, 17, 18, 4035, 4036, 5036, 6036, 7036, 8036, 17002]) hF105 rfl)), Or.inr ⟨((by simp only [pWord, pWordE, he7, h12, h99, hw107_w, Bool.false_eq_true, ↓reduceIte, Int.reduceEq, reduceCtorEq, or_true, true_or, or_false, false_or, and_true, true_and, and_false, false_and, not_true_eq_false, not_false_eq_true, decide_eq_true_eq, or_self, and_self, ite_self, Int.reduceLE])), hj106⟩⟩
      ·
        refine wk_b tt_191 1 (pc' := 25) (ls' := [(3, .inl (q10)), (0, .inr (.inr (.ref 35))), (1, .inl ((tK c (i)))), (2, .inl (a1))]) (st' := [.inl (q10)]) (σ' := σ2) rfl ?_
        refine wk_rI tt_191 rfl rfl ?_
        exact ⟨_, rfl, (sg_F_t (sg_F_r [3, 4, 5, 6, 7, 8, 9, 10, 11, 12, 13, 14, 15, 16, 17, 18, 4035, 4036, 5036, 6036, 7036, 8036, 17002] σ) (sg_F_m (L := [3, 4, 5, 6, 7, 8, 9, 10, 11, 12, 13, 14, 15, 16, 17, 18, 4035, 4036, 5036, 6036, 7036, 8036, 17002]) hF4 rfl)), Or.inl ⟨_, _, ((by simp only [pWord, pWordE, he7, h12, h99, ↓reduceIte, Int.reduceEq, reduceCtorEq, or_true, true_or, or_false, false_or, and_true, true_and, and_false, false_and, not_true_eq_false, not_false_eq_true, decide_eq_true_eq, or_self, and_self, ite_self, Int.reduceLE])), (by first | omega | exact sg_Rg _ _ _ | decide), ht8, hk9⟩⟩
  ·
    refine wk_b tt_191 3 (pc' := 9) (ls' := [(3, .inl (q10)), (0, .inr (.inr (.ref 35))), (1, .inl ((tK c (i)))), (2, .inl (a1))]) (st' := [.inl (258), .inl ((tK c (i)))]) (σ' := σ2) rfl ?_
    have r163 := tK_r hc (i)
    refine wk_if2 tt_191 (tgt := 26) rfl rfl (by omega) (by decide) (fun (h162 : ¬ (tK c (i)) = 258) => ?_) (fun (h162 : (tK c (i)) = 258) => ?_)
    ·
      refine wk_b tt_191 2 (pc' := 30) (ls' := [(3, .inl (q10)), (0, .inr (.inr (.ref 35))), (1, .inl ((tK c (i)))), (2, .inl (a1))]) (st' := [.inl (258), .inl ((tK c (i)))]) (σ' := σ2) rfl ?_
      refine wk_if2 tt_191 (tgt := 47) rfl rfl (by omega) (by decide) (fun (h164 : ¬ (tK c (i)) = 258) => ?_) (fun (h : (tK c (i)) = 258) => absurd h (by omega))
      refine wk_b tt_191 4 (pc' := 56) (ls' := [(3, .inl (q10)), (0, .inr (.inr (.ref 35))), (1, .inl ((tK c (i)))), (2, .inl (a1))]) (st' := [.inl (40), .inl ((sg_g σ2 36 4))]) (σ' := σ2) rfl ?_
      rw [show (sg_g σ2 36 4) = 260 from by rw [hk9.1]]
      refine wk_if2 tt_191 (tgt := 69) rfl rfl (by decide) (by decide) (fun _ => ?_) (fun (h : 260 = 40) => absurd h (by decide))
      refine wk_b tt_191 2 (pc' := 72) (ls' := [(3, .inl (q10)), (0, .inr (.inr (.ref 35))), (1, .inl ((tK c (i)))), (2, .inl (a1))]) (st' := [.inl (40), .inr (.inr (.ref 35))]) (σ' := σ2) rfl ?_
      refine wk_call tt_191 rfl rfl rfl rfl rfl tt_173 rfl (by omega) (pj_exp z σ2 (40) hk9 (by omega)) (fun w166 σ167 hq168 => ?_)
      obtain ⟨rfl, hF169, hj170⟩ := hq168
      refine wk_b tt_191 4 (pc' := 84) (ls' := [(3, .inl (q10)), (0, .inr (.inr (.ref 35))), (1, .inl ((tK c (i)))), (2, .inl (a1))]) (st' := [.inl (41), .inl ((sg_g σ167 36 4))]) (σ' := σ167) rfl ?_
      rw [show (sg_g σ167 36 4) = 260 from by rw [hj170.1]]
      refine wk_if2 tt_191 (tgt := 95) rfl rfl (by decide) (by decide) (fun (h : 260 = 41) => absurd h (by decide)) (fun _ => ?_)
      refine wk_b tt_191 5 (pc' := 92) (ls' := [(3, .inl (q10)), (0, .inr (.inr (.ref 35))), (1, .inl ((tK c (i)))), (2, .inl (a1))]) (st' := [.inl ((a1 + 1)), .inl (q10), .inr (.inr (.ref 35))]) (σ' := σ167) rfl ?_
      refine wk_call tt_191 rfl rfl rfl rfl rfl tt_180 rfl (by omega) (pj_list z σ167 (q10) ((a1 + 1)) hj170) (fun w172 σ173 hq174 => ?_)
      obtain ⟨rfl, hF175, hj176⟩ := hq174
      refine wk_b tt_191 2 (pc' := 98) (ls' := [(3, .inl (q10)), (0, .inr (.inr (.ref 35))), (1, .inl ((tK c (i)))), (2, .inl (a1))]) (st' := [.inl (41), .inr (.inr (.ref 35))]) (σ' := σ173) rfl ?_
      refine wk_call tt_191 rfl rfl rfl rfl rfl tt_173 rfl (by omega) (pj_exp z σ173 (41) hj176 (by omega)) (fun w177 σ178 hq179 => ?_)
      obtain ⟨rfl, hF180, hj181⟩ := hq179
      refine wk_b tt_191 4 (pc' := 107) (ls' := [(3, .inl (q10)), (0, .inr (.inr (.ref 35))), (1, .inl ((tK c (i)))), (2, .inl (a1))]) (st' := [.inl (q10), .inl (q10), .inr (.inr (.ref 2))]) (σ' := σ178) rfl ?_
      refine wk_call tt_191 rfl rfl rfl rfl rfl tt_206 rfl (by omega) (bp_2 z σ178 (q10) (q10)) (fun w182 σ183 hq184 => ?_)
      obtain ⟨rfl, hF185⟩ := hq184
      refine wk_b tt_191 1 (pc' := 111) (ls' := [(3, .inl (q10)), (0, .inr (.inr (.ref 35))), (1, .inl ((tK c (i)))), (2, .inl (a1))]) (st' := [.inl (q10)]) (σ' := σ183) rfl ?_
      refine wk_rI tt_191 rfl rfl ?_
      exact ⟨_, rfl, (sg_F_t (sg_F_t (sg_F_t (sg_F_t (sg_F_t (sg_F_r [3, 4, 5, 6, 7, 8, 9, 10, 11, 12, 13, 14, 15, 16, 17, 18, 4035, 4036, 5036, 6036, 7036, 8036, 17002] σ) (sg_F_m (L := [3, 4, 5, 6, 7, 8, 9, 10, 11, 12, 13, 14, 15, 16, 17, 18, 4035, 4036, 5036, 6036, 7036, 8036, 17002]) hF4 rfl)) (sg_F_m (L := [3, 4, 5, 6, 7, 8, 9, 10, 11, 12, 13, 14, 15, 16, 17, 18, 4035, 4036, 5036, 6036, 7036, 8036, 17002]) hF169 rfl)) (sg_F_m (L := [3, 4, 5, 6, 7, 8, 9, 10, 11, 12, 13, 14, 15, 16, 17, 18, 4035, 4036, 5036, 6036, 7036, 8036, 17002]) hF175 rfl)) (sg_F_m (L := [3, 4, 5, 6, 7, 8, 9, 10, 11, 12, 13, 14, 15, 16, 17, 18, 4035, 4036, 5036, 6036, 7036, 8036, 17002]) hF180 rfl)) (sg_F_m (L := [3, 4, 5, 6, 7, 8, 9, 10, 11, 12, 13, 14, 15, 16, 17, 18, 4035, 4036, 5036, 6036, 7036, 8036, 17002]) hF185 rfl)), Or.inr ⟨((by simp only [pWord, pWordE, he7, h162, ↓reduceIte, Int.reduceEq, reduceCtorEq, or_true, true_or, or_false, false_or, and_true, true_and, and_false, false_and, not_true_eq_false, not_false_eq_true, decide_eq_true_eq, or_self, and_self, ite_self, Int.reduceLE])), (jm_ag hj181 (ag_t (tkq_F hF185 rfl) (ag_r _ _)))⟩⟩
    ·
      refine wk_b tt_191 4 (pc' := 21) (ls' := [(3, .inl (q10)), (0, .inr (.inr (.ref 35))), (1, .inl ((tK c (i)))), (2, .inl (a1))]) (st' := [.inl (40), .inl ((sg_g σ2 36 4))]) (σ' := σ2) rfl ?_
      rw [show (sg_g σ2 36 4) = 260 from by rw [hk9.1]]
      refine wk_if2 tt_191 (tgt := 26) rfl rfl (by decide) (by decide) (fun (h : 260 = 40) => absurd h (by decide)) (fun _ => ?_)
      refine wk_b tt_191 1 (pc' := 25) (ls' := [(3, .inl (q10)), (0, .inr (.inr (.ref 35))), (1, .inl ((tK c (i)))), (2, .inl (a1))]) (st' := [.inl (q10)]) (σ' := σ2) rfl ?_
      refine wk_rI tt_191 rfl rfl ?_
      exact ⟨_, rfl, (sg_F_t (sg_F_r [3, 4, 5, 6, 7, 8, 9, 10, 11, 12, 13, 14, 15, 16, 17, 18, 4035, 4036, 5036, 6036, 7036, 8036, 17002] σ) (sg_F_m (L := [3, 4, 5, 6, 7, 8, 9, 10, 11, 12, 13, 14, 15, 16, 17, 18, 4035, 4036, 5036, 6036, 7036, 8036, 17002]) hF4 rfl)), Or.inr ⟨((by simp only [pWord, pWordE, he7, h162, ↓reduceIte, Int.reduceEq, reduceCtorEq, or_true, true_or, or_false, false_or, and_true, true_and, and_false, false_and, not_true_eq_false, not_false_eq_true, decide_eq_true_eq, or_self, and_self, ite_self, Int.reduceLE])), hk9⟩⟩
-- NestedVectors$Parser.row
set_option maxRecDepth 8000 in
theorem px_row (c : tkC) (hc : tkOK c) (d : Nat) (a1 : Int) (hn : 0 ≤ a1 ∧ a1 ≤ 12) (E : pF) (hL : cL c d 180 (a1 + 1) (fun k i τ => pListL c E k 201 i τ)) : cE c (d + 10) 185 a1 (fun k => k = 91) (pRw c E) := by
  intro z σ i τ ht hk hp
  refine wk_b tt_185 1 (pc' := 1) (ls' := [(0, .inr (.inr (.ref 35))), (1, .inl (a1))]) (st' := [.inr (.inr (.ref 35))]) (σ' := σ) rfl ?_
  refine wk_call tt_185 rfl rfl rfl rfl rfl tt_171 rfl (by omega) (px_crt z σ c hc (i) τ ht hk (by omega)) (fun w1 σ2 hq3 => ?_)
  obtain ⟨q10, rfl, hF4, hq3⟩ := hq3
  rcases hq3 with ⟨i5, τ6, he7, rq11, ht8, hk9⟩ | ⟨he7, hk9⟩
  ·
    refine wk_b tt_185 6 (pc' := 16) (ls' := [(2, .inl (q10)), (0, .inr (.inr (.ref 35))), (1, .inl (a1))]) (st' := [.inl (279), .inl (q10), .inr (.inr (.ref 3))]) (σ' := σ2) rfl ?_
    refine wk_callp (v0 := none) (σ1 := (sx_put σ2 3 200 (q10) (279))) tt_185 rfl rfl rfl rfl rfl tt_21 rfl (by omega) (pt_i0 z σ2 3 200 (q10) (279) rfl (by decide) (by omega)) ?_
    refine wk_b tt_185 5 (pc' := 24) (ls' := [(2, .inl (q10)), (0, .inr (.inr (.ref 35))), (1, .inl (a1))]) (st' := [.inl ((a1 + 1)), .inl (q10), .inr (.inr (.ref 35))]) (σ' := (sx_put σ2 3 200 (q10) (279))) rfl ?_
    refine wk_call tt_185 rfl rfl rfl rfl rfl tt_180 rfl (by omega) (hL z (sx_put σ2 3 200 (q10) (279)) (q10) (i5) (sx_put τ6 3 200 (q10) (279)) (ag_p ht8 _ _ _ _) (tk_ag hk9 (ag_xp (ag_r _ _) rfl _ _ _)) (by omega)) (fun w12 σ13 hq14 => ?_)
    obtain ⟨rfl, hF15, hq14⟩ := hq14
    rcases hq14 with ⟨i16, τ17, he18, ht19, hk20⟩ | ⟨he18, hk20⟩
    ·
      refine wk_b tt_185 2 (pc' := 30) (ls' := [(2, .inl (q10)), (0, .inr (.inr (.ref 35))), (1, .inl (a1))]) (st' := [.inl (93), .inr (.inr (.ref 35))]) (σ' := σ13) rfl ?_
      refine wk_call tt_185 rfl rfl rfl rfl rfl tt_173 rfl (by omega) (px_exp z σ13 (93) c hc (i16) hk20 (by omega)) (fun w21 σ22 hq23 => ?_)
      obtain ⟨rfl, hF24, hq23⟩ := hq23
      rcases hq23 with ⟨h25, hk26⟩ | ⟨h25, hk26⟩
      ·
        refine wk_b tt_185 4 (pc' := 39) (ls' := [(2, .inl (q10)), (0, .inr (.inr (.ref 35))), (1, .inl (a1))]) (st' := [.inl (q10), .inl (q10), .inr (.inr (.ref 2))]) (σ' := σ22) rfl ?_
        refine wk_call tt_185 rfl rfl rfl rfl rfl tt_206 rfl (by omega) (px_cls z σ22 (q10) (q10) τ17 (te_F ht19 hF24 rfl) (by first | omega | exact sg_Rg _ _ _) (by first | omega | exact sg_Rg _ _ _)) (fun w27 σ28 hq29 => ?_)
        obtain ⟨rfl, hF30, ht31⟩ := hq29
        refine wk_b tt_185 1 (pc' := 43) (ls' := [(2, .inl (q10)), (0, .inr (.inr (.ref 35))), (1, .inl (a1))]) (st' := [.inl (q10)]) (σ' := σ28) rfl ?_
        refine wk_rI tt_185 rfl rfl ?_
        exact ⟨_, rfl, (sg_F_t (sg_F_t (sg_F_t (sg_F_p (sg_F_t (sg_F_r [3, 4, 5, 6, 7, 8, 9, 10, 11, 12, 13, 14, 15, 16, 17, 18, 4035, 4036, 5036, 6036, 7036, 8036, 17002] σ) (sg_F_m (L := [3, 4, 5, 6, 7, 8, 9, 10, 11, 12, 13, 14, 15, 16, 17, 18, 4035, 4036, 5036, 6036, 7036, 8036, 17002]) hF4 rfl)) rfl _ _ _) (sg_F_m (L := [3, 4, 5, 6, 7, 8, 9, 10, 11, 12, 13, 14, 15, 16, 17, 18, 4035, 4036, 5036, 6036, 7036, 8036, 17002]) hF15 rfl)) (sg_F_m (L := [3, 4, 5, 6, 7, 8, 9, 10, 11, 12, 13, 14, 15, 16, 17, 18, 4035, 4036, 5036, 6036, 7036, 8036, 17002]) hF24 rfl)) (sg_F_m (L := [3, 4, 5, 6, 7, 8, 9, 10, 11, 12, 13, 14, 15, 16, 17, 18, 4035, 4036, 5036, 6036, 7036, 8036, 17002]) hF30 rfl)), Or.inl ⟨_, _, ((by simp only [pRw, he7, he18, h25, ↓reduceIte, Int.reduceEq, reduceCtorEq, or_true, true_or, or_false, false_or, and_true, true_and, and_false, false_and, not_true_eq_false, not_false_eq_true, decide_eq_true_eq, or_self, and_self, ite_self, Int.reduceLE])), (by first | omega | exact sg_Rg _ _ _ | decide), ht31, (tk_ag hk26 (ag_t (tkq_F hF30 rfl) (ag_r _ _)))⟩⟩
      ·
        refine wk_b tt_185 4 (pc' := 39) (ls' := [(2, .inl (q10)), (0, .inr (.inr (.ref 35))), (1, .inl (a1))]) (st' := [.inl (q10), .inl (q10), .inr (.inr (.ref 2))]) (σ' := σ22) rfl ?_
        refine wk_call tt_185 rfl rfl rfl rfl rfl tt_206 rfl (by omega) (bp_2 z σ22 (q10) (q10)) (fun w32 σ33 hq34 => ?_)
        obtain ⟨rfl, hF35⟩ := hq34
        refine wk_b tt_185 1 (pc' := 43) (ls' := [(2, .inl (q10)), (0, .inr (.inr (.ref 35))), (1, .inl (a1))]) (st' := [.inl (q10)]) (σ' := σ33) rfl ?_
        refine wk_rI tt_185 rfl rfl ?_
        exact ⟨_, rfl, (sg_F_t (sg_F_t (sg_F_t (sg_F_p (sg_F_t (sg_F_r [3, 4, 5, 6, 7, 8, 9, 10, 11, 12, 13, 14, 15, 16, 17, 18, 4035, 4036, 5036, 6036, 7036, 8036, 17002] σ) (sg_F_m (L := [3, 4, 5, 6, 7, 8, 9, 10, 11, 12, 13, 14, 15, 16, 17, 18, 4035, 4036, 5036, 6036, 7036, 8036, 17002]) hF4 rfl)) rfl _ _ _) (sg_F_m (L := [3, 4, 5, 6, 7, 8, 9, 10, 11, 12, 13, 14, 15, 16, 17, 18, 4035, 4036, 5036, 6036, 7036, 8036, 17002]) hF15 rfl)) (sg_F_m (L := [3, 4, 5, 6, 7, 8, 9, 10, 11, 12, 13, 14, 15, 16, 17, 18, 4035, 4036, 5036, 6036, 7036, 8036, 17002]) hF24 rfl)) (sg_F_m (L := [3, 4, 5, 6, 7, 8, 9, 10, 11, 12, 13, 14, 15, 16, 17, 18, 4035, 4036, 5036, 6036, 7036, 8036, 17002]) hF35 rfl)), Or.inr ⟨((by simp only [pRw, he7, he18, h25, ↓reduceIte, Int.reduceEq, reduceCtorEq, or_true, true_or, or_false, false_or, and_true, true_and, and_false, false_and, not_true_eq_false, not_false_eq_true, decide_eq_true_eq, or_self, and_self, ite_self, Int.reduceLE])), (jm_ag hk26 (ag_t (tkq_F hF35 rfl) (ag_r _ _)))⟩⟩
    ·
      refine wk_b tt_185 2 (pc' := 30) (ls' := [(2, .inl (q10)), (0, .inr (.inr (.ref 35))), (1, .inl (a1))]) (st' := [.inl (93), .inr (.inr (.ref 35))]) (σ' := σ13) rfl ?_
      refine wk_call tt_185 rfl rfl rfl rfl rfl tt_173 rfl (by omega) (pj_exp z σ13 (93) hk20 (by omega)) (fun w36 σ37 hq38 => ?_)
      obtain ⟨rfl, hF39, hj40⟩ := hq38
      refine wk_b tt_185 4 (pc' := 39) (ls' := [(2, .inl (q10)), (0, .inr (.inr (.ref 35))), (1, .inl (a1))]) (st' := [.inl (q10), .inl (q10), .inr (.inr (.ref 2))]) (σ' := σ37) rfl ?_
      refine wk_call tt_185 rfl rfl rfl rfl rfl tt_206 rfl (by omega) (bp_2 z σ37 (q10) (q10)) (fun w41 σ42 hq43 => ?_)
      obtain ⟨rfl, hF44⟩ := hq43
      refine wk_b tt_185 1 (pc' := 43) (ls' := [(2, .inl (q10)), (0, .inr (.inr (.ref 35))), (1, .inl (a1))]) (st' := [.inl (q10)]) (σ' := σ42) rfl ?_
      refine wk_rI tt_185 rfl rfl ?_
      exact ⟨_, rfl, (sg_F_t (sg_F_t (sg_F_t (sg_F_p (sg_F_t (sg_F_r [3, 4, 5, 6, 7, 8, 9, 10, 11, 12, 13, 14, 15, 16, 17, 18, 4035, 4036, 5036, 6036, 7036, 8036, 17002] σ) (sg_F_m (L := [3, 4, 5, 6, 7, 8, 9, 10, 11, 12, 13, 14, 15, 16, 17, 18, 4035, 4036, 5036, 6036, 7036, 8036, 17002]) hF4 rfl)) rfl _ _ _) (sg_F_m (L := [3, 4, 5, 6, 7, 8, 9, 10, 11, 12, 13, 14, 15, 16, 17, 18, 4035, 4036, 5036, 6036, 7036, 8036, 17002]) hF15 rfl)) (sg_F_m (L := [3, 4, 5, 6, 7, 8, 9, 10, 11, 12, 13, 14, 15, 16, 17, 18, 4035, 4036, 5036, 6036, 7036, 8036, 17002]) hF39 rfl)) (sg_F_m (L := [3, 4, 5, 6, 7, 8, 9, 10, 11, 12, 13, 14, 15, 16, 17, 18, 4035, 4036, 5036, 6036, 7036, 8036, 17002]) hF44 rfl)), Or.inr ⟨((by simp only [pRw, he7, he18, ↓reduceIte, Int.reduceEq, reduceCtorEq, or_true, true_or, or_false, false_or, and_true, true_and, and_false, false_and, not_true_eq_false, not_false_eq_true, decide_eq_true_eq, or_self, and_self, ite_self, Int.reduceLE])), (jm_ag hj40 (ag_t (tkq_F hF44 rfl) (ag_r _ _)))⟩⟩
  ·
    refine wk_b tt_185 6 (pc' := 16) (ls' := [(2, .inl (q10)), (0, .inr (.inr (.ref 35))), (1, .inl (a1))]) (st' := [.inl (279), .inl (q10), .inr (.inr (.ref 3))]) (σ' := σ2) rfl ?_
    refine wk_callp (v0 := none) (σ1 := (sx_put σ2 3 200 (sg_n (q10)) (279))) tt_185 rfl rfl rfl rfl rfl tt_21 rfl (by omega) (pt_i z σ2 3 200 (q10) (279) rfl (by decide)) ?_
    refine wk_b tt_185 5 (pc' := 24) (ls' := [(2, .inl (q10)), (0, .inr (.inr (.ref 35))), (1, .inl (a1))]) (st' := [.inl ((a1 + 1)), .inl (q10), .inr (.inr (.ref 35))]) (σ' := (sx_put σ2 3 200 (sg_n (q10)) (279))) rfl ?_
    refine wk_call tt_185 rfl rfl rfl rfl rfl tt_180 rfl (by omega) (pj_list z (sx_put σ2 3 200 (sg_n (q10)) (279)) (q10) ((a1 + 1)) (jm_ag hk9 (ag_xp (ag_r _ _) rfl _ _ _))) (fun w45 σ46 hq47 => ?_)
    obtain ⟨rfl, hF48, hj49⟩ := hq47
    refine wk_b tt_185 2 (pc' := 30) (ls' := [(2, .inl (q10)), (0, .inr (.inr (.ref 35))), (1, .inl (a1))]) (st' := [.inl (93), .inr (.inr (.ref 35))]) (σ' := σ46) rfl ?_
    refine wk_call tt_185 rfl rfl rfl rfl rfl tt_173 rfl (by omega) (pj_exp z σ46 (93) hj49 (by omega)) (fun w50 σ51 hq52 => ?_)
    obtain ⟨rfl, hF53, hj54⟩ := hq52
    refine wk_b tt_185 4 (pc' := 39) (ls' := [(2, .inl (q10)), (0, .inr (.inr (.ref 35))), (1, .inl (a1))]) (st' := [.inl (q10), .inl (q10), .inr (.inr (.ref 2))]) (σ' := σ51) rfl ?_
    refine wk_call tt_185 rfl rfl rfl rfl rfl tt_206 rfl (by omega) (bp_2 z σ51 (q10) (q10)) (fun w55 σ56 hq57 => ?_)
    obtain ⟨rfl, hF58⟩ := hq57
    refine wk_b tt_185 1 (pc' := 43) (ls' := [(2, .inl (q10)), (0, .inr (.inr (.ref 35))), (1, .inl (a1))]) (st' := [.inl (q10)]) (σ' := σ56) rfl ?_
    refine wk_rI tt_185 rfl rfl ?_
    exact ⟨_, rfl, (sg_F_t (sg_F_t (sg_F_t (sg_F_p (sg_F_t (sg_F_r [3, 4, 5, 6, 7, 8, 9, 10, 11, 12, 13, 14, 15, 16, 17, 18, 4035, 4036, 5036, 6036, 7036, 8036, 17002] σ) (sg_F_m (L := [3, 4, 5, 6, 7, 8, 9, 10, 11, 12, 13, 14, 15, 16, 17, 18, 4035, 4036, 5036, 6036, 7036, 8036, 17002]) hF4 rfl)) rfl _ _ _) (sg_F_m (L := [3, 4, 5, 6, 7, 8, 9, 10, 11, 12, 13, 14, 15, 16, 17, 18, 4035, 4036, 5036, 6036, 7036, 8036, 17002]) hF48 rfl)) (sg_F_m (L := [3, 4, 5, 6, 7, 8, 9, 10, 11, 12, 13, 14, 15, 16, 17, 18, 4035, 4036, 5036, 6036, 7036, 8036, 17002]) hF53 rfl)) (sg_F_m (L := [3, 4, 5, 6, 7, 8, 9, 10, 11, 12, 13, 14, 15, 16, 17, 18, 4035, 4036, 5036, 6036, 7036, 8036, 17002]) hF58 rfl)), Or.inr ⟨((by simp only [pRw, he7, ↓reduceIte, Int.reduceEq, reduceCtorEq, or_true, true_or, or_false, false_or, and_true, true_and, and_false, false_and, not_true_eq_false, not_false_eq_true, decide_eq_true_eq, or_self, and_self, ite_self, Int.reduceLE])), (jm_ag hj54 (ag_t (tkq_F hF58 rfl) (ag_r _ _)))⟩⟩
-- NestedVectors$Parser.each
set_option maxRecDepth 8000 in
theorem px_ech (c : tkC) (hc : tkOK c) (d : Nat) (a1 : Int) (hn : 0 ≤ a1 ∧ a1 ≤ 12) (E : pF) (hE : cE c d 174 (a1 + 1) (fun _ => True) E) (hG : cL c d 176 (a1 + 1) (fun k i τ => pGenL c E k 5 i τ)) : cE c (d + 9) 172 a1 (fun k => k = 123) (pEach c E) := by
  intro z σ i τ ht hk hp
  refine wk_b tt_172 1 (pc' := 1) (ls' := [(0, .inr (.inr (.ref 35))), (1, .inl (a1))]) (st' := [.inr (.inr (.ref 35))]) (σ' := σ) rfl ?_
  refine wk_call tt_172 rfl rfl rfl rfl rfl tt_171 rfl (by omega) (px_crt z σ c hc (i) τ ht hk (by omega)) (fun w1 σ2 hq3 => ?_)
  obtain ⟨q10, rfl, hF4, hq3⟩ := hq3
  rcases hq3 with ⟨i5, τ6, he7, rq11, ht8, hk9⟩ | ⟨he7, hk9⟩
  ·
    refine wk_b tt_172 5 (pc' := 9) (ls' := [(2, .inl (q10)), (0, .inr (.inr (.ref 35))), (1, .inl (a1))]) (st' := [.inl ((a1 + 1)), .inr (.inr (.ref 35))]) (σ' := σ2) rfl ?_
    refine wk_call tt_172 rfl rfl rfl rfl rfl tt_174 rfl (by omega) (hE z σ2 (i5) τ6 ht8 hk9 trivial) (fun w12 σ13 hq14 => ?_)
    obtain ⟨q21, rfl, hF15, hq14⟩ := hq14
    rcases hq14 with ⟨i16, τ17, he18, rq22, ht19, hk20⟩ | ⟨he18, hk20⟩
    ·
      refine wk_b tt_172 3 (pc' := 16) (ls' := [(3, .inl (q21)), (2, .inl (q10)), (0, .inr (.inr (.ref 35))), (1, .inl (a1))]) (st' := [.inl (58), .inr (.inr (.ref 35))]) (σ' := σ13) rfl ?_
      refine wk_call tt_172 rfl rfl rfl rfl rfl tt_173 rfl (by omega) (px_exp z σ13 (58) c hc (i16) hk20 (by omega)) (fun w23 σ24 hq25 => ?_)
      obtain ⟨rfl, hF26, hq25⟩ := hq25
      rcases hq25 with ⟨h27, hk28⟩ | ⟨h27, hk28⟩
      ·
        refine wk_b tt_172 5 (pc' := 24) (ls' := [(3, .inl (q21)), (2, .inl (q10)), (0, .inr (.inr (.ref 35))), (1, .inl (a1))]) (st' := [.inl ((a1 + 1)), .inl (q10), .inr (.inr (.ref 35))]) (σ' := σ24) rfl ?_
        refine wk_call tt_172 rfl rfl rfl rfl rfl tt_176 rfl (by omega) (hG z σ24 (q10) (i16 + 1) τ17 (te_F ht19 hF26 rfl) hk28 (by omega)) (fun w29 σ30 hq31 => ?_)
        obtain ⟨rfl, hF32, hq31⟩ := hq31
        rcases hq31 with ⟨i33, τ34, he35, ht36, hk37⟩ | ⟨he35, hk37⟩
        ·
          refine wk_b tt_172 4 (pc' := 36) (ls' := [(3, .inl (q21)), (2, .inl (q10)), (0, .inr (.inr (.ref 35))), (1, .inl (a1))]) (st' := [.inl (124), .inl ((sg_g σ30 36 4))]) (σ' := σ30) rfl ?_
          have r38 := tK_r hc (i33)
          rw [show (sg_g σ30 36 4) = (tK c (i33)) from by rw [hk37.2.2.2.2.1]]
          refine wk_if2 tt_172 (tgt := 78) rfl rfl (by omega) (by decide) (fun (h39 : ¬ (tK c (i33)) = 124) => ?_) (fun (h39 : (tK c (i33)) = 124) => ?_)
          ·
            refine wk_b tt_172 2 (pc' := 81) (ls' := [(3, .inl (q21)), (2, .inl (q10)), (0, .inr (.inr (.ref 35))), (1, .inl (a1))]) (st' := [.inl (125), .inr (.inr (.ref 35))]) (σ' := σ30) rfl ?_
            refine wk_call tt_172 rfl rfl rfl rfl rfl tt_173 rfl (by omega) (px_exp z σ30 (125) c hc (i33) hk37 (by omega)) (fun w40 σ41 hq42 => ?_)
            obtain ⟨rfl, hF43, hq42⟩ := hq42
            rcases hq42 with ⟨h44, hk45⟩ | ⟨h44, hk45⟩
            ·
              refine wk_b tt_172 4 (pc' := 90) (ls' := [(3, .inl (q21)), (2, .inl (q10)), (0, .inr (.inr (.ref 35))), (1, .inl (a1))]) (st' := [.inl (q21), .inl (q10), .inr (.inr (.ref 2))]) (σ' := σ41) rfl ?_
              refine wk_call tt_172 rfl rfl rfl rfl rfl tt_205 rfl (by omega) (px_att z σ41 (q10) (q21) τ34 (te_F ht36 hF43 rfl) (by first | omega | exact sg_Rg _ _ _) (by first | omega | exact sg_Rg _ _ _)) (fun w46 σ47 hq48 => ?_)
              obtain ⟨rfl, hF49, ht50⟩ := hq48
              refine wk_b tt_172 4 (pc' := 99) (ls' := [(3, .inl (q21)), (2, .inl (q10)), (0, .inr (.inr (.ref 35))), (1, .inl (a1))]) (st' := [.inl (q10), .inl (q10), .inr (.inr (.ref 2))]) (σ' := σ47) rfl ?_
              refine wk_call tt_172 rfl rfl rfl rfl rfl tt_206 rfl (by omega) (px_cls z σ47 (q10) (q10) (pAttach τ34 (q10) (q21)) ht50 (by first | omega | exact sg_Rg _ _ _) (by first | omega | exact sg_Rg _ _ _)) (fun w51 σ52 hq53 => ?_)
              obtain ⟨rfl, hF54, ht55⟩ := hq53
              refine wk_b tt_172 1 (pc' := 103) (ls' := [(3, .inl (q21)), (2, .inl (q10)), (0, .inr (.inr (.ref 35))), (1, .inl (a1))]) (st' := [.inl (q10)]) (σ' := σ52) rfl ?_
              refine wk_rI tt_172 rfl rfl ?_
              exact ⟨_, rfl, (sg_F_t (sg_F_t (sg_F_t (sg_F_t (sg_F_t (sg_F_t (sg_F_t (sg_F_r [3, 4, 5, 6, 7, 8, 9, 10, 11, 12, 13, 14, 15, 16, 17, 18, 4035, 4036, 5036, 6036, 7036, 8036, 17002] σ) (sg_F_m (L := [3, 4, 5, 6, 7, 8, 9, 10, 11, 12, 13, 14, 15, 16, 17, 18, 4035, 4036, 5036, 6036, 7036, 8036, 17002]) hF4 rfl)) (sg_F_m (L := [3, 4, 5, 6, 7, 8, 9, 10, 11, 12, 13, 14, 15, 16, 17, 18, 4035, 4036, 5036, 6036, 7036, 8036, 17002]) hF15 rfl)) (sg_F_m (L := [3, 4, 5, 6, 7, 8, 9, 10, 11, 12, 13, 14, 15, 16, 17, 18, 4035, 4036, 5036, 6036, 7036, 8036, 17002]) hF26 rfl)) (sg_F_m (L := [3, 4, 5, 6, 7, 8, 9, 10, 11, 12, 13, 14, 15, 16, 17, 18, 4035, 4036, 5036, 6036, 7036, 8036, 17002]) hF32 rfl)) (sg_F_m (L := [3, 4, 5, 6, 7, 8, 9, 10, 11, 12, 13, 14, 15, 16, 17, 18, 4035, 4036, 5036, 6036, 7036, 8036, 17002]) hF43 rfl)) (sg_F_m (L := [3, 4, 5, 6, 7, 8, 9, 10, 11, 12, 13, 14, 15, 16, 17, 18, 4035, 4036, 5036, 6036, 7036, 8036, 17002]) hF49 rfl)) (sg_F_m (L := [3, 4, 5, 6, 7, 8, 9, 10, 11, 12, 13, 14, 15, 16, 17, 18, 4035, 4036, 5036, 6036, 7036, 8036, 17002]) hF54 rfl)), Or.inl ⟨_, _, ((by simp only [pEach, pEachE, he7, he18, h27, he35, h39, h44, ↓reduceIte, Int.reduceEq, reduceCtorEq, or_true, true_or, or_false, false_or, and_true, true_and, and_false, false_and, not_true_eq_false, not_false_eq_true, decide_eq_true_eq, or_self, and_self, ite_self, Int.reduceLE])), (by first | omega | exact sg_Rg _ _ _ | decide), ht55, (tk_ag hk45 (ag_t (tkq_F hF54 rfl) (ag_t (tkq_F hF49 rfl) (ag_r _ _))))⟩⟩
            ·
              refine wk_b tt_172 4 (pc' := 90) (ls' := [(3, .inl (q21)), (2, .inl (q10)), (0, .inr (.inr (.ref 35))), (1, .inl (a1))]) (st' := [.inl (q21), .inl (q10), .inr (.inr (.ref 2))]) (σ' := σ41) rfl ?_
              refine wk_call tt_172 rfl rfl rfl rfl rfl tt_205 rfl (by omega) (bp_1 z σ41 (q10) (q21)) (fun w56 σ57 hq58 => ?_)
              obtain ⟨rfl, hF59⟩ := hq58
              refine wk_b tt_172 4 (pc' := 99) (ls' := [(3, .inl (q21)), (2, .inl (q10)), (0, .inr (.inr (.ref 35))), (1, .inl (a1))]) (st' := [.inl (q10), .inl (q10), .inr (.inr (.ref 2))]) (σ' := σ57) rfl ?_
              refine wk_call tt_172 rfl rfl rfl rfl rfl tt_206 rfl (by omega) (bp_2 z σ57 (q10) (q10)) (fun w60 σ61 hq62 => ?_)
              obtain ⟨rfl, hF63⟩ := hq62
              refine wk_b tt_172 1 (pc' := 103) (ls' := [(3, .inl (q21)), (2, .inl (q10)), (0, .inr (.inr (.ref 35))), (1, .inl (a1))]) (st' := [.inl (q10)]) (σ' := σ61) rfl ?_
              refine wk_rI tt_172 rfl rfl ?_
              exact ⟨_, rfl, (sg_F_t (sg_F_t (sg_F_t (sg_F_t (sg_F_t (sg_F_t (sg_F_t (sg_F_r [3, 4, 5, 6, 7, 8, 9, 10, 11, 12, 13, 14, 15, 16, 17, 18, 4035, 4036, 5036, 6036, 7036, 8036, 17002] σ) (sg_F_m (L := [3, 4, 5, 6, 7, 8, 9, 10, 11, 12, 13, 14, 15, 16, 17, 18, 4035, 4036, 5036, 6036, 7036, 8036, 17002]) hF4 rfl)) (sg_F_m (L := [3, 4, 5, 6, 7, 8, 9, 10, 11, 12, 13, 14, 15, 16, 17, 18, 4035, 4036, 5036, 6036, 7036, 8036, 17002]) hF15 rfl)) (sg_F_m (L := [3, 4, 5, 6, 7, 8, 9, 10, 11, 12, 13, 14, 15, 16, 17, 18, 4035, 4036, 5036, 6036, 7036, 8036, 17002]) hF26 rfl)) (sg_F_m (L := [3, 4, 5, 6, 7, 8, 9, 10, 11, 12, 13, 14, 15, 16, 17, 18, 4035, 4036, 5036, 6036, 7036, 8036, 17002]) hF32 rfl)) (sg_F_m (L := [3, 4, 5, 6, 7, 8, 9, 10, 11, 12, 13, 14, 15, 16, 17, 18, 4035, 4036, 5036, 6036, 7036, 8036, 17002]) hF43 rfl)) (sg_F_m (L := [3, 4, 5, 6, 7, 8, 9, 10, 11, 12, 13, 14, 15, 16, 17, 18, 4035, 4036, 5036, 6036, 7036, 8036, 17002]) hF59 rfl)) (sg_F_m (L := [3, 4, 5, 6, 7, 8, 9, 10, 11, 12, 13, 14, 15, 16, 17, 18, 4035, 4036, 5036, 6036, 7036, 8036, 17002]) hF63 rfl)), Or.inr ⟨((by simp only [pEach, pEachE, he7, he18, h27, he35, h39, h44, ↓reduceIte, Int.reduceEq, reduceCtorEq, or_true, true_or, or_false, false_or, and_true, true_and, and_false, false_and, not_true_eq_false, not_false_eq_true, decide_eq_true_eq, or_self, and_self, ite_self, Int.reduceLE])), (jm_ag hk45 (ag_t (tkq_F hF63 rfl) (ag_t (tkq_F hF59 rfl) (ag_r _ _))))⟩⟩
          ·
            refine wk_b tt_172 2 (pc' := 43) (ls' := [(3, .inl (q21)), (2, .inl (q10)), (0, .inr (.inr (.ref 35))), (1, .inl (a1))]) (st' := [.inr (.inr (.ref 36))]) (σ' := σ30) rfl ?_
            refine wk_call tt_172 rfl rfl rfl rfl rfl tt_195 rfl (by omega) (tk_nx z σ30 c hc (i33) hk37 (by omega)) (fun w64 σ65 hq66 => ?_)
            obtain ⟨rfl, hF67, hj68⟩ := hq66
            refine wk_b tt_172 4 (pc' := 50) (ls' := [(3, .inl (q21)), (2, .inl (q10)), (0, .inr (.inr (.ref 35))), (1, .inl (a1))]) (st' := [.inl ((a1 + 1)), .inr (.inr (.ref 35))]) (σ' := σ65) rfl ?_
            refine wk_call tt_172 rfl rfl rfl rfl rfl tt_174 rfl (by omega) (hE z σ65 (i33 + 1) τ34 (te_F ht36 hF67 rfl) hj68 trivial) (fun w69 σ70 hq71 => ?_)
            obtain ⟨q78, rfl, hF72, hq71⟩ := hq71
            rcases hq71 with ⟨i73, τ74, he75, rq79, ht76, hk77⟩ | ⟨he75, hk77⟩
            ·
              refine wk_b tt_172 5 (pc' := 62) (ls' := [(4, .inl (q78)), (3, .inl (q21)), (2, .inl (q10)), (0, .inr (.inr (.ref 35))), (1, .inl (a1))]) (st' := [.inl (q78), .inl (q10), .inr (.inr (.ref 2))]) (σ' := σ70) rfl ?_
              refine wk_call tt_172 rfl rfl rfl rfl rfl tt_205 rfl (by omega) (px_att z σ70 (q10) (q78) τ74 ht76 (by first | omega | exact sg_Rg _ _ _) (by first | omega | exact sg_Rg _ _ _)) (fun w80 σ81 hq82 => ?_)
              obtain ⟨rfl, hF83, ht84⟩ := hq82
              refine wk_b tt_172 5 (pc' := 75) (ls' := [(4, .inl (q78)), (3, .inl (q21)), (2, .inl (q10)), (0, .inr (.inr (.ref 35))), (1, .inl (a1))]) (st' := [.inl (q78), .inl (q10), .inr (.inr (.ref 14))]) (σ' := σ81) rfl ?_
              refine wk_callp (v0 := none) (σ1 := (sx_put σ81 14 200 (q10) (q78))) tt_172 rfl rfl rfl rfl rfl tt_21 rfl (by omega) (pt_i0 z σ81 14 200 (q10) (q78) rfl (by decide) (by omega)) ?_
              refine wk_b tt_172 2 (pc' := 81) (ls' := [(4, .inl (q78)), (3, .inl (q21)), (2, .inl (q10)), (0, .inr (.inr (.ref 35))), (1, .inl (a1))]) (st' := [.inl (125), .inr (.inr (.ref 35))]) (σ' := (sx_put σ81 14 200 (q10) (q78))) rfl ?_
              refine wk_call tt_172 rfl rfl rfl rfl rfl tt_173 rfl (by omega) (px_exp z (sx_put σ81 14 200 (q10) (q78)) (125) c hc (i73) (tk_ag hk77 (ag_xp (ag_t (tkq_F hF83 rfl) (ag_r _ _)) rfl _ _ _)) (by omega)) (fun w85 σ86 hq87 => ?_)
              obtain ⟨rfl, hF88, hq87⟩ := hq87
              rcases hq87 with ⟨h89, hk90⟩ | ⟨h89, hk90⟩
              ·
                refine wk_b tt_172 4 (pc' := 90) (ls' := [(4, .inl (q78)), (3, .inl (q21)), (2, .inl (q10)), (0, .inr (.inr (.ref 35))), (1, .inl (a1))]) (st' := [.inl (q21), .inl (q10), .inr (.inr (.ref 2))]) (σ' := σ86) rfl ?_
                refine wk_call tt_172 rfl rfl rfl rfl rfl tt_205 rfl (by omega) (px_att z σ86 (q10) (q21) (sx_put (pAttach τ74 (q10) (q78)) 14 200 (q10) (q78)) (te_F (ag_p ht84 _ _ _ _) hF88 rfl) (by first | omega | exact sg_Rg _ _ _) (by first | omega | exact sg_Rg _ _ _)) (fun w91 σ92 hq93 => ?_)
                obtain ⟨rfl, hF94, ht95⟩ := hq93
                refine wk_b tt_172 4 (pc' := 99) (ls' := [(4, .inl (q78)), (3, .inl (q21)), (2, .inl (q10)), (0, .inr (.inr (.ref 35))), (1, .inl (a1))]) (st' := [.inl (q10), .inl (q10), .inr (.inr (.ref 2))]) (σ' := σ92) rfl ?_
                refine wk_call tt_172 rfl rfl rfl rfl rfl tt_206 rfl (by omega) (px_cls z σ92 (q10) (q10) (pAttach (sx_put (pAttach τ74 (q10) (q78)) 14 200 (q10) (q78)) (q10) (q21)) ht95 (by first | omega | exact sg_Rg _ _ _) (by first | omega | exact sg_Rg _ _ _)) (fun w96 σ97 hq98 => ?_)
                obtain ⟨rfl, hF99, ht100⟩ := hq98
                refine wk_b tt_172 1 (pc' := 103) (ls' := [(4, .inl (q78)), (3, .inl (q21)), (2, .inl (q10)), (0, .inr (.inr (.ref 35))), (1, .inl (a1))]) (st' := [.inl (q10)]) (σ' := σ97) rfl ?_
                refine wk_rI tt_172 rfl rfl ?_
                exact ⟨_, rfl, (sg_F_t (sg_F_t (sg_F_t (sg_F_p (sg_F_t (sg_F_t (sg_F_t (sg_F_t (sg_F_t (sg_F_t (sg_F_t (sg_F_r [3, 4, 5, 6, 7, 8, 9, 10, 11, 12, 13, 14, 15, 16, 17, 18, 4035, 4036, 5036, 6036, 7036, 8036, 17002] σ) (sg_F_m (L := [3, 4, 5, 6, 7, 8, 9, 10, 11, 12, 13, 14, 15, 16, 17, 18, 4035, 4036, 5036, 6036, 7036, 8036, 17002]) hF4 rfl)) (sg_F_m (L := [3, 4, 5, 6, 7, 8, 9, 10, 11, 12, 13, 14, 15, 16, 17, 18, 4035, 4036, 5036, 6036, 7036, 8036, 17002]) hF15 rfl)) (sg_F_m (L := [3, 4, 5, 6, 7, 8, 9, 10, 11, 12, 13, 14, 15, 16, 17, 18, 4035, 4036, 5036, 6036, 7036, 8036, 17002]) hF26 rfl)) (sg_F_m (L := [3, 4, 5, 6, 7, 8, 9, 10, 11, 12, 13, 14, 15, 16, 17, 18, 4035, 4036, 5036, 6036, 7036, 8036, 17002]) hF32 rfl)) (sg_F_m (L := [3, 4, 5, 6, 7, 8, 9, 10, 11, 12, 13, 14, 15, 16, 17, 18, 4035, 4036, 5036, 6036, 7036, 8036, 17002]) hF67 rfl)) (sg_F_m (L := [3, 4, 5, 6, 7, 8, 9, 10, 11, 12, 13, 14, 15, 16, 17, 18, 4035, 4036, 5036, 6036, 7036, 8036, 17002]) hF72 rfl)) (sg_F_m (L := [3, 4, 5, 6, 7, 8, 9, 10, 11, 12, 13, 14, 15, 16, 17, 18, 4035, 4036, 5036, 6036, 7036, 8036, 17002]) hF83 rfl)) rfl _ _ _) (sg_F_m (L := [3, 4, 5, 6, 7, 8, 9, 10, 11, 12, 13, 14, 15, 16, 17, 18, 4035, 4036, 5036, 6036, 7036, 8036, 17002]) hF88 rfl)) (sg_F_m (L := [3, 4, 5, 6, 7, 8, 9, 10, 11, 12, 13, 14, 15, 16, 17, 18, 4035, 4036, 5036, 6036, 7036, 8036, 17002]) hF94 rfl)) (sg_F_m (L := [3, 4, 5, 6, 7, 8, 9, 10, 11, 12, 13, 14, 15, 16, 17, 18, 4035, 4036, 5036, 6036, 7036, 8036, 17002]) hF99 rfl)), Or.inl ⟨_, _, ((by simp only [pEach, pEachE, he7, he18, h27, he35, h39, he75, h89, ↓reduceIte, Int.reduceEq, reduceCtorEq, or_true, true_or, or_false, false_or, and_true, true_and, and_false, false_and, not_true_eq_false, not_false_eq_true, decide_eq_true_eq, or_self, and_self, ite_self, Int.reduceLE])), (by first | omega | exact sg_Rg _ _ _ | decide), ht100, (tk_ag hk90 (ag_t (tkq_F hF99 rfl) (ag_t (tkq_F hF94 rfl) (ag_r _ _))))⟩⟩
              ·
                refine wk_b tt_172 4 (pc' := 90) (ls' := [(4, .inl (q78)), (3, .inl (q21)), (2, .inl (q10)), (0, .inr (.inr (.ref 35))), (1, .inl (a1))]) (st' := [.inl (q21), .inl (q10), .inr (.inr (.ref 2))]) (σ' := σ86) rfl ?_
                refine wk_call tt_172 rfl rfl rfl rfl rfl tt_205 rfl (by omega) (bp_1 z σ86 (q10) (q21)) (fun w101 σ102 hq103 => ?_)
                obtain ⟨rfl, hF104⟩ := hq103
                refine wk_b tt_172 4 (pc' := 99) (ls' := [(4, .inl (q78)), (3, .inl (q21)), (2, .inl (q10)), (0, .inr (.inr (.ref 35))), (1, .inl (a1))]) (st' := [.inl (q10), .inl (q10), .inr (.inr (.ref 2))]) (σ' := σ102) rfl ?_
                refine wk_call tt_172 rfl rfl rfl rfl rfl tt_206 rfl (by omega) (bp_2 z σ102 (q10) (q10)) (fun w105 σ106 hq107 => ?_)
                obtain ⟨rfl, hF108⟩ := hq107
                refine wk_b tt_172 1 (pc' := 103) (ls' := [(4, .inl (q78)), (3, .inl (q21)), (2, .inl (q10)), (0, .inr (.inr (.ref 35))), (1, .inl (a1))]) (st' := [.inl (q10)]) (σ' := σ106) rfl ?_
                refine wk_rI tt_172 rfl rfl ?_
                exact ⟨_, rfl, (sg_F_t (sg_F_t (sg_F_t (sg_F_p (sg_F_t (sg_F_t (sg_F_t (sg_F_t (sg_F_t (sg_F_t (sg_F_t (sg_F_r [3, 4, 5, 6, 7, 8, 9, 10, 11, 12, 13, 14, 15, 16, 17, 18, 4035, 4036, 5036, 6036, 7036, 8036, 17002] σ) (sg_F_m (L := [3, 4, 5, 6, 7, 8, 9, 10, 11, 12, 13, 14, 15, 16, 17, 18, 4035, 4036, 5036, 6036, 7036, 8036, 17002]) hF4 rfl)) (sg_F_m (L := [3, 4, 5, 6, 7, 8, 9, 10, 11, 12, 13, 14, 15, 16, 17, 18, 4035, 4036, 5036, 6036, 7036, 8036, 17002]) hF15 rfl)) (sg_F_m (L := [3, 4, 5, 6, 7, 8, 9, 10, 11, 12, 13, 14, 15, 16, 17, 18, 4035, 4036, 5036, 6036, 7036, 8036, 17002]) hF26 rfl)) (sg_F_m (L := [3, 4, 5, 6, 7, 8, 9, 10, 11, 12, 13, 14, 15, 16, 17, 18, 4035, 4036, 5036, 6036, 7036, 8036, 17002]) hF32 rfl)) (sg_F_m (L := [3, 4, 5, 6, 7, 8, 9, 10, 11, 12, 13, 14, 15, 16, 17, 18, 4035, 4036, 5036, 6036, 7036, 8036, 17002]) hF67 rfl)) (sg_F_m (L := [3, 4, 5, 6, 7, 8, 9, 10, 11, 12, 13, 14, 15, 16, 17, 18, 4035, 4036, 5036, 6036, 7036, 8036, 17002]) hF72 rfl)) (sg_F_m (L := [3, 4, 5, 6, 7, 8, 9, 10, 11, 12, 13, 14, 15, 16, 17, 18, 4035, 4036, 5036, 6036, 7036, 8036, 17002]) hF83 rfl)) rfl _ _ _) (sg_F_m (L := [3, 4, 5, 6, 7, 8, 9, 10, 11, 12, 13, 14, 15, 16, 17, 18, 4035, 4036, 5036, 6036, 7036, 8036, 17002]) hF88 rfl)) (sg_F_m (L := [3, 4, 5, 6, 7, 8, 9, 10, 11, 12, 13, 14, 15, 16, 17, 18, 4035, 4036, 5036, 6036, 7036, 8036, 17002]) hF104 rfl)) (sg_F_m (L := [3, 4, 5, 6, 7, 8, 9, 10, 11, 12, 13, 14, 15, 16, 17, 18, 4035, 4036, 5036, 6036, 7036, 8036, 17002]) hF108 rfl)), Or.inr ⟨((by simp only [pEach, pEachE, he7, he18, h27, he35, h39, he75, h89, ↓reduceIte, Int.reduceEq, reduceCtorEq, or_true, true_or, or_false, false_or, and_true, true_and, and_false, false_and, not_true_eq_false, not_false_eq_true, decide_eq_true_eq, or_self, and_self, ite_self, Int.reduceLE])), (jm_ag hk90 (ag_t (tkq_F hF108 rfl) (ag_t (tkq_F hF104 rfl) (ag_r _ _))))⟩⟩
            ·
              refine wk_b tt_172 5 (pc' := 62) (ls' := [(4, .inl (q78)), (3, .inl (q21)), (2, .inl (q10)), (0, .inr (.inr (.ref 35))), (1, .inl (a1))]) (st' := [.inl (q78), .inl (q10), .inr (.inr (.ref 2))]) (σ' := σ70) rfl ?_
              refine wk_call tt_172 rfl rfl rfl rfl rfl tt_205 rfl (by omega) (bp_1 z σ70 (q10) (q78)) (fun w109 σ110 hq111 => ?_)
              obtain ⟨rfl, hF112⟩ := hq111
              refine wk_b tt_172 5 (pc' := 75) (ls' := [(4, .inl (q78)), (3, .inl (q21)), (2, .inl (q10)), (0, .inr (.inr (.ref 35))), (1, .inl (a1))]) (st' := [.inl (q78), .inl (q10), .inr (.inr (.ref 14))]) (σ' := σ110) rfl ?_
              refine wk_callp (v0 := none) (σ1 := (sx_put σ110 14 200 (sg_n (q10)) (q78))) tt_172 rfl rfl rfl rfl rfl tt_21 rfl (by omega) (pt_i z σ110 14 200 (q10) (q78) rfl (by decide)) ?_
              refine wk_b tt_172 2 (pc' := 81) (ls' := [(4, .inl (q78)), (3, .inl (q21)), (2, .inl (q10)), (0, .inr (.inr (.ref 35))), (1, .inl (a1))]) (st' := [.inl (125), .inr (.inr (.ref 35))]) (σ' := (sx_put σ110 14 200 (sg_n (q10)) (q78))) rfl ?_
              refine wk_call tt_172 rfl rfl rfl rfl rfl tt_173 rfl (by omega) (pj_exp z (sx_put σ110 14 200 (sg_n (q10)) (q78)) (125) (jm_ag hk77 (ag_xp (ag_t (tkq_F hF112 rfl) (ag_r _ _)) rfl _ _ _)) (by omega)) (fun w113 σ114 hq115 => ?_)
              obtain ⟨rfl, hF116, hj117⟩ := hq115
              refine wk_b tt_172 4 (pc' := 90) (ls' := [(4, .inl (q78)), (3, .inl (q21)), (2, .inl (q10)), (0, .inr (.inr (.ref 35))), (1, .inl (a1))]) (st' := [.inl (q21), .inl (q10), .inr (.inr (.ref 2))]) (σ' := σ114) rfl ?_
              refine wk_call tt_172 rfl rfl rfl rfl rfl tt_205 rfl (by omega) (bp_1 z σ114 (q10) (q21)) (fun w118 σ119 hq120 => ?_)
              obtain ⟨rfl, hF121⟩ := hq120
              refine wk_b tt_172 4 (pc' := 99) (ls' := [(4, .inl (q78)), (3, .inl (q21)), (2, .inl (q10)), (0, .inr (.inr (.ref 35))), (1, .inl (a1))]) (st' := [.inl (q10), .inl (q10), .inr (.inr (.ref 2))]) (σ' := σ119) rfl ?_
              refine wk_call tt_172 rfl rfl rfl rfl rfl tt_206 rfl (by omega) (bp_2 z σ119 (q10) (q10)) (fun w122 σ123 hq124 => ?_)
              obtain ⟨rfl, hF125⟩ := hq124
              refine wk_b tt_172 1 (pc' := 103) (ls' := [(4, .inl (q78)), (3, .inl (q21)), (2, .inl (q10)), (0, .inr (.inr (.ref 35))), (1, .inl (a1))]) (st' := [.inl (q10)]) (σ' := σ123) rfl ?_
              refine wk_rI tt_172 rfl rfl ?_
              exact ⟨_, rfl, (sg_F_t (sg_F_t (sg_F_t (sg_F_p (sg_F_t (sg_F_t (sg_F_t (sg_F_t (sg_F_t (sg_F_t (sg_F_t (sg_F_r [3, 4, 5, 6, 7, 8, 9, 10, 11, 12, 13, 14, 15, 16, 17, 18, 4035, 4036, 5036, 6036, 7036, 8036, 17002] σ) (sg_F_m (L := [3, 4, 5, 6, 7, 8, 9, 10, 11, 12, 13, 14, 15, 16, 17, 18, 4035, 4036, 5036, 6036, 7036, 8036, 17002]) hF4 rfl)) (sg_F_m (L := [3, 4, 5, 6, 7, 8, 9, 10, 11, 12, 13, 14, 15, 16, 17, 18, 4035, 4036, 5036, 6036, 7036, 8036, 17002]) hF15 rfl)) (sg_F_m (L := [3, 4, 5, 6, 7, 8, 9, 10, 11, 12, 13, 14, 15, 16, 17, 18, 4035, 4036, 5036, 6036, 7036, 8036, 17002]) hF26 rfl)) (sg_F_m (L := [3, 4, 5, 6, 7, 8, 9, 10, 11, 12, 13, 14, 15, 16, 17, 18, 4035, 4036, 5036, 6036, 7036, 8036, 17002]) hF32 rfl)) (sg_F_m (L := [3, 4, 5, 6, 7, 8, 9, 10, 11, 12, 13, 14, 15, 16, 17, 18, 4035, 4036, 5036, 6036, 7036, 8036, 17002]) hF67 rfl)) (sg_F_m (L := [3, 4, 5, 6, 7, 8, 9, 10, 11, 12, 13, 14, 15, 16, 17, 18, 4035, 4036, 5036, 6036, 7036, 8036, 17002]) hF72 rfl)) (sg_F_m (L := [3, 4, 5, 6, 7, 8, 9, 10, 11, 12, 13, 14, 15, 16, 17, 18, 4035, 4036, 5036, 6036, 7036, 8036, 17002]) hF112 rfl)) rfl _ _ _) (sg_F_m (L := [3, 4, 5, 6, 7, 8, 9, 10, 11, 12, 13, 14, 15, 16, 17, 18, 4035, 4036, 5036, 6036, 7036, 8036, 17002]) hF116 rfl)) (sg_F_m (L := [3, 4, 5, 6, 7, 8, 9, 10, 11, 12, 13, 14, 15, 16, 17, 18, 4035, 4036, 5036, 6036, 7036, 8036, 17002]) hF121 rfl)) (sg_F_m (L := [3, 4, 5, 6, 7, 8, 9, 10, 11, 12, 13, 14, 15, 16, 17, 18, 4035, 4036, 5036, 6036, 7036, 8036, 17002]) hF125 rfl)), Or.inr ⟨((by simp only [pEach, pEachE, he7, he18, h27, he35, h39, he75, ↓reduceIte, Int.reduceEq, reduceCtorEq, or_true, true_or, or_false, false_or, and_true, true_and, and_false, false_and, not_true_eq_false, not_false_eq_true, decide_eq_true_eq, or_self, and_self, ite_self, Int.reduceLE])), (jm_ag hj117 (ag_t (tkq_F hF125 rfl) (ag_t (tkq_F hF121 rfl) (ag_r _ _))))⟩⟩
        ·
          refine wk_b tt_172 4 (pc' := 36) (ls' := [(3, .inl (q21)), (2, .inl (q10)), (0, .inr (.inr (.ref 35))), (1, .inl (a1))]) (st' := [.inl (124), .inl ((sg_g σ30 36 4))]) (σ' := σ30) rfl ?_
          rw [show (sg_g σ30 36 4) = 260 from by rw [hk37.1]]
          refine wk_if2 tt_172 (tgt := 78) rfl rfl (by decide) (by decide) (fun _ => ?_) (fun (h : 260 = 124) => absurd h (by decide))
          refine wk_b tt_172 2 (pc' := 81) (ls' := [(3, .inl (q21)), (2, .inl (q10)), (0, .inr (.inr (.ref 35))), (1, .inl (a1))]) (st' := [.inl (125), .inr (.inr (.ref 35))]) (σ' := σ30) rfl ?_
          refine wk_call tt_172 rfl rfl rfl rfl rfl tt_173 rfl (by omega) (pj_exp z σ30 (125) hk37 (by omega)) (fun w127 σ128 hq129 => ?_)
          obtain ⟨rfl, hF130, hj131⟩ := hq129
          refine wk_b tt_172 4 (pc' := 90) (ls' := [(3, .inl (q21)), (2, .inl (q10)), (0, .inr (.inr (.ref 35))), (1, .inl (a1))]) (st' := [.inl (q21), .inl (q10), .inr (.inr (.ref 2))]) (σ' := σ128) rfl ?_
          refine wk_call tt_172 rfl rfl rfl rfl rfl tt_205 rfl (by omega) (bp_1 z σ128 (q10) (q21)) (fun w132 σ133 hq134 => ?_)
          obtain ⟨rfl, hF135⟩ := hq134
          refine wk_b tt_172 4 (pc' := 99) (ls' := [(3, .inl (q21)), (2, .inl (q10)), (0, .inr (.inr (.ref 35))), (1, .inl (a1))]) (st' := [.inl (q10), .inl (q10), .inr (.inr (.ref 2))]) (σ' := σ133) rfl ?_
          refine wk_call tt_172 rfl rfl rfl rfl rfl tt_206 rfl (by omega) (bp_2 z σ133 (q10) (q10)) (fun w136 σ137 hq138 => ?_)
          obtain ⟨rfl, hF139⟩ := hq138
          refine wk_b tt_172 1 (pc' := 103) (ls' := [(3, .inl (q21)), (2, .inl (q10)), (0, .inr (.inr (.ref 35))), (1, .inl (a1))]) (st' := [.inl (q10)]) (σ' := σ137) rfl ?_
          refine wk_rI tt_172 rfl rfl ?_
          exact ⟨_, rfl, (sg_F_t (sg_F_t (sg_F_t (sg_F_t (sg_F_t (sg_F_t (sg_F_t (sg_F_r [3, 4, 5, 6, 7, 8, 9, 10, 11, 12, 13, 14, 15, 16, 17, 18, 4035, 4036, 5036, 6036, 7036, 8036, 17002] σ) (sg_F_m (L := [3, 4, 5, 6, 7, 8, 9, 10, 11, 12, 13, 14, 15, 16, 17, 18, 4035, 4036, 5036, 6036, 7036, 8036, 17002]) hF4 rfl)) (sg_F_m (L := [3, 4, 5, 6, 7, 8, 9, 10, 11, 12, 13, 14, 15, 16, 17, 18, 4035, 4036, 5036, 6036, 7036, 8036, 17002]) hF15 rfl)) (sg_F_m (L := [3, 4, 5, 6, 7, 8, 9, 10, 11, 12, 13, 14, 15, 16, 17, 18, 4035, 4036, 5036, 6036, 7036, 8036, 17002]) hF26 rfl)) (sg_F_m (L := [3, 4, 5, 6, 7, 8, 9, 10, 11, 12, 13, 14, 15, 16, 17, 18, 4035, 4036, 5036, 6036, 7036, 8036, 17002]) hF32 rfl)) (sg_F_m (L := [3, 4, 5, 6, 7, 8, 9, 10, 11, 12, 13, 14, 15, 16, 17, 18, 4035, 4036, 5036, 6036, 7036, 8036, 17002]) hF130 rfl)) (sg_F_m (L := [3, 4, 5, 6, 7, 8, 9, 10, 11, 12, 13, 14, 15, 16, 17, 18, 4035, 4036, 5036, 6036, 7036, 8036, 17002]) hF135 rfl)) (sg_F_m (L := [3, 4, 5, 6, 7, 8, 9, 10, 11, 12, 13, 14, 15, 16, 17, 18, 4035, 4036, 5036, 6036, 7036, 8036, 17002]) hF139 rfl)), Or.inr ⟨((by simp only [pEach, pEachE, he7, he18, h27, he35, ↓reduceIte, Int.reduceEq, reduceCtorEq, or_true, true_or, or_false, false_or, and_true, true_and, and_false, false_and, not_true_eq_false, not_false_eq_true, decide_eq_true_eq, or_self, and_self, ite_self, Int.reduceLE])), (jm_ag hj131 (ag_t (tkq_F hF139 rfl) (ag_t (tkq_F hF135 rfl) (ag_r _ _))))⟩⟩
      ·
        refine wk_b tt_172 5 (pc' := 24) (ls' := [(3, .inl (q21)), (2, .inl (q10)), (0, .inr (.inr (.ref 35))), (1, .inl (a1))]) (st' := [.inl ((a1 + 1)), .inl (q10), .inr (.inr (.ref 35))]) (σ' := σ24) rfl ?_
        refine wk_call tt_172 rfl rfl rfl rfl rfl tt_176 rfl (by omega) (pj_gens z σ24 (q10) ((a1 + 1)) hk28) (fun w140 σ141 hq142 => ?_)
        obtain ⟨rfl, hF143, hj144⟩ := hq142
        refine wk_b tt_172 4 (pc' := 36) (ls' := [(3, .inl (q21)), (2, .inl (q10)), (0, .inr (.inr (.ref 35))), (1, .inl (a1))]) (st' := [.inl (124), .inl ((sg_g σ141 36 4))]) (σ' := σ141) rfl ?_
        rw [show (sg_g σ141 36 4) = 260 from by rw [hj144.1]]
        refine wk_if2 tt_172 (tgt := 78) rfl rfl (by decide) (by decide) (fun _ => ?_) (fun (h : 260 = 124) => absurd h (by decide))
        refine wk_b tt_172 2 (pc' := 81) (ls' := [(3, .inl (q21)), (2, .inl (q10)), (0, .inr (.inr (.ref 35))), (1, .inl (a1))]) (st' := [.inl (125), .inr (.inr (.ref 35))]) (σ' := σ141) rfl ?_
        refine wk_call tt_172 rfl rfl rfl rfl rfl tt_173 rfl (by omega) (pj_exp z σ141 (125) hj144 (by omega)) (fun w146 σ147 hq148 => ?_)
        obtain ⟨rfl, hF149, hj150⟩ := hq148
        refine wk_b tt_172 4 (pc' := 90) (ls' := [(3, .inl (q21)), (2, .inl (q10)), (0, .inr (.inr (.ref 35))), (1, .inl (a1))]) (st' := [.inl (q21), .inl (q10), .inr (.inr (.ref 2))]) (σ' := σ147) rfl ?_
        refine wk_call tt_172 rfl rfl rfl rfl rfl tt_205 rfl (by omega) (bp_1 z σ147 (q10) (q21)) (fun w151 σ152 hq153 => ?_)
        obtain ⟨rfl, hF154⟩ := hq153
        refine wk_b tt_172 4 (pc' := 99) (ls' := [(3, .inl (q21)), (2, .inl (q10)), (0, .inr (.inr (.ref 35))), (1, .inl (a1))]) (st' := [.inl (q10), .inl (q10), .inr (.inr (.ref 2))]) (σ' := σ152) rfl ?_
        refine wk_call tt_172 rfl rfl rfl rfl rfl tt_206 rfl (by omega) (bp_2 z σ152 (q10) (q10)) (fun w155 σ156 hq157 => ?_)
        obtain ⟨rfl, hF158⟩ := hq157
        refine wk_b tt_172 1 (pc' := 103) (ls' := [(3, .inl (q21)), (2, .inl (q10)), (0, .inr (.inr (.ref 35))), (1, .inl (a1))]) (st' := [.inl (q10)]) (σ' := σ156) rfl ?_
        refine wk_rI tt_172 rfl rfl ?_
        exact ⟨_, rfl, (sg_F_t (sg_F_t (sg_F_t (sg_F_t (sg_F_t (sg_F_t (sg_F_t (sg_F_r [3, 4, 5, 6, 7, 8, 9, 10, 11, 12, 13, 14, 15, 16, 17, 18, 4035, 4036, 5036, 6036, 7036, 8036, 17002] σ) (sg_F_m (L := [3, 4, 5, 6, 7, 8, 9, 10, 11, 12, 13, 14, 15, 16, 17, 18, 4035, 4036, 5036, 6036, 7036, 8036, 17002]) hF4 rfl)) (sg_F_m (L := [3, 4, 5, 6, 7, 8, 9, 10, 11, 12, 13, 14, 15, 16, 17, 18, 4035, 4036, 5036, 6036, 7036, 8036, 17002]) hF15 rfl)) (sg_F_m (L := [3, 4, 5, 6, 7, 8, 9, 10, 11, 12, 13, 14, 15, 16, 17, 18, 4035, 4036, 5036, 6036, 7036, 8036, 17002]) hF26 rfl)) (sg_F_m (L := [3, 4, 5, 6, 7, 8, 9, 10, 11, 12, 13, 14, 15, 16, 17, 18, 4035, 4036, 5036, 6036, 7036, 8036, 17002]) hF143 rfl)) (sg_F_m (L := [3, 4, 5, 6, 7, 8, 9, 10, 11, 12, 13, 14, 15, 16, 17, 18, 4035, 4036, 5036, 6036, 7036, 8036, 17002]) hF149 rfl)) (sg_F_m (L := [3, 4, 5, 6, 7, 8, 9, 10, 11, 12, 13, 14, 15, 16, 17, 18, 4035, 4036, 5036, 6036, 7036, 8036, 17002]) hF154 rfl)) (sg_F_m (L := [3, 4, 5, 6, 7, 8, 9, 10, 11, 12, 13, 14, 15, 16, 17, 18, 4035, 4036, 5036, 6036, 7036, 8036, 17002]) hF158 rfl)), Or.inr ⟨((by simp only [pEach, pEachE, he7, he18, h27, ↓reduceIte, Int.reduceEq, reduceCtorEq, or_true, true_or, or_false, false_or, and_true, true_and, and_false, false_and, not_true_eq_false, not_false_eq_true, decide_eq_true_eq, or_self, and_self, ite_self, Int.reduceLE])), (jm_ag hj150 (ag_t (tkq_F hF158 rfl) (ag_t (tkq_F hF154 rfl) (ag_r _ _))))⟩⟩
    ·
      refine wk_b tt_172 3 (pc' := 16) (ls' := [(3, .inl (q21)), (2, .inl (q10)), (0, .inr (.inr (.ref 35))), (1, .inl (a1))]) (st' := [.inl (58), .inr (.inr (.ref 35))]) (σ' := σ13) rfl ?_
      refine wk_call tt_172 rfl rfl rfl rfl rfl tt_173 rfl (by omega) (pj_exp z σ13 (58) hk20 (by omega)) (fun w159 σ160 hq161 => ?_)
      obtain ⟨rfl, hF162, hj163⟩ := hq161
      refine wk_b tt_172 5 (pc' := 24) (ls' := [(3, .inl (q21)), (2, .inl (q10)), (0, .inr (.inr (.ref 35))), (1, .inl (a1))]) (st' := [.inl ((a1 + 1)), .inl (q10), .inr (.inr (.ref 35))]) (σ' := σ160) rfl ?_
      refine wk_call tt_172 rfl rfl rfl rfl rfl tt_176 rfl (by omega) (pj_gens z σ160 (q10) ((a1 + 1)) hj163) (fun w164 σ165 hq166 => ?_)
      obtain ⟨rfl, hF167, hj168⟩ := hq166
      refine wk_b tt_172 4 (pc' := 36) (ls' := [(3, .inl (q21)), (2, .inl (q10)), (0, .inr (.inr (.ref 35))), (1, .inl (a1))]) (st' := [.inl (124), .inl ((sg_g σ165 36 4))]) (σ' := σ165) rfl ?_
      rw [show (sg_g σ165 36 4) = 260 from by rw [hj168.1]]
      refine wk_if2 tt_172 (tgt := 78) rfl rfl (by decide) (by decide) (fun _ => ?_) (fun (h : 260 = 124) => absurd h (by decide))
      refine wk_b tt_172 2 (pc' := 81) (ls' := [(3, .inl (q21)), (2, .inl (q10)), (0, .inr (.inr (.ref 35))), (1, .inl (a1))]) (st' := [.inl (125), .inr (.inr (.ref 35))]) (σ' := σ165) rfl ?_
      refine wk_call tt_172 rfl rfl rfl rfl rfl tt_173 rfl (by omega) (pj_exp z σ165 (125) hj168 (by omega)) (fun w170 σ171 hq172 => ?_)
      obtain ⟨rfl, hF173, hj174⟩ := hq172
      refine wk_b tt_172 4 (pc' := 90) (ls' := [(3, .inl (q21)), (2, .inl (q10)), (0, .inr (.inr (.ref 35))), (1, .inl (a1))]) (st' := [.inl (q21), .inl (q10), .inr (.inr (.ref 2))]) (σ' := σ171) rfl ?_
      refine wk_call tt_172 rfl rfl rfl rfl rfl tt_205 rfl (by omega) (bp_1 z σ171 (q10) (q21)) (fun w175 σ176 hq177 => ?_)
      obtain ⟨rfl, hF178⟩ := hq177
      refine wk_b tt_172 4 (pc' := 99) (ls' := [(3, .inl (q21)), (2, .inl (q10)), (0, .inr (.inr (.ref 35))), (1, .inl (a1))]) (st' := [.inl (q10), .inl (q10), .inr (.inr (.ref 2))]) (σ' := σ176) rfl ?_
      refine wk_call tt_172 rfl rfl rfl rfl rfl tt_206 rfl (by omega) (bp_2 z σ176 (q10) (q10)) (fun w179 σ180 hq181 => ?_)
      obtain ⟨rfl, hF182⟩ := hq181
      refine wk_b tt_172 1 (pc' := 103) (ls' := [(3, .inl (q21)), (2, .inl (q10)), (0, .inr (.inr (.ref 35))), (1, .inl (a1))]) (st' := [.inl (q10)]) (σ' := σ180) rfl ?_
      refine wk_rI tt_172 rfl rfl ?_
      exact ⟨_, rfl, (sg_F_t (sg_F_t (sg_F_t (sg_F_t (sg_F_t (sg_F_t (sg_F_t (sg_F_r [3, 4, 5, 6, 7, 8, 9, 10, 11, 12, 13, 14, 15, 16, 17, 18, 4035, 4036, 5036, 6036, 7036, 8036, 17002] σ) (sg_F_m (L := [3, 4, 5, 6, 7, 8, 9, 10, 11, 12, 13, 14, 15, 16, 17, 18, 4035, 4036, 5036, 6036, 7036, 8036, 17002]) hF4 rfl)) (sg_F_m (L := [3, 4, 5, 6, 7, 8, 9, 10, 11, 12, 13, 14, 15, 16, 17, 18, 4035, 4036, 5036, 6036, 7036, 8036, 17002]) hF15 rfl)) (sg_F_m (L := [3, 4, 5, 6, 7, 8, 9, 10, 11, 12, 13, 14, 15, 16, 17, 18, 4035, 4036, 5036, 6036, 7036, 8036, 17002]) hF162 rfl)) (sg_F_m (L := [3, 4, 5, 6, 7, 8, 9, 10, 11, 12, 13, 14, 15, 16, 17, 18, 4035, 4036, 5036, 6036, 7036, 8036, 17002]) hF167 rfl)) (sg_F_m (L := [3, 4, 5, 6, 7, 8, 9, 10, 11, 12, 13, 14, 15, 16, 17, 18, 4035, 4036, 5036, 6036, 7036, 8036, 17002]) hF173 rfl)) (sg_F_m (L := [3, 4, 5, 6, 7, 8, 9, 10, 11, 12, 13, 14, 15, 16, 17, 18, 4035, 4036, 5036, 6036, 7036, 8036, 17002]) hF178 rfl)) (sg_F_m (L := [3, 4, 5, 6, 7, 8, 9, 10, 11, 12, 13, 14, 15, 16, 17, 18, 4035, 4036, 5036, 6036, 7036, 8036, 17002]) hF182 rfl)), Or.inr ⟨((by simp only [pEach, pEachE, he7, he18, ↓reduceIte, Int.reduceEq, reduceCtorEq, or_true, true_or, or_false, false_or, and_true, true_and, and_false, false_and, not_true_eq_false, not_false_eq_true, decide_eq_true_eq, or_self, and_self, ite_self, Int.reduceLE])), (jm_ag hj174 (ag_t (tkq_F hF182 rfl) (ag_t (tkq_F hF178 rfl) (ag_r _ _))))⟩⟩
  ·
    refine wk_b tt_172 5 (pc' := 9) (ls' := [(2, .inl (q10)), (0, .inr (.inr (.ref 35))), (1, .inl (a1))]) (st' := [.inl ((a1 + 1)), .inr (.inr (.ref 35))]) (σ' := σ2) rfl ?_
    refine wk_call tt_172 rfl rfl rfl rfl rfl tt_174 rfl (by omega) (pj_expression z σ2 ((a1 + 1)) hk9) (fun w183 σ184 hq185 => ?_)
    obtain ⟨q188, rfl, hF186, hj187⟩ := hq185
    refine wk_b tt_172 3 (pc' := 16) (ls' := [(3, .inl (q188)), (2, .inl (q10)), (0, .inr (.inr (.ref 35))), (1, .inl (a1))]) (st' := [.inl (58), .inr (.inr (.ref 35))]) (σ' := σ184) rfl ?_
    refine wk_call tt_172 rfl rfl rfl rfl rfl tt_173 rfl (by omega) (pj_exp z σ184 (58) hj187 (by omega)) (fun w189 σ190 hq191 => ?_)
    obtain ⟨rfl, hF192, hj193⟩ := hq191
    refine wk_b tt_172 5 (pc' := 24) (ls' := [(3, .inl (q188)), (2, .inl (q10)), (0, .inr (.inr (.ref 35))), (1, .inl (a1))]) (st' := [.inl ((a1 + 1)), .inl (q10), .inr (.inr (.ref 35))]) (σ' := σ190) rfl ?_
    refine wk_call tt_172 rfl rfl rfl rfl rfl tt_176 rfl (by omega) (pj_gens z σ190 (q10) ((a1 + 1)) hj193) (fun w194 σ195 hq196 => ?_)
    obtain ⟨rfl, hF197, hj198⟩ := hq196
    refine wk_b tt_172 4 (pc' := 36) (ls' := [(3, .inl (q188)), (2, .inl (q10)), (0, .inr (.inr (.ref 35))), (1, .inl (a1))]) (st' := [.inl (124), .inl ((sg_g σ195 36 4))]) (σ' := σ195) rfl ?_
    rw [show (sg_g σ195 36 4) = 260 from by rw [hj198.1]]
    refine wk_if2 tt_172 (tgt := 78) rfl rfl (by decide) (by decide) (fun _ => ?_) (fun (h : 260 = 124) => absurd h (by decide))
    refine wk_b tt_172 2 (pc' := 81) (ls' := [(3, .inl (q188)), (2, .inl (q10)), (0, .inr (.inr (.ref 35))), (1, .inl (a1))]) (st' := [.inl (125), .inr (.inr (.ref 35))]) (σ' := σ195) rfl ?_
    refine wk_call tt_172 rfl rfl rfl rfl rfl tt_173 rfl (by omega) (pj_exp z σ195 (125) hj198 (by omega)) (fun w200 σ201 hq202 => ?_)
    obtain ⟨rfl, hF203, hj204⟩ := hq202
    refine wk_b tt_172 4 (pc' := 90) (ls' := [(3, .inl (q188)), (2, .inl (q10)), (0, .inr (.inr (.ref 35))), (1, .inl (a1))]) (st' := [.inl (q188), .inl (q10), .inr (.inr (.ref 2))]) (σ' := σ201) rfl ?_
    refine wk_call tt_172 rfl rfl rfl rfl rfl tt_205 rfl (by omega) (bp_1 z σ201 (q10) (q188)) (fun w205 σ206 hq207 => ?_)
    obtain ⟨rfl, hF208⟩ := hq207
    refine wk_b tt_172 4 (pc' := 99) (ls' := [(3, .inl (q188)), (2, .inl (q10)), (0, .inr (.inr (.ref 35))), (1, .inl (a1))]) (st' := [.inl (q10), .inl (q10), .inr (.inr (.ref 2))]) (σ' := σ206) rfl ?_
    refine wk_call tt_172 rfl rfl rfl rfl rfl tt_206 rfl (by omega) (bp_2 z σ206 (q10) (q10)) (fun w209 σ210 hq211 => ?_)
    obtain ⟨rfl, hF212⟩ := hq211
    refine wk_b tt_172 1 (pc' := 103) (ls' := [(3, .inl (q188)), (2, .inl (q10)), (0, .inr (.inr (.ref 35))), (1, .inl (a1))]) (st' := [.inl (q10)]) (σ' := σ210) rfl ?_
    refine wk_rI tt_172 rfl rfl ?_
    exact ⟨_, rfl, (sg_F_t (sg_F_t (sg_F_t (sg_F_t (sg_F_t (sg_F_t (sg_F_t (sg_F_r [3, 4, 5, 6, 7, 8, 9, 10, 11, 12, 13, 14, 15, 16, 17, 18, 4035, 4036, 5036, 6036, 7036, 8036, 17002] σ) (sg_F_m (L := [3, 4, 5, 6, 7, 8, 9, 10, 11, 12, 13, 14, 15, 16, 17, 18, 4035, 4036, 5036, 6036, 7036, 8036, 17002]) hF4 rfl)) (sg_F_m (L := [3, 4, 5, 6, 7, 8, 9, 10, 11, 12, 13, 14, 15, 16, 17, 18, 4035, 4036, 5036, 6036, 7036, 8036, 17002]) hF186 rfl)) (sg_F_m (L := [3, 4, 5, 6, 7, 8, 9, 10, 11, 12, 13, 14, 15, 16, 17, 18, 4035, 4036, 5036, 6036, 7036, 8036, 17002]) hF192 rfl)) (sg_F_m (L := [3, 4, 5, 6, 7, 8, 9, 10, 11, 12, 13, 14, 15, 16, 17, 18, 4035, 4036, 5036, 6036, 7036, 8036, 17002]) hF197 rfl)) (sg_F_m (L := [3, 4, 5, 6, 7, 8, 9, 10, 11, 12, 13, 14, 15, 16, 17, 18, 4035, 4036, 5036, 6036, 7036, 8036, 17002]) hF203 rfl)) (sg_F_m (L := [3, 4, 5, 6, 7, 8, 9, 10, 11, 12, 13, 14, 15, 16, 17, 18, 4035, 4036, 5036, 6036, 7036, 8036, 17002]) hF208 rfl)) (sg_F_m (L := [3, 4, 5, 6, 7, 8, 9, 10, 11, 12, 13, 14, 15, 16, 17, 18, 4035, 4036, 5036, 6036, 7036, 8036, 17002]) hF212 rfl)), Or.inr ⟨((by simp only [pEach, pEachE, he7, ↓reduceIte, Int.reduceEq, reduceCtorEq, or_true, true_or, or_false, false_or, and_true, true_and, and_false, false_and, not_true_eq_false, not_false_eq_true, decide_eq_true_eq, or_self, and_self, ite_self, Int.reduceLE])), (jm_ag hj204 (ag_t (tkq_F hF212 rfl) (ag_t (tkq_F hF208 rfl) (ag_r _ _))))⟩⟩
-- NestedVectors$Parser.atom
set_option maxRecDepth 8000 in
theorem px_atm (c : tkC) (hc : tkOK c) (d : Nat) (a1 : Int) (hn : 0 ≤ a1 ∧ a1 ≤ 12) (w : Bool) (hw : w = decide (a1 < 12)) (E : pF) (hE : a1 < 12 → cE c d 174 (a1 + 1) (fun _ => True) E) (hWd : cW c d 191 a1 (pWord c w E)) (hRw : a1 < 12 → cE c d 185 a1 (fun k => k = 91) (pRw c E)) (hEc : a1 < 12 → cE c d 172 a1 (fun k => k = 123) (pEach c E)) : cE c (d + 6) 167 a1 (fun _ => True) (pAtom c w E) := by
  intro z σ i τ ht hk hp
  refine wk_b tt_167 6 (pc' := 12) (ls' := [(2, .inl ((sg_g σ 36 4))), (0, .inr (.inr (.ref 35))), (1, .inl (a1))]) (st' := [.inl (257), .inl ((sg_g σ 36 4))]) (σ' := σ) rfl ?_
  have r1 := tK_r hc (i)
  rw [show (sg_g σ 36 4) = (tK c (i)) from by rw [hk.2.2.2.2.1]]
  refine wk_if2 tt_167 (tgt := 20) rfl rfl (by omega) (by decide) (fun (h2 : ¬ (tK c (i)) = 257) => ?_) (fun (h2 : (tK c (i)) = 257) => ?_)
  ·
    refine wk_b tt_167 2 (pc' := 24) (ls' := [(2, .inl ((tK c (i)))), (0, .inr (.inr (.ref 35))), (1, .inl (a1))]) (st' := [.inl (258), .inl ((tK c (i)))]) (σ' := σ) rfl ?_
    refine wk_if2 tt_167 (tgt := 41) rfl rfl (by omega) (by decide) (fun (h3 : (tK c (i)) = 258) => ?_) (fun (h3 : ¬ (tK c (i)) = 258) => ?_)
    ·
      refine wk_b tt_167 3 (pc' := 44) (ls' := [(2, .inl ((tK c (i)))), (0, .inr (.inr (.ref 35))), (1, .inl (a1))]) (st' := [.inl (a1), .inl ((tK c (i))), .inr (.inr (.ref 35))]) (σ' := σ) rfl ?_
      refine wk_call tt_167 rfl rfl rfl rfl rfl tt_191 rfl (by omega) (hWd z σ (i) τ ht hk (by omega)) (fun w4 σ5 hq6 => ?_)
      obtain ⟨q13, rfl, hF7, hq6⟩ := hq6
      rcases hq6 with ⟨i8, τ9, he10, rq14, ht11, hk12⟩ | ⟨he10, hk12⟩
      ·
        refine wk_rI tt_167 rfl rfl ?_
        first
        | (exfalso; omega)
        | exact ⟨_, rfl, (sg_F_t (sg_F_r [3, 4, 5, 6, 7, 8, 9, 10, 11, 12, 13, 14, 15, 16, 17, 18, 4035, 4036, 5036, 6036, 7036, 8036, 17002] σ) (sg_F_m (L := [3, 4, 5, 6, 7, 8, 9, 10, 11, 12, 13, 14, 15, 16, 17, 18, 4035, 4036, 5036, 6036, 7036, 8036, 17002]) hF7 rfl)), Or.inl ⟨_, _, ((by simp only [pAtom, pPar, h2, h3, he10, ↓reduceIte, Int.reduceEq, reduceCtorEq, or_true, true_or, or_false, false_or, and_true, true_and, and_false, false_and, not_true_eq_false, not_false_eq_true, decide_eq_true_eq, or_self, and_self, ite_self, Int.reduceLE])), (by first | omega | exact sg_Rg _ _ _ | decide), ht11, hk12⟩⟩
      ·
        refine wk_rI tt_167 rfl rfl ?_
        first
        | (exfalso; omega)
        | exact ⟨_, rfl, (sg_F_t (sg_F_r [3, 4, 5, 6, 7, 8, 9, 10, 11, 12, 13, 14, 15, 16, 17, 18, 4035, 4036, 5036, 6036, 7036, 8036, 17002] σ) (sg_F_m (L := [3, 4, 5, 6, 7, 8, 9, 10, 11, 12, 13, 14, 15, 16, 17, 18, 4035, 4036, 5036, 6036, 7036, 8036, 17002]) hF7 rfl)), Or.inr ⟨((by simp only [pAtom, pPar, h2, h3, he10, ↓reduceIte, Int.reduceEq, reduceCtorEq, or_true, true_or, or_false, false_or, and_true, true_and, and_false, false_and, not_true_eq_false, not_false_eq_true, decide_eq_true_eq, or_self, and_self, ite_self, Int.reduceLE])), hk12⟩⟩
    ·
      refine wk_b tt_167 2 (pc' := 31) (ls' := [(2, .inl ((tK c (i)))), (0, .inr (.inr (.ref 35))), (1, .inl (a1))]) (st' := [.inl (267), .inl ((tK c (i)))]) (σ' := σ) rfl ?_
      refine wk_if2 tt_167 (tgt := 48) rfl rfl (by omega) (by decide) (fun (h15 : (tK c (i)) < 267) => ?_) (fun (h15 : 267 ≤ (tK c (i))) => ?_)
      ·
        have h15_n : ¬ 267 ≤ (tK c (i)) := by omega
        refine wk_b tt_167 2 (pc' := 51) (ls' := [(2, .inl ((tK c (i)))), (0, .inr (.inr (.ref 35))), (1, .inl (a1))]) (st' := [.inl (40), .inl ((tK c (i)))]) (σ' := σ) rfl ?_
        refine wk_if2 tt_167 (tgt := 85) rfl rfl (by omega) (by decide) (fun (h16 : ¬ (tK c (i)) = 40) => ?_) (fun (h16 : (tK c (i)) = 40) => ?_)
        ·
          refine wk_b tt_167 2 (pc' := 88) (ls' := [(2, .inl ((tK c (i)))), (0, .inr (.inr (.ref 35))), (1, .inl (a1))]) (st' := [.inl (91), .inl ((tK c (i)))]) (σ' := σ) rfl ?_
          refine wk_if2 tt_167 (tgt := 105) rfl rfl (by omega) (by decide) (fun (h17 : ¬ (tK c (i)) = 91) => ?_) (fun (h17 : (tK c (i)) = 91) => ?_)
          ·
            refine wk_b tt_167 2 (pc' := 108) (ls' := [(2, .inl ((tK c (i)))), (0, .inr (.inr (.ref 35))), (1, .inl (a1))]) (st' := [.inl (123), .inl ((tK c (i)))]) (σ' := σ) rfl ?_
            refine wk_if2 tt_167 (tgt := 125) rfl rfl (by omega) (by decide) (fun (h18 : ¬ (tK c (i)) = 123) => ?_) (fun (h18 : (tK c (i)) = 123) => ?_)
            ·
              refine wk_b tt_167 1 (pc' := 126) (ls' := [(2, .inl ((tK c (i)))), (0, .inr (.inr (.ref 35))), (1, .inl (a1))]) (st' := [.inr (.inr (.ref 35))]) (σ' := σ) rfl ?_
              refine wk_call tt_167 rfl rfl rfl rfl rfl tt_175 rfl (by omega) (px_failR z σ c hc (i) hk) (fun w19 σ20 hq21 => ?_)
              obtain ⟨rfl, hF22, hj23⟩ := hq21
              refine wk_b tt_167 1 (pc' := 130) (ls' := [(2, .inl ((tK c (i)))), (0, .inr (.inr (.ref 35))), (1, .inl (a1))]) (st' := [.inl ((-1))]) (σ' := σ20) rfl ?_
              refine wk_rI tt_167 rfl rfl ?_
              first
              | (exfalso; omega)
              | exact ⟨_, rfl, (sg_F_t (sg_F_r [3, 4, 5, 6, 7, 8, 9, 10, 11, 12, 13, 14, 15, 16, 17, 18, 4035, 4036, 5036, 6036, 7036, 8036, 17002] σ) (sg_F_m (L := [3, 4, 5, 6, 7, 8, 9, 10, 11, 12, 13, 14, 15, 16, 17, 18, 4035, 4036, 5036, 6036, 7036, 8036, 17002]) hF22 rfl)), Or.inr ⟨((by simp only [pAtom, pPar, h2, h3, h15, h15_n, h16, h17, h18, ↓reduceIte, Int.reduceEq, reduceCtorEq, or_true, true_or, or_false, false_or, and_true, true_and, and_false, false_and, not_true_eq_false, not_false_eq_true, decide_eq_true_eq, or_self, and_self, ite_self, Int.reduceLE])), hj23⟩⟩
            ·
              refine wk_b tt_167 2 (pc' := 113) (ls' := [(2, .inl ((tK c (i)))), (0, .inr (.inr (.ref 35))), (1, .inl (a1))]) (st' := [.inl (a1), .inr (.inr (.ref 35))]) (σ' := σ) rfl ?_
              refine wk_call tt_167 rfl rfl rfl rfl rfl tt_190 rfl (by omega) (px_wth z σ (a1) c hc (i) hk hn) (fun w24 σ25 hq26 => ?_)
              rcases hq26 with ⟨rfl, hw29_e, hw29⟩ | ⟨rfl, hF27, hj28, hw29⟩
              ·
                rw [hw29_e]
                have hw29_w : w = true := by rw [hw]; exact decide_eq_true hw29
                refine wk_if tt_167 (tgt := 125) rfl rfl (by decide) (fun (h : 1 = 0) => absurd h (by decide)) (fun _ => ?_)
                refine wk_b tt_167 2 (pc' := 121) (ls' := [(2, .inl ((tK c (i)))), (0, .inr (.inr (.ref 35))), (1, .inl (a1))]) (st' := [.inl (a1), .inr (.inr (.ref 35))]) (σ' := σ) rfl ?_
                refine wk_call tt_167 rfl rfl rfl rfl rfl tt_172 rfl (by omega) (hEc (by omega) z σ (i) τ ht hk (by omega)) (fun w31 σ32 hq33 => ?_)
                obtain ⟨q40, rfl, hF34, hq33⟩ := hq33
                rcases hq33 with ⟨i35, τ36, he37, rq41, ht38, hk39⟩ | ⟨he37, hk39⟩
                ·
                  refine wk_rI tt_167 rfl rfl ?_
                  first
                  | (exfalso; omega)
                  | exact ⟨_, rfl, (sg_F_t (sg_F_r [3, 4, 5, 6, 7, 8, 9, 10, 11, 12, 13, 14, 15, 16, 17, 18, 4035, 4036, 5036, 6036, 7036, 8036, 17002] σ) (sg_F_m (L := [3, 4, 5, 6, 7, 8, 9, 10, 11, 12, 13, 14, 15, 16, 17, 18, 4035, 4036, 5036, 6036, 7036, 8036, 17002]) hF34 rfl)), Or.inl ⟨_, _, ((by simp only [pAtom, pPar, h2, h3, h15, h15_n, h16, h17, h18, hw29_w, he37, ↓reduceIte, Int.reduceEq, reduceCtorEq, or_true, true_or, or_false, false_or, and_true, true_and, and_false, false_and, not_true_eq_false, not_false_eq_true, decide_eq_true_eq, or_self, and_self, ite_self, Int.reduceLE])), (by first | omega | exact sg_Rg _ _ _ | decide), ht38, hk39⟩⟩
                ·
                  refine wk_rI tt_167 rfl rfl ?_
                  first
                  | (exfalso; omega)
                  | exact ⟨_, rfl, (sg_F_t (sg_F_r [3, 4, 5, 6, 7, 8, 9, 10, 11, 12, 13, 14, 15, 16, 17, 18, 4035, 4036, 5036, 6036, 7036, 8036, 17002] σ) (sg_F_m (L := [3, 4, 5, 6, 7, 8, 9, 10, 11, 12, 13, 14, 15, 16, 17, 18, 4035, 4036, 5036, 6036, 7036, 8036, 17002]) hF34 rfl)), Or.inr ⟨((by simp only [pAtom, pPar, h2, h3, h15, h15_n, h16, h17, h18, hw29_w, he37, ↓reduceIte, Int.reduceEq, reduceCtorEq, or_true, true_or, or_false, false_or, and_true, true_and, and_false, false_and, not_true_eq_false, not_false_eq_true, decide_eq_true_eq, or_self, and_self, ite_self, Int.reduceLE])), hk39⟩⟩
              ·
                have hw29_w : w = false := by rw [hw]; exact decide_eq_false (by omega)
                refine wk_if tt_167 (tgt := 125) rfl rfl (by decide) (fun _ => ?_) (fun (h : ¬ 0 = 0) => absurd h (by decide))
                refine wk_b tt_167 1 (pc' := 126) (ls' := [(2, .inl ((tK c (i)))), (0, .inr (.inr (.ref 35))), (1, .inl (a1))]) (st' := [.inr (.inr (.ref 35))]) (σ' := σ25) rfl ?_
                refine wk_call tt_167 rfl rfl rfl rfl rfl tt_175 rfl (by omega) (px_failJ z σ25 hj28) (fun w43 σ44 hq45 => ?_)
                obtain ⟨rfl, hF46, hj47⟩ := hq45
                refine wk_b tt_167 1 (pc' := 130) (ls' := [(2, .inl ((tK c (i)))), (0, .inr (.inr (.ref 35))), (1, .inl (a1))]) (st' := [.inl ((-1))]) (σ' := σ44) rfl ?_
                refine wk_rI tt_167 rfl rfl ?_
                first
                | (exfalso; omega)
                | exact ⟨_, rfl, (sg_F_t (sg_F_t (sg_F_r [3, 4, 5, 6, 7, 8, 9, 10, 11, 12, 13, 14, 15, 16, 17, 18, 4035, 4036, 5036, 6036, 7036, 8036, 17002] σ) (sg_F_m (L := [3, 4, 5, 6, 7, 8, 9, 10, 11, 12, 13, 14, 15, 16, 17, 18, 4035, 4036, 5036, 6036, 7036, 8036, 17002]) hF27 rfl)) (sg_F_m (L := [3, 4, 5, 6, 7, 8, 9, 10, 11, 12, 13, 14, 15, 16, 17, 18, 4035, 4036, 5036, 6036, 7036, 8036, 17002]) hF46 rfl)), Or.inr ⟨((by simp only [pAtom, pPar, h2, h3, h15, h15_n, h16, h17, h18, hw29_w, Bool.false_eq_true, ↓reduceIte, Int.reduceEq, reduceCtorEq, or_true, true_or, or_false, false_or, and_true, true_and, and_false, false_and, not_true_eq_false, not_false_eq_true, decide_eq_true_eq, or_self, and_self, ite_self, Int.reduceLE])), hj47⟩⟩
          ·
            refine wk_b tt_167 2 (pc' := 93) (ls' := [(2, .inl ((tK c (i)))), (0, .inr (.inr (.ref 35))), (1, .inl (a1))]) (st' := [.inl (a1), .inr (.inr (.ref 35))]) (σ' := σ) rfl ?_
            refine wk_call tt_167 rfl rfl rfl rfl rfl tt_190 rfl (by omega) (px_wth z σ (a1) c hc (i) hk hn) (fun w48 σ49 hq50 => ?_)
            rcases hq50 with ⟨rfl, hw53_e, hw53⟩ | ⟨rfl, hF51, hj52, hw53⟩
            ·
              rw [hw53_e]
              have hw53_w : w = true := by rw [hw]; exact decide_eq_true hw53
              refine wk_if tt_167 (tgt := 105) rfl rfl (by decide) (fun (h : 1 = 0) => absurd h (by decide)) (fun _ => ?_)
              refine wk_b tt_167 2 (pc' := 101) (ls' := [(2, .inl ((tK c (i)))), (0, .inr (.inr (.ref 35))), (1, .inl (a1))]) (st' := [.inl (a1), .inr (.inr (.ref 35))]) (σ' := σ) rfl ?_
              refine wk_call tt_167 rfl rfl rfl rfl rfl tt_185 rfl (by omega) (hRw (by omega) z σ (i) τ ht hk (by omega)) (fun w55 σ56 hq57 => ?_)
              obtain ⟨q64, rfl, hF58, hq57⟩ := hq57
              rcases hq57 with ⟨i59, τ60, he61, rq65, ht62, hk63⟩ | ⟨he61, hk63⟩
              ·
                refine wk_rI tt_167 rfl rfl ?_
                first
                | (exfalso; omega)
                | exact ⟨_, rfl, (sg_F_t (sg_F_r [3, 4, 5, 6, 7, 8, 9, 10, 11, 12, 13, 14, 15, 16, 17, 18, 4035, 4036, 5036, 6036, 7036, 8036, 17002] σ) (sg_F_m (L := [3, 4, 5, 6, 7, 8, 9, 10, 11, 12, 13, 14, 15, 16, 17, 18, 4035, 4036, 5036, 6036, 7036, 8036, 17002]) hF58 rfl)), Or.inl ⟨_, _, ((by simp only [pAtom, pPar, h2, h3, h15, h15_n, h16, h17, hw53_w, he61, ↓reduceIte, Int.reduceEq, reduceCtorEq, or_true, true_or, or_false, false_or, and_true, true_and, and_false, false_and, not_true_eq_false, not_false_eq_true, decide_eq_true_eq, or_self, and_self, ite_self, Int.reduceLE])), (by first | omega | exact sg_Rg _ _ _ | decide), ht62, hk63⟩⟩
              ·
                refine wk_rI tt_167 rfl rfl ?_
                first
                | (exfalso; omega)
                | exact ⟨_, rfl, (sg_F_t (sg_F_r [3, 4, 5, 6, 7, 8, 9, 10, 11, 12, 13, 14, 15, 16, 17, 18, 4035, 4036, 5036, 6036, 7036, 8036, 17002] σ) (sg_F_m (L := [3, 4, 5, 6, 7, 8, 9, 10, 11, 12, 13, 14, 15, 16, 17, 18, 4035, 4036, 5036, 6036, 7036, 8036, 17002]) hF58 rfl)), Or.inr ⟨((by simp only [pAtom, pPar, h2, h3, h15, h15_n, h16, h17, hw53_w, he61, ↓reduceIte, Int.reduceEq, reduceCtorEq, or_true, true_or, or_false, false_or, and_true, true_and, and_false, false_and, not_true_eq_false, not_false_eq_true, decide_eq_true_eq, or_self, and_self, ite_self, Int.reduceLE])), hk63⟩⟩
            ·
              have hw53_w : w = false := by rw [hw]; exact decide_eq_false (by omega)
              refine wk_if tt_167 (tgt := 105) rfl rfl (by decide) (fun _ => ?_) (fun (h : ¬ 0 = 0) => absurd h (by decide))
              refine wk_b tt_167 2 (pc' := 108) (ls' := [(2, .inl ((tK c (i)))), (0, .inr (.inr (.ref 35))), (1, .inl (a1))]) (st' := [.inl (123), .inl ((tK c (i)))]) (σ' := σ49) rfl ?_
              refine wk_if2 tt_167 (tgt := 125) rfl rfl (by omega) (by decide) (fun (h67 : ¬ (tK c (i)) = 123) => ?_) (fun (h : (tK c (i)) = 123) => absurd h (by omega))
              refine wk_b tt_167 1 (pc' := 126) (ls' := [(2, .inl ((tK c (i)))), (0, .inr (.inr (.ref 35))), (1, .inl (a1))]) (st' := [.inr (.inr (.ref 35))]) (σ' := σ49) rfl ?_
              refine wk_call tt_167 rfl rfl rfl rfl rfl tt_175 rfl (by omega) (px_failJ z σ49 hj52) (fun w68 σ69 hq70 => ?_)
              obtain ⟨rfl, hF71, hj72⟩ := hq70
              refine wk_b tt_167 1 (pc' := 130) (ls' := [(2, .inl ((tK c (i)))), (0, .inr (.inr (.ref 35))), (1, .inl (a1))]) (st' := [.inl ((-1))]) (σ' := σ69) rfl ?_
              refine wk_rI tt_167 rfl rfl ?_
              first
              | (exfalso; omega)
              | exact ⟨_, rfl, (sg_F_t (sg_F_t (sg_F_r [3, 4, 5, 6, 7, 8, 9, 10, 11, 12, 13, 14, 15, 16, 17, 18, 4035, 4036, 5036, 6036, 7036, 8036, 17002] σ) (sg_F_m (L := [3, 4, 5, 6, 7, 8, 9, 10, 11, 12, 13, 14, 15, 16, 17, 18, 4035, 4036, 5036, 6036, 7036, 8036, 17002]) hF51 rfl)) (sg_F_m (L := [3, 4, 5, 6, 7, 8, 9, 10, 11, 12, 13, 14, 15, 16, 17, 18, 4035, 4036, 5036, 6036, 7036, 8036, 17002]) hF71 rfl)), Or.inr ⟨((by simp only [pAtom, pPar, h2, h3, h15, h15_n, h16, h17, hw53_w, Bool.false_eq_true, ↓reduceIte, Int.reduceEq, reduceCtorEq, or_true, true_or, or_false, false_or, and_true, true_and, and_false, false_and, not_true_eq_false, not_false_eq_true, decide_eq_true_eq, or_self, and_self, ite_self, Int.reduceLE])), hj72⟩⟩
        ·
          refine wk_b tt_167 2 (pc' := 56) (ls' := [(2, .inl ((tK c (i)))), (0, .inr (.inr (.ref 35))), (1, .inl (a1))]) (st' := [.inl (a1), .inr (.inr (.ref 35))]) (σ' := σ) rfl ?_
          refine wk_call tt_167 rfl rfl rfl rfl rfl tt_190 rfl (by omega) (px_wth z σ (a1) c hc (i) hk hn) (fun w73 σ74 hq75 => ?_)
          rcases hq75 with ⟨rfl, hw78_e, hw78⟩ | ⟨rfl, hF76, hj77, hw78⟩
          ·
            rw [hw78_e]
            have hw78_w : w = true := by rw [hw]; exact decide_eq_true hw78
            refine wk_if tt_167 (tgt := 85) rfl rfl (by decide) (fun (h : 1 = 0) => absurd h (by decide)) (fun _ => ?_)
            refine wk_b tt_167 2 (pc' := 66) (ls' := [(2, .inl ((tK c (i)))), (0, .inr (.inr (.ref 35))), (1, .inl (a1))]) (st' := [.inr (.inr (.ref 36))]) (σ' := σ) rfl ?_
            refine wk_call tt_167 rfl rfl rfl rfl rfl tt_195 rfl (by omega) (tk_nx z σ c hc (i) hk (by omega)) (fun w80 σ81 hq82 => ?_)
            obtain ⟨rfl, hF83, hj84⟩ := hq82
            refine wk_b tt_167 4 (pc' := 73) (ls' := [(2, .inl ((tK c (i)))), (0, .inr (.inr (.ref 35))), (1, .inl (a1))]) (st' := [.inl ((a1 + 1)), .inr (.inr (.ref 35))]) (σ' := σ81) rfl ?_
            refine wk_call tt_167 rfl rfl rfl rfl rfl tt_174 rfl (by omega) (hE (by omega) z σ81 (i + 1) τ (te_F ht hF83 rfl) hj84 trivial) (fun w85 σ86 hq87 => ?_)
            obtain ⟨q94, rfl, hF88, hq87⟩ := hq87
            rcases hq87 with ⟨i89, τ90, he91, rq95, ht92, hk93⟩ | ⟨he91, hk93⟩
            ·
              refine wk_b tt_167 3 (pc' := 80) (ls' := [(3, .inl (q94)), (2, .inl ((tK c (i)))), (0, .inr (.inr (.ref 35))), (1, .inl (a1))]) (st' := [.inl (41), .inr (.inr (.ref 35))]) (σ' := σ86) rfl ?_
              refine wk_call tt_167 rfl rfl rfl rfl rfl tt_173 rfl (by omega) (px_exp z σ86 (41) c hc (i89) hk93 (by omega)) (fun w96 σ97 hq98 => ?_)
              obtain ⟨rfl, hF99, hq98⟩ := hq98
              rcases hq98 with ⟨h100, hk101⟩ | ⟨h100, hk101⟩
              ·
                refine wk_b tt_167 1 (pc' := 84) (ls' := [(3, .inl (q94)), (2, .inl ((tK c (i)))), (0, .inr (.inr (.ref 35))), (1, .inl (a1))]) (st' := [.inl (q94)]) (σ' := σ97) rfl ?_
                refine wk_rI tt_167 rfl rfl ?_
                first
                | (exfalso; omega)
                | exact ⟨_, rfl, (sg_F_t (sg_F_t (sg_F_t (sg_F_r [3, 4, 5, 6, 7, 8, 9, 10, 11, 12, 13, 14, 15, 16, 17, 18, 4035, 4036, 5036, 6036, 7036, 8036, 17002] σ) (sg_F_m (L := [3, 4, 5, 6, 7, 8, 9, 10, 11, 12, 13, 14, 15, 16, 17, 18, 4035, 4036, 5036, 6036, 7036, 8036, 17002]) hF83 rfl)) (sg_F_m (L := [3, 4, 5, 6, 7, 8, 9, 10, 11, 12, 13, 14, 15, 16, 17, 18, 4035, 4036, 5036, 6036, 7036, 8036, 17002]) hF88 rfl)) (sg_F_m (L := [3, 4, 5, 6, 7, 8, 9, 10, 11, 12, 13, 14, 15, 16, 17, 18, 4035, 4036, 5036, 6036, 7036, 8036, 17002]) hF99 rfl)), Or.inl ⟨_, _, ((by simp only [pAtom, pPar, h2, h3, h15, h15_n, h16, hw78_w, he91, h100, ↓reduceIte, Int.reduceEq, reduceCtorEq, or_true, true_or, or_false, false_or, and_true, true_and, and_false, false_and, not_true_eq_false, not_false_eq_true, decide_eq_true_eq, or_self, and_self, ite_self, Int.reduceLE])), (by first | omega | exact sg_Rg _ _ _ | decide), (te_F ht92 hF99 rfl), hk101⟩⟩
              ·
                refine wk_b tt_167 1 (pc' := 84) (ls' := [(3, .inl (q94)), (2, .inl ((tK c (i)))), (0, .inr (.inr (.ref 35))), (1, .inl (a1))]) (st' := [.inl (q94)]) (σ' := σ97) rfl ?_
                refine wk_rI tt_167 rfl rfl ?_
                first
                | (exfalso; omega)
                | exact ⟨_, rfl, (sg_F_t (sg_F_t (sg_F_t (sg_F_r [3, 4, 5, 6, 7, 8, 9, 10, 11, 12, 13, 14, 15, 16, 17, 18, 4035, 4036, 5036, 6036, 7036, 8036, 17002] σ) (sg_F_m (L := [3, 4, 5, 6, 7, 8, 9, 10, 11, 12, 13, 14, 15, 16, 17, 18, 4035, 4036, 5036, 6036, 7036, 8036, 17002]) hF83 rfl)) (sg_F_m (L := [3, 4, 5, 6, 7, 8, 9, 10, 11, 12, 13, 14, 15, 16, 17, 18, 4035, 4036, 5036, 6036, 7036, 8036, 17002]) hF88 rfl)) (sg_F_m (L := [3, 4, 5, 6, 7, 8, 9, 10, 11, 12, 13, 14, 15, 16, 17, 18, 4035, 4036, 5036, 6036, 7036, 8036, 17002]) hF99 rfl)), Or.inr ⟨((by simp only [pAtom, pPar, h2, h3, h15, h15_n, h16, hw78_w, he91, h100, ↓reduceIte, Int.reduceEq, reduceCtorEq, or_true, true_or, or_false, false_or, and_true, true_and, and_false, false_and, not_true_eq_false, not_false_eq_true, decide_eq_true_eq, or_self, and_self, ite_self, Int.reduceLE])), hk101⟩⟩
            ·
              refine wk_b tt_167 3 (pc' := 80) (ls' := [(3, .inl (q94)), (2, .inl ((tK c (i)))), (0, .inr (.inr (.ref 35))), (1, .inl (a1))]) (st' := [.inl (41), .inr (.inr (.ref 35))]) (σ' := σ86) rfl ?_
              refine wk_call tt_167 rfl rfl rfl rfl rfl tt_173 rfl (by omega) (pj_exp z σ86 (41) hk93 (by omega)) (fun w102 σ103 hq104 => ?_)
              obtain ⟨rfl, hF105, hj106⟩ := hq104
              refine wk_b tt_167 1 (pc' := 84) (ls' := [(3, .inl (q94)), (2, .inl ((tK c (i)))), (0, .inr (.inr (.ref 35))), (1, .inl (a1))]) (st' := [.inl (q94)]) (σ' := σ103) rfl ?_
              refine wk_rI tt_167 rfl rfl ?_
              first
              | (exfalso; omega)
              | exact ⟨_, rfl, (sg_F_t (sg_F_t (sg_F_t (sg_F_r [3, 4, 5, 6, 7, 8, 9, 10, 11, 12, 13, 14, 15, 16, 17, 18, 4035, 4036, 5036, 6036, 7036, 8036, 17002] σ) (sg_F_m (L := [3, 4, 5, 6, 7, 8, 9, 10, 11, 12, 13, 14, 15, 16, 17, 18, 4035, 4036, 5036, 6036, 7036, 8036, 17002]) hF83 rfl)) (sg_F_m (L := [3, 4, 5, 6, 7, 8, 9, 10, 11, 12, 13, 14, 15, 16, 17, 18, 4035, 4036, 5036, 6036, 7036, 8036, 17002]) hF88 rfl)) (sg_F_m (L := [3, 4, 5, 6, 7, 8, 9, 10, 11, 12, 13, 14, 15, 16, 17, 18, 4035, 4036, 5036, 6036, 7036, 8036, 17002]) hF105 rfl)), Or.inr ⟨((by simp only [pAtom, pPar, h2, h3, h15, h15_n, h16, hw78_w, he91, ↓reduceIte, Int.reduceEq, reduceCtorEq, or_true, true_or, or_false, false_or, and_true, true_and, and_false, false_and, not_true_eq_false, not_false_eq_true, decide_eq_true_eq, or_self, and_self, ite_self, Int.reduceLE])), hj106⟩⟩
          ·
            have hw78_w : w = false := by rw [hw]; exact decide_eq_false (by omega)
            refine wk_if tt_167 (tgt := 85) rfl rfl (by decide) (fun _ => ?_) (fun (h : ¬ 0 = 0) => absurd h (by decide))
            refine wk_b tt_167 2 (pc' := 88) (ls' := [(2, .inl ((tK c (i)))), (0, .inr (.inr (.ref 35))), (1, .inl (a1))]) (st' := [.inl (91), .inl ((tK c (i)))]) (σ' := σ74) rfl ?_
            refine wk_if2 tt_167 (tgt := 105) rfl rfl (by omega) (by decide) (fun (h108 : ¬ (tK c (i)) = 91) => ?_) (fun (h : (tK c (i)) = 91) => absurd h (by omega))
            refine wk_b tt_167 2 (pc' := 108) (ls' := [(2, .inl ((tK c (i)))), (0, .inr (.inr (.ref 35))), (1, .inl (a1))]) (st' := [.inl (123), .inl ((tK c (i)))]) (σ' := σ74) rfl ?_
            refine wk_if2 tt_167 (tgt := 125) rfl rfl (by omega) (by decide) (fun (h109 : ¬ (tK c (i)) = 123) => ?_) (fun (h : (tK c (i)) = 123) => absurd h (by omega))
            refine wk_b tt_167 1 (pc' := 126) (ls' := [(2, .inl ((tK c (i)))), (0, .inr (.inr (.ref 35))), (1, .inl (a1))]) (st' := [.inr (.inr (.ref 35))]) (σ' := σ74) rfl ?_
            refine wk_call tt_167 rfl rfl rfl rfl rfl tt_175 rfl (by omega) (px_failJ z σ74 hj77) (fun w110 σ111 hq112 => ?_)
            obtain ⟨rfl, hF113, hj114⟩ := hq112
            refine wk_b tt_167 1 (pc' := 130) (ls' := [(2, .inl ((tK c (i)))), (0, .inr (.inr (.ref 35))), (1, .inl (a1))]) (st' := [.inl ((-1))]) (σ' := σ111) rfl ?_
            refine wk_rI tt_167 rfl rfl ?_
            first
            | (exfalso; omega)
            | exact ⟨_, rfl, (sg_F_t (sg_F_t (sg_F_r [3, 4, 5, 6, 7, 8, 9, 10, 11, 12, 13, 14, 15, 16, 17, 18, 4035, 4036, 5036, 6036, 7036, 8036, 17002] σ) (sg_F_m (L := [3, 4, 5, 6, 7, 8, 9, 10, 11, 12, 13, 14, 15, 16, 17, 18, 4035, 4036, 5036, 6036, 7036, 8036, 17002]) hF76 rfl)) (sg_F_m (L := [3, 4, 5, 6, 7, 8, 9, 10, 11, 12, 13, 14, 15, 16, 17, 18, 4035, 4036, 5036, 6036, 7036, 8036, 17002]) hF113 rfl)), Or.inr ⟨((by simp only [pAtom, pPar, h2, h3, h15, h15_n, h16, hw78_w, Bool.false_eq_true, ↓reduceIte, Int.reduceEq, reduceCtorEq, or_true, true_or, or_false, false_or, and_true, true_and, and_false, false_and, not_true_eq_false, not_false_eq_true, decide_eq_true_eq, or_self, and_self, ite_self, Int.reduceLE])), hj114⟩⟩
      ·
        refine wk_b tt_167 2 (pc' := 38) (ls' := [(2, .inl ((tK c (i)))), (0, .inr (.inr (.ref 35))), (1, .inl (a1))]) (st' := [.inl (278), .inl ((tK c (i)))]) (σ' := σ) rfl ?_
        refine wk_if2 tt_167 (tgt := 48) rfl rfl (by omega) (by decide) (fun (h115 : 278 < (tK c (i))) => ?_) (fun (h115 : (tK c (i)) ≤ 278) => ?_)
        ·
          have h115_n : ¬ (tK c (i)) ≤ 278 := by omega
          refine wk_b tt_167 2 (pc' := 51) (ls' := [(2, .inl ((tK c (i)))), (0, .inr (.inr (.ref 35))), (1, .inl (a1))]) (st' := [.inl (40), .inl ((tK c (i)))]) (σ' := σ) rfl ?_
          refine wk_if2 tt_167 (tgt := 85) rfl rfl (by omega) (by decide) (fun (h116 : ¬ (tK c (i)) = 40) => ?_) (fun (h116 : (tK c (i)) = 40) => ?_)
          ·
            refine wk_b tt_167 2 (pc' := 88) (ls' := [(2, .inl ((tK c (i)))), (0, .inr (.inr (.ref 35))), (1, .inl (a1))]) (st' := [.inl (91), .inl ((tK c (i)))]) (σ' := σ) rfl ?_
            refine wk_if2 tt_167 (tgt := 105) rfl rfl (by omega) (by decide) (fun (h117 : ¬ (tK c (i)) = 91) => ?_) (fun (h117 : (tK c (i)) = 91) => ?_)
            ·
              refine wk_b tt_167 2 (pc' := 108) (ls' := [(2, .inl ((tK c (i)))), (0, .inr (.inr (.ref 35))), (1, .inl (a1))]) (st' := [.inl (123), .inl ((tK c (i)))]) (σ' := σ) rfl ?_
              refine wk_if2 tt_167 (tgt := 125) rfl rfl (by omega) (by decide) (fun (h118 : ¬ (tK c (i)) = 123) => ?_) (fun (h118 : (tK c (i)) = 123) => ?_)
              ·
                refine wk_b tt_167 1 (pc' := 126) (ls' := [(2, .inl ((tK c (i)))), (0, .inr (.inr (.ref 35))), (1, .inl (a1))]) (st' := [.inr (.inr (.ref 35))]) (σ' := σ) rfl ?_
                refine wk_call tt_167 rfl rfl rfl rfl rfl tt_175 rfl (by omega) (px_failR z σ c hc (i) hk) (fun w119 σ120 hq121 => ?_)
                obtain ⟨rfl, hF122, hj123⟩ := hq121
                refine wk_b tt_167 1 (pc' := 130) (ls' := [(2, .inl ((tK c (i)))), (0, .inr (.inr (.ref 35))), (1, .inl (a1))]) (st' := [.inl ((-1))]) (σ' := σ120) rfl ?_
                refine wk_rI tt_167 rfl rfl ?_
                first
                | (exfalso; omega)
                | exact ⟨_, rfl, (sg_F_t (sg_F_r [3, 4, 5, 6, 7, 8, 9, 10, 11, 12, 13, 14, 15, 16, 17, 18, 4035, 4036, 5036, 6036, 7036, 8036, 17002] σ) (sg_F_m (L := [3, 4, 5, 6, 7, 8, 9, 10, 11, 12, 13, 14, 15, 16, 17, 18, 4035, 4036, 5036, 6036, 7036, 8036, 17002]) hF122 rfl)), Or.inr ⟨((by simp only [pAtom, pPar, h2, h3, h15, h115, h115_n, h116, h117, h118, ↓reduceIte, Int.reduceEq, reduceCtorEq, or_true, true_or, or_false, false_or, and_true, true_and, and_false, false_and, not_true_eq_false, not_false_eq_true, decide_eq_true_eq, or_self, and_self, ite_self, Int.reduceLE])), hj123⟩⟩
              ·
                refine wk_b tt_167 2 (pc' := 113) (ls' := [(2, .inl ((tK c (i)))), (0, .inr (.inr (.ref 35))), (1, .inl (a1))]) (st' := [.inl (a1), .inr (.inr (.ref 35))]) (σ' := σ) rfl ?_
                refine wk_call tt_167 rfl rfl rfl rfl rfl tt_190 rfl (by omega) (px_wth z σ (a1) c hc (i) hk hn) (fun w124 σ125 hq126 => ?_)
                rcases hq126 with ⟨rfl, hw129_e, hw129⟩ | ⟨rfl, hF127, hj128, hw129⟩
                ·
                  rw [hw129_e]
                  have hw129_w : w = true := by rw [hw]; exact decide_eq_true hw129
                  refine wk_if tt_167 (tgt := 125) rfl rfl (by decide) (fun (h : 1 = 0) => absurd h (by decide)) (fun _ => ?_)
                  refine wk_b tt_167 2 (pc' := 121) (ls' := [(2, .inl ((tK c (i)))), (0, .inr (.inr (.ref 35))), (1, .inl (a1))]) (st' := [.inl (a1), .inr (.inr (.ref 35))]) (σ' := σ) rfl ?_
                  refine wk_call tt_167 rfl rfl rfl rfl rfl tt_172 rfl (by omega) (hEc (by omega) z σ (i) τ ht hk (by omega)) (fun w131 σ132 hq133 => ?_)
                  obtain ⟨q140, rfl, hF134, hq133⟩ := hq133
                  rcases hq133 with ⟨i135, τ136, he137, rq141, ht138, hk139⟩ | ⟨he137, hk139⟩
                  ·
                    refine wk_rI tt_167 rfl rfl ?_
                    first
                    | (exfalso; omega)
                    | exact ⟨_, rfl, (sg_F_t (sg_F_r [3, 4, 5, 6, 7, 8, 9, 10, 11, 12, 13, 14, 15, 16, 17, 18, 4035, 4036, 5036, 6036, 7036, 8036, 17002] σ) (sg_F_m (L := [3, 4, 5, 6, 7, 8, 9, 10, 11, 12, 13, 14, 15, 16, 17, 18, 4035, 4036, 5036, 6036, 7036, 8036, 17002]) hF134 rfl)), Or.inl ⟨_, _, ((by simp only [pAtom, pPar, h2, h3, h15, h115, h115_n, h116, h117, h118, hw129_w, he137, ↓reduceIte, Int.reduceEq, reduceCtorEq, or_true, true_or, or_false, false_or, and_true, true_and, and_false, false_and, not_true_eq_false, not_false_eq_true, decide_eq_true_eq, or_self, and_self, ite_self, Int.reduceLE])), (by first | omega | exact sg_Rg _ _ _ | decide), ht138, hk139⟩⟩
                  ·
                    refine wk_rI tt_167 rfl rfl ?_
                    first
                    | (exfalso; omega)
                    | exact ⟨_, rfl, (sg_F_t (sg_F_r [3, 4, 5, 6, 7, 8, 9, 10, 11, 12, 13, 14, 15, 16, 17, 18, 4035, 4036, 5036, 6036, 7036, 8036, 17002] σ) (sg_F_m (L := [3, 4, 5, 6, 7, 8, 9, 10, 11, 12, 13, 14, 15, 16, 17, 18, 4035, 4036, 5036, 6036, 7036, 8036, 17002]) hF134 rfl)), Or.inr ⟨((by simp only [pAtom, pPar, h2, h3, h15, h115, h115_n, h116, h117, h118, hw129_w, he137, ↓reduceIte, Int.reduceEq, reduceCtorEq, or_true, true_or, or_false, false_or, and_true, true_and, and_false, false_and, not_true_eq_false, not_false_eq_true, decide_eq_true_eq, or_self, and_self, ite_self, Int.reduceLE])), hk139⟩⟩
                ·
                  have hw129_w : w = false := by rw [hw]; exact decide_eq_false (by omega)
                  refine wk_if tt_167 (tgt := 125) rfl rfl (by decide) (fun _ => ?_) (fun (h : ¬ 0 = 0) => absurd h (by decide))
                  refine wk_b tt_167 1 (pc' := 126) (ls' := [(2, .inl ((tK c (i)))), (0, .inr (.inr (.ref 35))), (1, .inl (a1))]) (st' := [.inr (.inr (.ref 35))]) (σ' := σ125) rfl ?_
                  refine wk_call tt_167 rfl rfl rfl rfl rfl tt_175 rfl (by omega) (px_failJ z σ125 hj128) (fun w143 σ144 hq145 => ?_)
                  obtain ⟨rfl, hF146, hj147⟩ := hq145
                  refine wk_b tt_167 1 (pc' := 130) (ls' := [(2, .inl ((tK c (i)))), (0, .inr (.inr (.ref 35))), (1, .inl (a1))]) (st' := [.inl ((-1))]) (σ' := σ144) rfl ?_
                  refine wk_rI tt_167 rfl rfl ?_
                  first
                  | (exfalso; omega)
                  | exact ⟨_, rfl, (sg_F_t (sg_F_t (sg_F_r [3, 4, 5, 6, 7, 8, 9, 10, 11, 12, 13, 14, 15, 16, 17, 18, 4035, 4036, 5036, 6036, 7036, 8036, 17002] σ) (sg_F_m (L := [3, 4, 5, 6, 7, 8, 9, 10, 11, 12, 13, 14, 15, 16, 17, 18, 4035, 4036, 5036, 6036, 7036, 8036, 17002]) hF127 rfl)) (sg_F_m (L := [3, 4, 5, 6, 7, 8, 9, 10, 11, 12, 13, 14, 15, 16, 17, 18, 4035, 4036, 5036, 6036, 7036, 8036, 17002]) hF146 rfl)), Or.inr ⟨((by simp only [pAtom, pPar, h2, h3, h15, h115, h115_n, h116, h117, h118, hw129_w, Bool.false_eq_true, ↓reduceIte, Int.reduceEq, reduceCtorEq, or_true, true_or, or_false, false_or, and_true, true_and, and_false, false_and, not_true_eq_false, not_false_eq_true, decide_eq_true_eq, or_self, and_self, ite_self, Int.reduceLE])), hj147⟩⟩
            ·
              refine wk_b tt_167 2 (pc' := 93) (ls' := [(2, .inl ((tK c (i)))), (0, .inr (.inr (.ref 35))), (1, .inl (a1))]) (st' := [.inl (a1), .inr (.inr (.ref 35))]) (σ' := σ) rfl ?_
              refine wk_call tt_167 rfl rfl rfl rfl rfl tt_190 rfl (by omega) (px_wth z σ (a1) c hc (i) hk hn) (fun w148 σ149 hq150 => ?_)
              rcases hq150 with ⟨rfl, hw153_e, hw153⟩ | ⟨rfl, hF151, hj152, hw153⟩
              ·
                rw [hw153_e]
                have hw153_w : w = true := by rw [hw]; exact decide_eq_true hw153
                refine wk_if tt_167 (tgt := 105) rfl rfl (by decide) (fun (h : 1 = 0) => absurd h (by decide)) (fun _ => ?_)
                refine wk_b tt_167 2 (pc' := 101) (ls' := [(2, .inl ((tK c (i)))), (0, .inr (.inr (.ref 35))), (1, .inl (a1))]) (st' := [.inl (a1), .inr (.inr (.ref 35))]) (σ' := σ) rfl ?_
                refine wk_call tt_167 rfl rfl rfl rfl rfl tt_185 rfl (by omega) (hRw (by omega) z σ (i) τ ht hk (by omega)) (fun w155 σ156 hq157 => ?_)
                obtain ⟨q164, rfl, hF158, hq157⟩ := hq157
                rcases hq157 with ⟨i159, τ160, he161, rq165, ht162, hk163⟩ | ⟨he161, hk163⟩
                ·
                  refine wk_rI tt_167 rfl rfl ?_
                  first
                  | (exfalso; omega)
                  | exact ⟨_, rfl, (sg_F_t (sg_F_r [3, 4, 5, 6, 7, 8, 9, 10, 11, 12, 13, 14, 15, 16, 17, 18, 4035, 4036, 5036, 6036, 7036, 8036, 17002] σ) (sg_F_m (L := [3, 4, 5, 6, 7, 8, 9, 10, 11, 12, 13, 14, 15, 16, 17, 18, 4035, 4036, 5036, 6036, 7036, 8036, 17002]) hF158 rfl)), Or.inl ⟨_, _, ((by simp only [pAtom, pPar, h2, h3, h15, h115, h115_n, h116, h117, hw153_w, he161, ↓reduceIte, Int.reduceEq, reduceCtorEq, or_true, true_or, or_false, false_or, and_true, true_and, and_false, false_and, not_true_eq_false, not_false_eq_true, decide_eq_true_eq, or_self, and_self, ite_self, Int.reduceLE])), (by first | omega | exact sg_Rg _ _ _ | decide), ht162, hk163⟩⟩
                ·
                  refine wk_rI tt_167 rfl rfl ?_
                  first
                  | (exfalso; omega)
                  | exact ⟨_, rfl, (sg_F_t (sg_F_r [3, 4, 5, 6, 7, 8, 9, 10, 11, 12, 13, 14, 15, 16, 17, 18, 4035, 4036, 5036, 6036, 7036, 8036, 17002] σ) (sg_F_m (L := [3, 4, 5, 6, 7, 8, 9, 10, 11, 12, 13, 14, 15, 16, 17, 18, 4035, 4036, 5036, 6036, 7036, 8036, 17002]) hF158 rfl)), Or.inr ⟨((by simp only [pAtom, pPar, h2, h3, h15, h115, h115_n, h116, h117, hw153_w, he161, ↓reduceIte, Int.reduceEq, reduceCtorEq, or_true, true_or, or_false, false_or, and_true, true_and, and_false, false_and, not_true_eq_false, not_false_eq_true, decide_eq_true_eq, or_self, and_self, ite_self, Int.reduceLE])), hk163⟩⟩
              ·
                have hw153_w : w = false := by rw [hw]; exact decide_eq_false (by omega)
                refine wk_if tt_167 (tgt := 105) rfl rfl (by decide) (fun _ => ?_) (fun (h : ¬ 0 = 0) => absurd h (by decide))
                refine wk_b tt_167 2 (pc' := 108) (ls' := [(2, .inl ((tK c (i)))), (0, .inr (.inr (.ref 35))), (1, .inl (a1))]) (st' := [.inl (123), .inl ((tK c (i)))]) (σ' := σ149) rfl ?_
                refine wk_if2 tt_167 (tgt := 125) rfl rfl (by omega) (by decide) (fun (h167 : ¬ (tK c (i)) = 123) => ?_) (fun (h : (tK c (i)) = 123) => absurd h (by omega))
                refine wk_b tt_167 1 (pc' := 126) (ls' := [(2, .inl ((tK c (i)))), (0, .inr (.inr (.ref 35))), (1, .inl (a1))]) (st' := [.inr (.inr (.ref 35))]) (σ' := σ149) rfl ?_
                refine wk_call tt_167 rfl rfl rfl rfl rfl tt_175 rfl (by omega) (px_failJ z σ149 hj152) (fun w168 σ169 hq170 => ?_)
                obtain ⟨rfl, hF171, hj172⟩ := hq170
                refine wk_b tt_167 1 (pc' := 130) (ls' := [(2, .inl ((tK c (i)))), (0, .inr (.inr (.ref 35))), (1, .inl (a1))]) (st' := [.inl ((-1))]) (σ' := σ169) rfl ?_
                refine wk_rI tt_167 rfl rfl ?_
                first
                | (exfalso; omega)
                | exact ⟨_, rfl, (sg_F_t (sg_F_t (sg_F_r [3, 4, 5, 6, 7, 8, 9, 10, 11, 12, 13, 14, 15, 16, 17, 18, 4035, 4036, 5036, 6036, 7036, 8036, 17002] σ) (sg_F_m (L := [3, 4, 5, 6, 7, 8, 9, 10, 11, 12, 13, 14, 15, 16, 17, 18, 4035, 4036, 5036, 6036, 7036, 8036, 17002]) hF151 rfl)) (sg_F_m (L := [3, 4, 5, 6, 7, 8, 9, 10, 11, 12, 13, 14, 15, 16, 17, 18, 4035, 4036, 5036, 6036, 7036, 8036, 17002]) hF171 rfl)), Or.inr ⟨((by simp only [pAtom, pPar, h2, h3, h15, h115, h115_n, h116, h117, hw153_w, Bool.false_eq_true, ↓reduceIte, Int.reduceEq, reduceCtorEq, or_true, true_or, or_false, false_or, and_true, true_and, and_false, false_and, not_true_eq_false, not_false_eq_true, decide_eq_true_eq, or_self, and_self, ite_self, Int.reduceLE])), hj172⟩⟩
          ·
            refine wk_b tt_167 2 (pc' := 56) (ls' := [(2, .inl ((tK c (i)))), (0, .inr (.inr (.ref 35))), (1, .inl (a1))]) (st' := [.inl (a1), .inr (.inr (.ref 35))]) (σ' := σ) rfl ?_
            refine wk_call tt_167 rfl rfl rfl rfl rfl tt_190 rfl (by omega) (px_wth z σ (a1) c hc (i) hk hn) (fun w173 σ174 hq175 => ?_)
            rcases hq175 with ⟨rfl, hw178_e, hw178⟩ | ⟨rfl, hF176, hj177, hw178⟩
            ·
              rw [hw178_e]
              have hw178_w : w = true := by rw [hw]; exact decide_eq_true hw178
              refine wk_if tt_167 (tgt := 85) rfl rfl (by decide) (fun (h : 1 = 0) => absurd h (by decide)) (fun _ => ?_)
              refine wk_b tt_167 2 (pc' := 66) (ls' := [(2, .inl ((tK c (i)))), (0, .inr (.inr (.ref 35))), (1, .inl (a1))]) (st' := [.inr (.inr (.ref 36))]) (σ' := σ) rfl ?_
              refine wk_call tt_167 rfl rfl rfl rfl rfl tt_195 rfl (by omega) (tk_nx z σ c hc (i) hk (by omega)) (fun w180 σ181 hq182 => ?_)
              obtain ⟨rfl, hF183, hj184⟩ := hq182
              refine wk_b tt_167 4 (pc' := 73) (ls' := [(2, .inl ((tK c (i)))), (0, .inr (.inr (.ref 35))), (1, .inl (a1))]) (st' := [.inl ((a1 + 1)), .inr (.inr (.ref 35))]) (σ' := σ181) rfl ?_
              refine wk_call tt_167 rfl rfl rfl rfl rfl tt_174 rfl (by omega) (hE (by omega) z σ181 (i + 1) τ (te_F ht hF183 rfl) hj184 trivial) (fun w185 σ186 hq187 => ?_)
              obtain ⟨q194, rfl, hF188, hq187⟩ := hq187
              rcases hq187 with ⟨i189, τ190, he191, rq195, ht192, hk193⟩ | ⟨he191, hk193⟩
              ·
                refine wk_b tt_167 3 (pc' := 80) (ls' := [(3, .inl (q194)), (2, .inl ((tK c (i)))), (0, .inr (.inr (.ref 35))), (1, .inl (a1))]) (st' := [.inl (41), .inr (.inr (.ref 35))]) (σ' := σ186) rfl ?_
                refine wk_call tt_167 rfl rfl rfl rfl rfl tt_173 rfl (by omega) (px_exp z σ186 (41) c hc (i189) hk193 (by omega)) (fun w196 σ197 hq198 => ?_)
                obtain ⟨rfl, hF199, hq198⟩ := hq198
                rcases hq198 with ⟨h200, hk201⟩ | ⟨h200, hk201⟩
                ·
                  refine wk_b tt_167 1 (pc' := 84) (ls' := [(3, .inl (q194)), (2, .inl ((tK c (i)))), (0, .inr (.inr (.ref 35))), (1, .inl (a1))]) (st' := [.inl (q194)]) (σ' := σ197) rfl ?_
                  refine wk_rI tt_167 rfl rfl ?_
                  first
                  | (exfalso; omega)
                  | exact ⟨_, rfl, (sg_F_t (sg_F_t (sg_F_t (sg_F_r [3, 4, 5, 6, 7, 8, 9, 10, 11, 12, 13, 14, 15, 16, 17, 18, 4035, 4036, 5036, 6036, 7036, 8036, 17002] σ) (sg_F_m (L := [3, 4, 5, 6, 7, 8, 9, 10, 11, 12, 13, 14, 15, 16, 17, 18, 4035, 4036, 5036, 6036, 7036, 8036, 17002]) hF183 rfl)) (sg_F_m (L := [3, 4, 5, 6, 7, 8, 9, 10, 11, 12, 13, 14, 15, 16, 17, 18, 4035, 4036, 5036, 6036, 7036, 8036, 17002]) hF188 rfl)) (sg_F_m (L := [3, 4, 5, 6, 7, 8, 9, 10, 11, 12, 13, 14, 15, 16, 17, 18, 4035, 4036, 5036, 6036, 7036, 8036, 17002]) hF199 rfl)), Or.inl ⟨_, _, ((by simp only [pAtom, pPar, h2, h3, h15, h115, h115_n, h116, hw178_w, he191, h200, ↓reduceIte, Int.reduceEq, reduceCtorEq, or_true, true_or, or_false, false_or, and_true, true_and, and_false, false_and, not_true_eq_false, not_false_eq_true, decide_eq_true_eq, or_self, and_self, ite_self, Int.reduceLE])), (by first | omega | exact sg_Rg _ _ _ | decide), (te_F ht192 hF199 rfl), hk201⟩⟩
                ·
                  refine wk_b tt_167 1 (pc' := 84) (ls' := [(3, .inl (q194)), (2, .inl ((tK c (i)))), (0, .inr (.inr (.ref 35))), (1, .inl (a1))]) (st' := [.inl (q194)]) (σ' := σ197) rfl ?_
                  refine wk_rI tt_167 rfl rfl ?_
                  first
                  | (exfalso; omega)
                  | exact ⟨_, rfl, (sg_F_t (sg_F_t (sg_F_t (sg_F_r [3, 4, 5, 6, 7, 8, 9, 10, 11, 12, 13, 14, 15, 16, 17, 18, 4035, 4036, 5036, 6036, 7036, 8036, 17002] σ) (sg_F_m (L := [3, 4, 5, 6, 7, 8, 9, 10, 11, 12, 13, 14, 15, 16, 17, 18, 4035, 4036, 5036, 6036, 7036, 8036, 17002]) hF183 rfl)) (sg_F_m (L := [3, 4, 5, 6, 7, 8, 9, 10, 11, 12, 13, 14, 15, 16, 17, 18, 4035, 4036, 5036, 6036, 7036, 8036, 17002]) hF188 rfl)) (sg_F_m (L := [3, 4, 5, 6, 7, 8, 9, 10, 11, 12, 13, 14, 15, 16, 17, 18, 4035, 4036, 5036, 6036, 7036, 8036, 17002]) hF199 rfl)), Or.inr ⟨((by simp only [pAtom, pPar, h2, h3, h15, h115, h115_n, h116, hw178_w, he191, h200, ↓reduceIte, Int.reduceEq, reduceCtorEq, or_true, true_or, or_false, false_or, and_true, true_and, and_false, false_and, not_true_eq_false, not_false_eq_true, decide_eq_true_eq, or_self, and_self, ite_self, Int.reduceLE])), hk201⟩⟩
              ·
                refine wk_b tt_167 3 (pc' := 80) (ls' := [(3, .inl (q194)), (2, .inl ((tK c (i)))), (0, .inr (.inr (.ref 35))), (1, .inl (a1))]) (st' := [.inl (41), .inr (.inr (.ref 35))]) (σ' := σ186) rfl ?_
                refine wk_call tt_167 rfl rfl rfl rfl rfl tt_173 rfl (by omega) (pj_exp z σ186 (41) hk193 (by omega)) (fun w202 σ203 hq204 => ?_)
                obtain ⟨rfl, hF205, hj206⟩ := hq204
                refine wk_b tt_167 1 (pc' := 84) (ls' := [(3, .inl (q194)), (2, .inl ((tK c (i)))), (0, .inr (.inr (.ref 35))), (1, .inl (a1))]) (st' := [.inl (q194)]) (σ' := σ203) rfl ?_
                refine wk_rI tt_167 rfl rfl ?_
                first
                | (exfalso; omega)
                | exact ⟨_, rfl, (sg_F_t (sg_F_t (sg_F_t (sg_F_r [3, 4, 5, 6, 7, 8, 9, 10, 11, 12, 13, 14, 15, 16, 17, 18, 4035, 4036, 5036, 6036, 7036, 8036, 17002] σ) (sg_F_m (L := [3, 4, 5, 6, 7, 8, 9, 10, 11, 12, 13, 14, 15, 16, 17, 18, 4035, 4036, 5036, 6036, 7036, 8036, 17002]) hF183 rfl)) (sg_F_m (L := [3, 4, 5, 6, 7, 8, 9, 10, 11, 12, 13, 14, 15, 16, 17, 18, 4035, 4036, 5036, 6036, 7036, 8036, 17002]) hF188 rfl)) (sg_F_m (L := [3, 4, 5, 6, 7, 8, 9, 10, 11, 12, 13, 14, 15, 16, 17, 18, 4035, 4036, 5036, 6036, 7036, 8036, 17002]) hF205 rfl)), Or.inr ⟨((by simp only [pAtom, pPar, h2, h3, h15, h115, h115_n, h116, hw178_w, he191, ↓reduceIte, Int.reduceEq, reduceCtorEq, or_true, true_or, or_false, false_or, and_true, true_and, and_false, false_and, not_true_eq_false, not_false_eq_true, decide_eq_true_eq, or_self, and_self, ite_self, Int.reduceLE])), hj206⟩⟩
            ·
              have hw178_w : w = false := by rw [hw]; exact decide_eq_false (by omega)
              refine wk_if tt_167 (tgt := 85) rfl rfl (by decide) (fun _ => ?_) (fun (h : ¬ 0 = 0) => absurd h (by decide))
              refine wk_b tt_167 2 (pc' := 88) (ls' := [(2, .inl ((tK c (i)))), (0, .inr (.inr (.ref 35))), (1, .inl (a1))]) (st' := [.inl (91), .inl ((tK c (i)))]) (σ' := σ174) rfl ?_
              refine wk_if2 tt_167 (tgt := 105) rfl rfl (by omega) (by decide) (fun (h208 : ¬ (tK c (i)) = 91) => ?_) (fun (h : (tK c (i)) = 91) => absurd h (by omega))
              refine wk_b tt_167 2 (pc' := 108) (ls' := [(2, .inl ((tK c (i)))), (0, .inr (.inr (.ref 35))), (1, .inl (a1))]) (st' := [.inl (123), .inl ((tK c (i)))]) (σ' := σ174) rfl ?_
              refine wk_if2 tt_167 (tgt := 125) rfl rfl (by omega) (by decide) (fun (h209 : ¬ (tK c (i)) = 123) => ?_) (fun (h : (tK c (i)) = 123) => absurd h (by omega))
              refine wk_b tt_167 1 (pc' := 126) (ls' := [(2, .inl ((tK c (i)))), (0, .inr (.inr (.ref 35))), (1, .inl (a1))]) (st' := [.inr (.inr (.ref 35))]) (σ' := σ174) rfl ?_
              refine wk_call tt_167 rfl rfl rfl rfl rfl tt_175 rfl (by omega) (px_failJ z σ174 hj177) (fun w210 σ211 hq212 => ?_)
              obtain ⟨rfl, hF213, hj214⟩ := hq212
              refine wk_b tt_167 1 (pc' := 130) (ls' := [(2, .inl ((tK c (i)))), (0, .inr (.inr (.ref 35))), (1, .inl (a1))]) (st' := [.inl ((-1))]) (σ' := σ211) rfl ?_
              refine wk_rI tt_167 rfl rfl ?_
              first
              | (exfalso; omega)
              | exact ⟨_, rfl, (sg_F_t (sg_F_t (sg_F_r [3, 4, 5, 6, 7, 8, 9, 10, 11, 12, 13, 14, 15, 16, 17, 18, 4035, 4036, 5036, 6036, 7036, 8036, 17002] σ) (sg_F_m (L := [3, 4, 5, 6, 7, 8, 9, 10, 11, 12, 13, 14, 15, 16, 17, 18, 4035, 4036, 5036, 6036, 7036, 8036, 17002]) hF176 rfl)) (sg_F_m (L := [3, 4, 5, 6, 7, 8, 9, 10, 11, 12, 13, 14, 15, 16, 17, 18, 4035, 4036, 5036, 6036, 7036, 8036, 17002]) hF213 rfl)), Or.inr ⟨((by simp only [pAtom, pPar, h2, h3, h15, h115, h115_n, h116, hw178_w, Bool.false_eq_true, ↓reduceIte, Int.reduceEq, reduceCtorEq, or_true, true_or, or_false, false_or, and_true, true_and, and_false, false_and, not_true_eq_false, not_false_eq_true, decide_eq_true_eq, or_self, and_self, ite_self, Int.reduceLE])), hj214⟩⟩
        ·
          refine wk_b tt_167 3 (pc' := 44) (ls' := [(2, .inl ((tK c (i)))), (0, .inr (.inr (.ref 35))), (1, .inl (a1))]) (st' := [.inl (a1), .inl ((tK c (i))), .inr (.inr (.ref 35))]) (σ' := σ) rfl ?_
          refine wk_call tt_167 rfl rfl rfl rfl rfl tt_191 rfl (by omega) (hWd z σ (i) τ ht hk (by omega)) (fun w215 σ216 hq217 => ?_)
          obtain ⟨q224, rfl, hF218, hq217⟩ := hq217
          rcases hq217 with ⟨i219, τ220, he221, rq225, ht222, hk223⟩ | ⟨he221, hk223⟩
          ·
            refine wk_rI tt_167 rfl rfl ?_
            first
            | (exfalso; omega)
            | exact ⟨_, rfl, (sg_F_t (sg_F_r [3, 4, 5, 6, 7, 8, 9, 10, 11, 12, 13, 14, 15, 16, 17, 18, 4035, 4036, 5036, 6036, 7036, 8036, 17002] σ) (sg_F_m (L := [3, 4, 5, 6, 7, 8, 9, 10, 11, 12, 13, 14, 15, 16, 17, 18, 4035, 4036, 5036, 6036, 7036, 8036, 17002]) hF218 rfl)), Or.inl ⟨_, _, ((by simp only [pAtom, pPar, h2, h3, h15, h115, he221, ↓reduceIte, Int.reduceEq, reduceCtorEq, or_true, true_or, or_false, false_or, and_true, true_and, and_false, false_and, not_true_eq_false, not_false_eq_true, decide_eq_true_eq, or_self, and_self, ite_self, Int.reduceLE])), (by first | omega | exact sg_Rg _ _ _ | decide), ht222, hk223⟩⟩
          ·
            refine wk_rI tt_167 rfl rfl ?_
            first
            | (exfalso; omega)
            | exact ⟨_, rfl, (sg_F_t (sg_F_r [3, 4, 5, 6, 7, 8, 9, 10, 11, 12, 13, 14, 15, 16, 17, 18, 4035, 4036, 5036, 6036, 7036, 8036, 17002] σ) (sg_F_m (L := [3, 4, 5, 6, 7, 8, 9, 10, 11, 12, 13, 14, 15, 16, 17, 18, 4035, 4036, 5036, 6036, 7036, 8036, 17002]) hF218 rfl)), Or.inr ⟨((by simp only [pAtom, pPar, h2, h3, h15, h115, he221, ↓reduceIte, Int.reduceEq, reduceCtorEq, or_true, true_or, or_false, false_or, and_true, true_and, and_false, false_and, not_true_eq_false, not_false_eq_true, decide_eq_true_eq, or_self, and_self, ite_self, Int.reduceLE])), hk223⟩⟩
  ·
    refine wk_b tt_167 1 (pc' := 16) (ls' := [(2, .inl ((tK c (i)))), (0, .inr (.inr (.ref 35))), (1, .inl (a1))]) (st' := [.inr (.inr (.ref 35))]) (σ' := σ) rfl ?_
    refine wk_call tt_167 rfl rfl rfl rfl rfl tt_171 rfl (by omega) (px_crt z σ c hc (i) τ ht hk (by omega)) (fun w226 σ227 hq228 => ?_)
    obtain ⟨q235, rfl, hF229, hq228⟩ := hq228
    rcases hq228 with ⟨i230, τ231, he232, rq236, ht233, hk234⟩ | ⟨he232, hk234⟩
    ·
      refine wk_rI tt_167 rfl rfl ?_
      first
      | (exfalso; omega)
      | exact ⟨_, rfl, (sg_F_t (sg_F_r [3, 4, 5, 6, 7, 8, 9, 10, 11, 12, 13, 14, 15, 16, 17, 18, 4035, 4036, 5036, 6036, 7036, 8036, 17002] σ) (sg_F_m (L := [3, 4, 5, 6, 7, 8, 9, 10, 11, 12, 13, 14, 15, 16, 17, 18, 4035, 4036, 5036, 6036, 7036, 8036, 17002]) hF229 rfl)), Or.inl ⟨_, _, ((by simp only [pAtom, pPar, h2, he232, ↓reduceIte, Int.reduceEq, reduceCtorEq, or_true, true_or, or_false, false_or, and_true, true_and, and_false, false_and, not_true_eq_false, not_false_eq_true, decide_eq_true_eq, or_self, and_self, ite_self, Int.reduceLE])), (by first | omega | exact sg_Rg _ _ _ | decide), ht233, hk234⟩⟩
    ·
      refine wk_rI tt_167 rfl rfl ?_
      first
      | (exfalso; omega)
      | exact ⟨_, rfl, (sg_F_t (sg_F_r [3, 4, 5, 6, 7, 8, 9, 10, 11, 12, 13, 14, 15, 16, 17, 18, 4035, 4036, 5036, 6036, 7036, 8036, 17002] σ) (sg_F_m (L := [3, 4, 5, 6, 7, 8, 9, 10, 11, 12, 13, 14, 15, 16, 17, 18, 4035, 4036, 5036, 6036, 7036, 8036, 17002]) hF229 rfl)), Or.inr ⟨((by simp only [pAtom, pPar, h2, he232, ↓reduceIte, Int.reduceEq, reduceCtorEq, or_true, true_or, or_false, false_or, and_true, true_and, and_false, false_and, not_true_eq_false, not_false_eq_true, decide_eq_true_eq, or_self, and_self, ite_self, Int.reduceLE])), hk234⟩⟩
-- NestedVectors$Parser.expression
set_option maxRecDepth 8000 in
theorem px_xpr (c : tkC) (hc : tkOK c) (d : Nat) (a1 : Int) (hn : 0 ≤ a1 ∧ a1 ≤ 12) (w : Bool) (hw : w = decide (a1 < 12)) (E C : pF) (hC : cE c d 170 a1 (fun _ => True) C) (hLt : a1 < 12 → cE c d 179 a1 (fun k => k = 262) (pLet c E)) (hCh : a1 < 12 → cE c d 169 a1 (fun k => k = 264) (pIf c E)) : cE c (d + 8) 174 a1 (fun _ => True) (pExpr c w E C) := by
  intro z σ i τ ht hk hp
  refine wk_b tt_174 4 (pc' := 10) (ls' := [(0, .inr (.inr (.ref 35))), (1, .inl (a1))]) (st' := [.inl (262), .inl ((sg_g σ 36 4))]) (σ' := σ) rfl ?_
  have r1 := tK_r hc (i)
  rw [show (sg_g σ 36 4) = (tK c (i)) from by rw [hk.2.2.2.2.1]]
  refine wk_if2 tt_174 (tgt := 27) rfl rfl (by omega) (by decide) (fun (h2 : ¬ (tK c (i)) = 262) => ?_) (fun (h2 : (tK c (i)) = 262) => ?_)
  ·
    refine wk_b tt_174 4 (pc' := 37) (ls' := [(0, .inr (.inr (.ref 35))), (1, .inl (a1))]) (st' := [.inl (264), .inl ((sg_g σ 36 4))]) (σ' := σ) rfl ?_
    rw [show (sg_g σ 36 4) = (tK c (i)) from by rw [hk.2.2.2.2.1]]
    refine wk_if2 tt_174 (tgt := 54) rfl rfl (by omega) (by decide) (fun (h3 : ¬ (tK c (i)) = 264) => ?_) (fun (h3 : (tK c (i)) = 264) => ?_)
    ·
      refine wk_b tt_174 2 (pc' := 56) (ls' := [(0, .inr (.inr (.ref 35))), (1, .inl (a1))]) (st' := [.inl (a1), .inr (.inr (.ref 35))]) (σ' := σ) rfl ?_
      refine wk_call tt_174 rfl rfl rfl rfl rfl tt_170 rfl (by omega) (hC z σ (i) τ ht hk trivial) (fun w4 σ5 hq6 => ?_)
      obtain ⟨q13, rfl, hF7, hq6⟩ := hq6
      rcases hq6 with ⟨i8, τ9, he10, rq14, ht11, hk12⟩ | ⟨he10, hk12⟩
      ·
        refine wk_rI tt_174 rfl rfl ?_
        exact ⟨_, rfl, (sg_F_t (sg_F_r [3, 4, 5, 6, 7, 8, 9, 10, 11, 12, 13, 14, 15, 16, 17, 18, 4035, 4036, 5036, 6036, 7036, 8036, 17002] σ) (sg_F_m (L := [3, 4, 5, 6, 7, 8, 9, 10, 11, 12, 13, 14, 15, 16, 17, 18, 4035, 4036, 5036, 6036, 7036, 8036, 17002]) hF7 rfl)), Or.inl ⟨_, _, ((by simp only [pExpr, h2, h3, he10, ↓reduceIte, Int.reduceEq, reduceCtorEq, or_true, true_or, or_false, false_or, and_true, true_and, and_false, false_and, not_true_eq_false, not_false_eq_true, decide_eq_true_eq, or_self, and_self, ite_self, Int.reduceLE])), (by first | omega | exact sg_Rg _ _ _ | decide), ht11, hk12⟩⟩
      ·
        refine wk_rI tt_174 rfl rfl ?_
        exact ⟨_, rfl, (sg_F_t (sg_F_r [3, 4, 5, 6, 7, 8, 9, 10, 11, 12, 13, 14, 15, 16, 17, 18, 4035, 4036, 5036, 6036, 7036, 8036, 17002] σ) (sg_F_m (L := [3, 4, 5, 6, 7, 8, 9, 10, 11, 12, 13, 14, 15, 16, 17, 18, 4035, 4036, 5036, 6036, 7036, 8036, 17002]) hF7 rfl)), Or.inr ⟨((by simp only [pExpr, h2, h3, he10, ↓reduceIte, Int.reduceEq, reduceCtorEq, or_true, true_or, or_false, false_or, and_true, true_and, and_false, false_and, not_true_eq_false, not_false_eq_true, decide_eq_true_eq, or_self, and_self, ite_self, Int.reduceLE])), hk12⟩⟩
    ·
      refine wk_b tt_174 2 (pc' := 42) (ls' := [(0, .inr (.inr (.ref 35))), (1, .inl (a1))]) (st' := [.inl (a1), .inr (.inr (.ref 35))]) (σ' := σ) rfl ?_
      refine wk_call tt_174 rfl rfl rfl rfl rfl tt_190 rfl (by omega) (px_wth z σ (a1) c hc (i) hk hn) (fun w15 σ16 hq17 => ?_)
      rcases hq17 with ⟨rfl, hw20_e, hw20⟩ | ⟨rfl, hF18, hj19, hw20⟩
      ·
        rw [hw20_e]
        have hw20_w : w = true := by rw [hw]; exact decide_eq_true hw20
        refine wk_if tt_174 (tgt := 54) rfl rfl (by decide) (fun (h : 1 = 0) => absurd h (by decide)) (fun _ => ?_)
        refine wk_b tt_174 2 (pc' := 50) (ls' := [(0, .inr (.inr (.ref 35))), (1, .inl (a1))]) (st' := [.inl (a1), .inr (.inr (.ref 35))]) (σ' := σ) rfl ?_
        refine wk_call tt_174 rfl rfl rfl rfl rfl tt_169 rfl (by omega) (hCh (by omega) z σ (i) τ ht hk (by omega)) (fun w22 σ23 hq24 => ?_)
        obtain ⟨q31, rfl, hF25, hq24⟩ := hq24
        rcases hq24 with ⟨i26, τ27, he28, rq32, ht29, hk30⟩ | ⟨he28, hk30⟩
        ·
          refine wk_rI tt_174 rfl rfl ?_
          exact ⟨_, rfl, (sg_F_t (sg_F_r [3, 4, 5, 6, 7, 8, 9, 10, 11, 12, 13, 14, 15, 16, 17, 18, 4035, 4036, 5036, 6036, 7036, 8036, 17002] σ) (sg_F_m (L := [3, 4, 5, 6, 7, 8, 9, 10, 11, 12, 13, 14, 15, 16, 17, 18, 4035, 4036, 5036, 6036, 7036, 8036, 17002]) hF25 rfl)), Or.inl ⟨_, _, ((by simp only [pExpr, h2, h3, hw20_w, he28, ↓reduceIte, Int.reduceEq, reduceCtorEq, or_true, true_or, or_false, false_or, and_true, true_and, and_false, false_and, not_true_eq_false, not_false_eq_true, decide_eq_true_eq, or_self, and_self, ite_self, Int.reduceLE])), (by first | omega | exact sg_Rg _ _ _ | decide), ht29, hk30⟩⟩
        ·
          refine wk_rI tt_174 rfl rfl ?_
          exact ⟨_, rfl, (sg_F_t (sg_F_r [3, 4, 5, 6, 7, 8, 9, 10, 11, 12, 13, 14, 15, 16, 17, 18, 4035, 4036, 5036, 6036, 7036, 8036, 17002] σ) (sg_F_m (L := [3, 4, 5, 6, 7, 8, 9, 10, 11, 12, 13, 14, 15, 16, 17, 18, 4035, 4036, 5036, 6036, 7036, 8036, 17002]) hF25 rfl)), Or.inr ⟨((by simp only [pExpr, h2, h3, hw20_w, he28, ↓reduceIte, Int.reduceEq, reduceCtorEq, or_true, true_or, or_false, false_or, and_true, true_and, and_false, false_and, not_true_eq_false, not_false_eq_true, decide_eq_true_eq, or_self, and_self, ite_self, Int.reduceLE])), hk30⟩⟩
      ·
        have hw20_w : w = false := by rw [hw]; exact decide_eq_false (by omega)
        refine wk_if tt_174 (tgt := 54) rfl rfl (by decide) (fun _ => ?_) (fun (h : ¬ 0 = 0) => absurd h (by decide))
        refine wk_b tt_174 2 (pc' := 56) (ls' := [(0, .inr (.inr (.ref 35))), (1, .inl (a1))]) (st' := [.inl (a1), .inr (.inr (.ref 35))]) (σ' := σ16) rfl ?_
        refine wk_call tt_174 rfl rfl rfl rfl rfl tt_170 rfl (by omega) (pj_comparison z σ16 (a1) hj19) (fun w34 σ35 hq36 => ?_)
        obtain ⟨q39, rfl, hF37, hj38⟩ := hq36
        refine wk_rI tt_174 rfl rfl ?_
        exact ⟨_, rfl, (sg_F_t (sg_F_t (sg_F_r [3, 4, 5, 6, 7, 8, 9, 10, 11, 12, 13, 14, 15, 16, 17, 18, 4035, 4036, 5036, 6036, 7036, 8036, 17002] σ) (sg_F_m (L := [3, 4, 5, 6, 7, 8, 9, 10, 11, 12, 13, 14, 15, 16, 17, 18, 4035, 4036, 5036, 6036, 7036, 8036, 17002]) hF18 rfl)) (sg_F_m (L := [3, 4, 5, 6, 7, 8, 9, 10, 11, 12, 13, 14, 15, 16, 17, 18, 4035, 4036, 5036, 6036, 7036, 8036, 17002]) hF37 rfl)), Or.inr ⟨((by simp only [pExpr, h2, h3, hw20_w, Bool.false_eq_true, ↓reduceIte, Int.reduceEq, reduceCtorEq, or_true, true_or, or_false, false_or, and_true, true_and, and_false, false_and, not_true_eq_false, not_false_eq_true, decide_eq_true_eq, or_self, and_self, ite_self, Int.reduceLE])), hj38⟩⟩
  ·
    refine wk_b tt_174 2 (pc' := 15) (ls' := [(0, .inr (.inr (.ref 35))), (1, .inl (a1))]) (st' := [.inl (a1), .inr (.inr (.ref 35))]) (σ' := σ) rfl ?_
    refine wk_call tt_174 rfl rfl rfl rfl rfl tt_190 rfl (by omega) (px_wth z σ (a1) c hc (i) hk hn) (fun w40 σ41 hq42 => ?_)
    rcases hq42 with ⟨rfl, hw45_e, hw45⟩ | ⟨rfl, hF43, hj44, hw45⟩
    ·
      rw [hw45_e]
      have hw45_w : w = true := by rw [hw]; exact decide_eq_true hw45
      refine wk_if tt_174 (tgt := 27) rfl rfl (by decide) (fun (h : 1 = 0) => absurd h (by decide)) (fun _ => ?_)
      refine wk_b tt_174 2 (pc' := 23) (ls' := [(0, .inr (.inr (.ref 35))), (1, .inl (a1))]) (st' := [.inl (a1), .inr (.inr (.ref 35))]) (σ' := σ) rfl ?_
      refine wk_call tt_174 rfl rfl rfl rfl rfl tt_179 rfl (by omega) (hLt (by omega) z σ (i) τ ht hk (by omega)) (fun w47 σ48 hq49 => ?_)
      obtain ⟨q56, rfl, hF50, hq49⟩ := hq49
      rcases hq49 with ⟨i51, τ52, he53, rq57, ht54, hk55⟩ | ⟨he53, hk55⟩
      ·
        refine wk_rI tt_174 rfl rfl ?_
        exact ⟨_, rfl, (sg_F_t (sg_F_r [3, 4, 5, 6, 7, 8, 9, 10, 11, 12, 13, 14, 15, 16, 17, 18, 4035, 4036, 5036, 6036, 7036, 8036, 17002] σ) (sg_F_m (L := [3, 4, 5, 6, 7, 8, 9, 10, 11, 12, 13, 14, 15, 16, 17, 18, 4035, 4036, 5036, 6036, 7036, 8036, 17002]) hF50 rfl)), Or.inl ⟨_, _, ((by simp only [pExpr, h2, hw45_w, he53, ↓reduceIte, Int.reduceEq, reduceCtorEq, or_true, true_or, or_false, false_or, and_true, true_and, and_false, false_and, not_true_eq_false, not_false_eq_true, decide_eq_true_eq, or_self, and_self, ite_self, Int.reduceLE])), (by first | omega | exact sg_Rg _ _ _ | decide), ht54, hk55⟩⟩
      ·
        refine wk_rI tt_174 rfl rfl ?_
        exact ⟨_, rfl, (sg_F_t (sg_F_r [3, 4, 5, 6, 7, 8, 9, 10, 11, 12, 13, 14, 15, 16, 17, 18, 4035, 4036, 5036, 6036, 7036, 8036, 17002] σ) (sg_F_m (L := [3, 4, 5, 6, 7, 8, 9, 10, 11, 12, 13, 14, 15, 16, 17, 18, 4035, 4036, 5036, 6036, 7036, 8036, 17002]) hF50 rfl)), Or.inr ⟨((by simp only [pExpr, h2, hw45_w, he53, ↓reduceIte, Int.reduceEq, reduceCtorEq, or_true, true_or, or_false, false_or, and_true, true_and, and_false, false_and, not_true_eq_false, not_false_eq_true, decide_eq_true_eq, or_self, and_self, ite_self, Int.reduceLE])), hk55⟩⟩
    ·
      have hw45_w : w = false := by rw [hw]; exact decide_eq_false (by omega)
      refine wk_if tt_174 (tgt := 27) rfl rfl (by decide) (fun _ => ?_) (fun (h : ¬ 0 = 0) => absurd h (by decide))
      refine wk_b tt_174 4 (pc' := 37) (ls' := [(0, .inr (.inr (.ref 35))), (1, .inl (a1))]) (st' := [.inl (264), .inl ((sg_g σ41 36 4))]) (σ' := σ41) rfl ?_
      rw [show (sg_g σ41 36 4) = 260 from by rw [hj44.1]]
      refine wk_if2 tt_174 (tgt := 54) rfl rfl (by decide) (by decide) (fun _ => ?_) (fun (h : 260 = 264) => absurd h (by decide))
      refine wk_b tt_174 2 (pc' := 56) (ls' := [(0, .inr (.inr (.ref 35))), (1, .inl (a1))]) (st' := [.inl (a1), .inr (.inr (.ref 35))]) (σ' := σ41) rfl ?_
      refine wk_call tt_174 rfl rfl rfl rfl rfl tt_170 rfl (by omega) (pj_comparison z σ41 (a1) hj44) (fun w60 σ61 hq62 => ?_)
      obtain ⟨q65, rfl, hF63, hj64⟩ := hq62
      refine wk_rI tt_174 rfl rfl ?_
      exact ⟨_, rfl, (sg_F_t (sg_F_t (sg_F_r [3, 4, 5, 6, 7, 8, 9, 10, 11, 12, 13, 14, 15, 16, 17, 18, 4035, 4036, 5036, 6036, 7036, 8036, 17002] σ) (sg_F_m (L := [3, 4, 5, 6, 7, 8, 9, 10, 11, 12, 13, 14, 15, 16, 17, 18, 4035, 4036, 5036, 6036, 7036, 8036, 17002]) hF43 rfl)) (sg_F_m (L := [3, 4, 5, 6, 7, 8, 9, 10, 11, 12, 13, 14, 15, 16, 17, 18, 4035, 4036, 5036, 6036, 7036, 8036, 17002]) hF63 rfl)), Or.inr ⟨((by simp only [pExpr, h2, hw45_w, Bool.false_eq_true, ↓reduceIte, Int.reduceEq, reduceCtorEq, or_true, true_or, or_false, false_or, and_true, true_and, and_false, false_and, not_true_eq_false, not_false_eq_true, decide_eq_true_eq, or_self, and_self, ite_self, Int.reduceLE])), hj64⟩⟩
