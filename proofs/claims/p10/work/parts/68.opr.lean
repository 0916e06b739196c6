-- NestedVectors$Parser.let
set_option maxRecDepth 8000 in
theorem px_let (c : tkC) (hc : tkOK c) (d : Nat) (a1 : Int) (hn : 0 ≤ a1 ∧ a1 ≤ 12) (E : pF) (hE : cE c d 174 (a1 + 1) (fun _ => True) E) : cE c (d + 9) 179 a1 (fun k => k = 262) (pLet c E) := by
  intro z σ i τ ht hk hp
  refine wk_b tt_179 1 (pc' := 1) (ls' := [(0, .inr (.inr (.ref 35))), (1, .inl (a1))]) (st' := [.inr (.inr (.ref 35))]) (σ' := σ) rfl ?_
  refine wk_call tt_179 rfl rfl rfl rfl rfl tt_171 rfl (by omega) (px_crt z σ c hc (i) τ ht hk (by omega)) (fun w1 σ2 hq3 => ?_)
  obtain ⟨q10, rfl, hF4, hq3⟩ := hq3
  rcases hq3 with ⟨i5, τ6, he7, rq11, ht8, hk9⟩ | ⟨he7, hk9⟩
  ·
    by_cases hs12 : tK c (i5) = 258
    ·
      refine wk_b tt_179 8 (pc' := 20) (ls' := [(2, .inl (q10)), (0, .inr (.inr (.ref 35))), (1, .inl (a1))]) (st' := [.inr (.inl ((sg_gl σ2 36 7))), .inl (q10), .inr (.inr (.ref 17))]) (σ' := σ2) rfl ?_
      rw [show (sg_gl σ2 36 7) = (tW c (i5)) from by rw [hk9.2.2.2.2.2.2.1 (by omega)]]
      refine wk_callp (v0 := none) (σ1 := (sx_putl σ2 17 200 (q10) ((tW c (i5))))) tt_179 rfl rfl rfl rfl rfl tt_22 rfl (by omega) (pt_l0 z σ2 17 200 (q10) ((tW c (i5))) rfl (by decide) (by omega)) ?_
      refine wk_b tt_179 2 (pc' := 27) (ls' := [(2, .inl (q10)), (0, .inr (.inr (.ref 35))), (1, .inl (a1))]) (st' := [.inl (258), .inr (.inr (.ref 35))]) (σ' := (sx_putl σ2 17 200 (q10) ((tW c (i5))))) rfl ?_
      refine wk_call tt_179 rfl rfl rfl rfl rfl tt_173 rfl (by omega) (px_exp z (sx_putl σ2 17 200 (q10) ((tW c (i5)))) (258) c hc (i5) (tk_ag hk9 (ag_xpl (ag_r _ _) rfl _ _ _)) (by omega)) (fun w13 σ14 hq15 => ?_)
      obtain ⟨rfl, hF16, hq15⟩ := hq15
      rcases hq15 with ⟨h17, hk18⟩ | ⟨h17, hk18⟩
      ·
        refine wk_b tt_179 2 (pc' := 33) (ls' := [(2, .inl (q10)), (0, .inr (.inr (.ref 35))), (1, .inl (a1))]) (st' := [.inl (61), .inr (.inr (.ref 35))]) (σ' := σ14) rfl ?_
        refine wk_call tt_179 rfl rfl rfl rfl rfl tt_173 rfl (by omega) (px_exp z σ14 (61) c hc (i5 + 1) hk18 (by omega)) (fun w19 σ20 hq21 => ?_)
        obtain ⟨rfl, hF22, hq21⟩ := hq21
        rcases hq21 with ⟨h23, hk24⟩ | ⟨h23, hk24⟩
        ·
          refine wk_b tt_179 7 (pc' := 45) (ls' := [(2, .inl (q10)), (0, .inr (.inr (.ref 35))), (1, .inl (a1))]) (st' := [.inl ((a1 + 1)), .inr (.inr (.ref 35)), .inl (q10), .inr (.inr (.ref 2))]) (σ' := σ20) rfl ?_
          refine wk_call tt_179 rfl rfl rfl rfl rfl tt_174 rfl (by omega) (hE z σ20 (i5 + 1 + 1) (sx_putl τ6 17 200 (q10) ((tW c (i5)))) (te_F (te_F (ag_pl ht8 _ _ _ _) hF16 rfl) hF22 rfl) hk24 trivial) (fun w25 σ26 hq27 => ?_)
          obtain ⟨q34, rfl, hF28, hq27⟩ := hq27
          rcases hq27 with ⟨i29, τ30, he31, rq35, ht32, hk33⟩ | ⟨he31, hk33⟩
          ·
            refine wk_call tt_179 rfl rfl rfl rfl rfl tt_205 rfl (by omega) (px_att z σ26 (q10) (q34) τ30 ht32 (by first | omega | exact sg_Rg _ _ _) (by first | omega | exact sg_Rg _ _ _)) (fun w36 σ37 hq38 => ?_)
            obtain ⟨rfl, hF39, ht40⟩ := hq38
            refine wk_b tt_179 2 (pc' := 55) (ls' := [(2, .inl (q10)), (0, .inr (.inr (.ref 35))), (1, .inl (a1))]) (st' := [.inl (263), .inr (.inr (.ref 35))]) (σ' := σ37) rfl ?_
            refine wk_call tt_179 rfl rfl rfl rfl rfl tt_173 rfl (by omega) (px_exp z σ37 (263) c hc (i29) (tk_ag hk33 (ag_t (tkq_F hF39 rfl) (ag_r _ _))) (by omega)) (fun w41 σ42 hq43 => ?_)
            obtain ⟨rfl, hF44, hq43⟩ := hq43
            rcases hq43 with ⟨h45, hk46⟩ | ⟨h45, hk46⟩
            ·
              refine wk_b tt_179 7 (pc' := 67) (ls' := [(2, .inl (q10)), (0, .inr (.inr (.ref 35))), (1, .inl (a1))]) (st' := [.inl ((a1 + 1)), .inr (.inr (.ref 35)), .inl (q10), .inr (.inr (.ref 2))]) (σ' := σ42) rfl ?_
              refine wk_call tt_179 rfl rfl rfl rfl rfl tt_174 rfl (by omega) (hE z σ42 (i29 + 1) (pAttach τ30 (q10) (q34)) (te_F ht40 hF44 rfl) hk46 trivial) (fun w47 σ48 hq49 => ?_)
              obtain ⟨q56, rfl, hF50, hq49⟩ := hq49
              rcases hq49 with ⟨i51, τ52, he53, rq57, ht54, hk55⟩ | ⟨he53, hk55⟩
              ·
                refine wk_call tt_179 rfl rfl rfl rfl rfl tt_205 rfl (by omega) (px_att z σ48 (q10) (q56) τ52 ht54 (by first | omega | exact sg_Rg _ _ _) (by first | omega | exact sg_Rg _ _ _)) (fun w58 σ59 hq60 => ?_)
                obtain ⟨rfl, hF61, ht62⟩ := hq60
                refine wk_b tt_179 4 (pc' := 79) (ls' := [(2, .inl (q10)), (0, .inr (.inr (.ref 35))), (1, .inl (a1))]) (st' := [.inl (q10), .inl (q10), .inr (.inr (.ref 2))]) (σ' := σ59) rfl ?_
                refine wk_call tt_179 rfl rfl rfl rfl rfl tt_206 rfl (by omega) (px_cls z σ59 (q10) (q10) (pAttach τ52 (q10) (q56)) ht62 (by first | omega | exact sg_Rg _ _ _) (by first | omega | exact sg_Rg _ _ _)) (fun w63 σ64 hq65 => ?_)
                obtain ⟨rfl, hF66, ht67⟩ := hq65
                refine wk_b tt_179 1 (pc' := 83) (ls' := [(2, .inl (q10)), (0, .inr (.inr (.ref 35))), (1, .inl (a1))]) (st' := [.inl (q10)]) (σ' := σ64) rfl ?_
                refine wk_rI tt_179 rfl rfl ?_
                exact ⟨_, rfl, (sg_F_t (sg_F_t (sg_F_t (sg_F_t (sg_F_t (sg_F_t (sg_F_t (sg_F_t (sg_F_pl (sg_F_t (sg_F_r [3, 4, 5, 6, 7, 8, 9, 10, 11, 12, 13, 14, 15, 16, 17, 18, 4035, 4036, 5036, 6036, 7036, 8036, 17002] σ) (sg_F_m (L := [3, 4, 5, 6, 7, 8, 9, 10, 11, 12, 13, 14, 15, 16, 17, 18, 4035, 4036, 5036, 6036, 7036, 8036, 17002]) hF4 rfl)) rfl _ _ _) (sg_F_m (L := [3, 4, 5, 6, 7, 8, 9, 10, 11, 12, 13, 14, 15, 16, 17, 18, 4035, 4036, 5036, 6036, 7036, 8036, 17002]) hF16 rfl)) (sg_F_m (L := [3, 4, 5, 6, 7, 8, 9, 10, 11, 12, 13, 14, 15, 16, 17, 18, 4035, 4036, 5036, 6036, 7036, 8036, 17002]) hF22 rfl)) (sg_F_m (L := [3, 4, 5, 6, 7, 8, 9, 10, 11, 12, 13, 14, 15, 16, 17, 18, 4035, 4036, 5036, 6036, 7036, 8036, 17002]) hF28 rfl)) (sg_F_m (L := [3, 4, 5, 6, 7, 8, 9, 10, 11, 12, 13, 14, 15, 16, 17, 18, 4035, 4036, 5036, 6036, 7036, 8036, 17002]) hF39 rfl)) (sg_F_m (L := [3, 4, 5, 6, 7, 8, 9, 10, 11, 12, 13, 14, 15, 16, 17, 18, 4035, 4036, 5036, 6036, 7036, 8036, 17002]) hF44 rfl)) (sg_F_m (L := [3, 4, 5, 6, 7, 8, 9, 10, 11, 12, 13, 14, 15, 16, 17, 18, 4035, 4036, 5036, 6036, 7036, 8036, 17002]) hF50 rfl)) (sg_F_m (L := [3, 4, 5, 6, 7, 8, 9, 10, 11, 12, 13, 14, 15, 16, 17, 18, 4035, 4036, 5036, 6036, 7036, 8036, 17002]) hF61 rfl)) (sg_F_m (L := [3, 4, 5, 6, 7, 8, 9, 10, 11, 12, 13, 14, 15, 16, 17, 18, 4035, 4036, 5036, 6036, 7036, 8036, 17002]) hF66 rfl)), Or.inl ⟨_, _, ((by simp only [pLet, he7, hs12, h17, h23, he31, h45, he53, ↓reduceIte, Int.reduceEq, reduceCtorEq, or_true, true_or, or_false, false_or, and_true, true_and, and_false, false_and, not_true_eq_false, not_false_eq_true, decide_eq_true_eq, or_self, and_self, ite_self, Int.reduceLE])), (by first | omega | exact sg_Rg _ _ _ | decide), ht67, (tk_ag hk55 (ag_t (tkq_F hF66 rfl) (ag_t (tkq_F hF61 rfl) (ag_r _ _))))⟩⟩
              ·
                refine wk_call tt_179 rfl rfl rfl rfl rfl tt_205 rfl (by omega) (bp_1 z σ48 (q10) (q56)) (fun w68 σ69 hq70 => ?_)
                obtain ⟨rfl, hF71⟩ := hq70
                refine wk_b tt_179 4 (pc' := 79) (ls' := [(2, .inl (q10)), (0, .inr (.inr (.ref 35))), (1, .inl (a1))]) (st' := [.inl (q10), .inl (q10), .inr (.inr (.ref 2))]) (σ' := σ69) rfl ?_
                refine wk_call tt_179 rfl rfl rfl rfl rfl tt_206 rfl (by omega) (bp_2 z σ69 (q10) (q10)) (fun w72 σ73 hq74 => ?_)
                obtain ⟨rfl, hF75⟩ := hq74
                refine wk_b tt_179 1 (pc' := 83) (ls' := [(2, .inl (q10)), (0, .inr (.inr (.ref 35))), (1, .inl (a1))]) (st' := [.inl (q10)]) (σ' := σ73) rfl ?_
                refine wk_rI tt_179 rfl rfl ?_
                exact ⟨_, rfl, (sg_F_t (sg_F_t (sg_F_t (sg_F_t (sg_F_t (sg_F_t (sg_F_t (sg_F_t (sg_F_pl (sg_F_t (sg_F_r [3, 4, 5, 6, 7, 8, 9, 10, 11, 12, 13, 14, 15, 16, 17, 18, 4035, 4036, 5036, 6036, 7036, 8036, 17002] σ) (sg_F_m (L := [3, 4, 5, 6, 7, 8, 9, 10, 11, 12, 13, 14, 15, 16, 17, 18, 4035, 4036, 5036, 6036, 7036, 8036, 17002]) hF4 rfl)) rfl _ _ _) (sg_F_m (L := [3, 4, 5, 6, 7, 8, 9, 10, 11, 12, 13, 14, 15, 16, 17, 18, 4035, 4036, 5036, 6036, 7036, 8036, 17002]) hF16 rfl)) (sg_F_m (L := [3, 4, 5, 6, 7, 8, 9, 10, 11, 12, 13, 14, 15, 16, 17, 18, 4035, 4036, 5036, 6036, 7036, 8036, 17002]) hF22 rfl)) (sg_F_m (L := [3, 4, 5, 6, 7, 8, 9, 10, 11, 12, 13, 14, 15, 16, 17, 18, 4035, 4036, 5036, 6036, 7036, 8036, 17002]) hF28 rfl)) (sg_F_m (L := [3, 4, 5, 6, 7, 8, 9, 10, 11, 12, 13, 14, 15, 16, 17, 18, 4035, 4036, 5036, 6036, 7036, 8036, 17002]) hF39 rfl)) (sg_F_m (L := [3, 4, 5, 6, 7, 8, 9, 10, 11, 12, 13, 14, 15, 16, 17, 18, 4035, 4036, 5036, 6036, 7036, 8036, 17002]) hF44 rfl)) (sg_F_m (L := [3, 4, 5, 6, 7, 8, 9, 10, 11, 12, 13, 14, 15, 16, 17, 18, 4035, 4036, 5036, 6036, 7036, 8036, 17002]) hF50 rfl)) (sg_F_m (L := [3, 4, 5, 6, 7, 8, 9, 10, 11, 12, 13, 14, 15, 16, 17, 18, 4035, 4036, 5036, 6036, 7036, 8036, 17002]) hF71 rfl)) (sg_F_m (L := [3, 4, 5, 6, 7, 8, 9, 10, 11, 12, 13, 14, 15, 16, 17, 18, 4035, 4036, 5036, 6036, 7036, 8036, 17002]) hF75 rfl)), Or.inr ⟨((by simp only [pLet, he7, hs12, h17, h23, he31, h45, he53, ↓reduceIte, Int.reduceEq, reduceCtorEq, or_true, true_or, or_false, false_or, and_true, true_and, and_false, false_and, not_true_eq_false, not_false_eq_true, decide_eq_true_eq, or_self, and_self, ite_self, Int.reduceLE])), (jm_ag hk55 (ag_t (tkq_F hF75 rfl) (ag_t (tkq_F hF71 rfl) (ag_r _ _))))⟩⟩
            ·
              refine wk_b tt_179 7 (pc' := 67) (ls' := [(2, .inl (q10)), (0, .inr (.inr (.ref 35))), (1, .inl (a1))]) (st' := [.inl ((a1 + 1)), .inr (.inr (.ref 35)), .inl (q10), .inr (.inr (.ref 2))]) (σ' := σ42) rfl ?_
              refine wk_call tt_179 rfl rfl rfl rfl rfl tt_174 rfl (by omega) (pj_expression z σ42 ((a1 + 1)) hk46) (fun w76 σ77 hq78 => ?_)
              obtain ⟨q81, rfl, hF79, hj80⟩ := hq78
              refine wk_call tt_179 rfl rfl rfl rfl rfl tt_205 rfl (by omega) (bp_1 z σ77 (q10) (q81)) (fun w82 σ83 hq84 => ?_)
              obtain ⟨rfl, hF85⟩ := hq84
              refine wk_b tt_179 4 (pc' := 79) (ls' := [(2, .inl (q10)), (0, .inr (.inr (.ref 35))), (1, .inl (a1))]) (st' := [.inl (q10), .inl (q10), .inr (.inr (.ref 2))]) (σ' := σ83) rfl ?_
              refine wk_call tt_179 rfl rfl rfl rfl rfl tt_206 rfl (by omega) (bp_2 z σ83 (q10) (q10)) (fun w86 σ87 hq88 => ?_)
              obtain ⟨rfl, hF89⟩ := hq88
              refine wk_b tt_179 1 (pc' := 83) (ls' := [(2, .inl (q10)), (0, .inr (.inr (.ref 35))), (1, .inl (a1))]) (st' := [.inl (q10)]) (σ' := σ87) rfl ?_
              refine wk_rI tt_179 rfl rfl ?_
              exact ⟨_, rfl, (sg_F_t (sg_F_t (sg_F_t (sg_F_t (sg_F_t (sg_F_t (sg_F_t (sg_F_t (sg_F_pl (sg_F_t (sg_F_r [3, 4, 5, 6, 7, 8, 9, 10, 11, 12, 13, 14, 15, 16, 17, 18, 4035, 4036, 5036, 6036, 7036, 8036, 17002] σ) (sg_F_m (L := [3, 4, 5, 6, 7, 8, 9, 10, 11, 12, 13, 14, 15, 16, 17, 18, 4035, 4036, 5036, 6036, 7036, 8036, 17002]) hF4 rfl)) rfl _ _ _) (sg_F_m (L := [3, 4, 5, 6, 7, 8, 9, 10, 11, 12, 13, 14, 15, 16, 17, 18, 4035, 4036, 5036, 6036, 7036, 8036, 17002]) hF16 rfl)) (sg_F_m (L := [3, 4, 5, 6, 7, 8, 9, 10, 11, 12, 13, 14, 15, 16, 17, 18, 4035, 4036, 5036, 6036, 7036, 8036, 17002]) hF22 rfl)) (sg_F_m (L := [3, 4, 5, 6, 7, 8, 9, 10, 11, 12, 13, 14, 15, 16, 17, 18, 4035, 4036, 5036, 6036, 7036, 8036, 17002]) hF28 rfl)) (sg_F_m (L := [3, 4, 5, 6, 7, 8, 9, 10, 11, 12, 13, 14, 15, 16, 17, 18, 4035, 4036, 5036, 6036, 7036, 8036, 17002]) hF39 rfl)) (sg_F_m (L := [3, 4, 5, 6, 7, 8, 9, 10, 11, 12, 13, 14, 15, 16, 17, 18, 4035, 4036, 5036, 6036, 7036, 8036, 17002]) hF44 rfl)) (sg_F_m (L := [3, 4, 5, 6, 7, 8, 9, 10, 11, 12, 13, 14, 15, 16, 17, 18, 4035, 4036, 5036, 6036, 7036, 8036, 17002]) hF79 rfl)) (sg_F_m (L := [3, 4, 5, 6, 7, 8, 9, 10, 11, 12, 13, 14, 15, 16, 17, 18, 4035, 4036, 5036, 6036, 7036, 8036, 17002]) hF85 rfl)) (sg_F_m (L := [3, 4, 5, 6, 7, 8, 9, 10, 11, 12, 13, 14, 15, 16, 17, 18, 4035, 4036, 5036, 6036, 7036, 8036, 17002]) hF89 rfl)), Or.inr ⟨((by simp only [pLet, he7, hs12, h17, h23, he31, h45, ↓reduceIte, Int.reduceEq, reduceCtorEq, or_true, true_or, or_false, false_or, and_true, true_and, and_false, false_and, not_true_eq_false, not_false_eq_true, decide_eq_true_eq, or_self, and_self, ite_self, Int.reduceLE])), (jm_ag hj80 (ag_t (tkq_F hF89 rfl) (ag_t (tkq_F hF85 rfl) (ag_r _ _))))⟩⟩
          ·
            refine wk_call tt_179 rfl rfl rfl rfl rfl tt_205 rfl (by omega) (bp_1 z σ26 (q10) (q34)) (fun w90 σ91 hq92 => ?_)
            obtain ⟨rfl, hF93⟩ := hq92
            refine wk_b tt_179 2 (pc' := 55) (ls' := [(2, .inl (q10)), (0, .inr (.inr (.ref 35))), (1, .inl (a1))]) (st' := [.inl (263), .inr (.inr (.ref 35))]) (σ' := σ91) rfl ?_
            refine wk_call tt_179 rfl rfl rfl rfl rfl tt_173 rfl (by omega) (pj_exp z σ91 (263) (jm_ag hk33 (ag_t (tkq_F hF93 rfl) (ag_r _ _))) (by omega)) (fun w94 σ95 hq96 => ?_)
            obtain ⟨rfl, hF97, hj98⟩ := hq96
            refine wk_b tt_179 7 (pc' := 67) (ls' := [(2, .inl (q10)), (0, .inr (.inr (.ref 35))), (1, .inl (a1))]) (st' := [.inl ((a1 + 1)), .inr (.inr (.ref 35)), .inl (q10), .inr (.inr (.ref 2))]) (σ' := σ95) rfl ?_
            refine wk_call tt_179 rfl rfl rfl rfl rfl tt_174 rfl (by omega) (pj_expression z σ95 ((a1 + 1)) hj98) (fun w99 σ100 hq101 => ?_)
            obtain ⟨q104, rfl, hF102, hj103⟩ := hq101
            refine wk_call tt_179 rfl rfl rfl rfl rfl tt_205 rfl (by omega) (bp_1 z σ100 (q10) (q104)) (fun w105 σ106 hq107 => ?_)
            obtain ⟨rfl, hF108⟩ := hq107
            refine wk_b tt_179 4 (pc' := 79) (ls' := [(2, .inl (q10)), (0, .inr (.inr (.ref 35))), (1, .inl (a1))]) (st' := [.inl (q10), .inl (q10), .inr (.inr (.ref 2))]) (σ' := σ106) rfl ?_
            refine wk_call tt_179 rfl rfl rfl rfl rfl tt_206 rfl (by omega) (bp_2 z σ106 (q10) (q10)) (fun w109 σ110 hq111 => ?_)
            obtain ⟨rfl, hF112⟩ := hq111
            refine wk_b tt_179 1 (pc' := 83) (ls' := [(2, .inl (q10)), (0, .inr (.inr (.ref 35))), (1, .inl (a1))]) (st' := [.inl (q10)]) (σ' := σ110) rfl ?_
            refine wk_rI tt_179 rfl rfl ?_
            exact ⟨_, rfl, (sg_F_t (sg_F_t (sg_F_t (sg_F_t (sg_F_t (sg_F_t (sg_F_t (sg_F_t (sg_F_pl (sg_F_t (sg_F_r [3, 4, 5, 6, 7, 8, 9, 10, 11, 12, 13, 14, 15, 16, 17, 18, 4035, 4036, 5036, 6036, 7036, 8036, 17002] σ) (sg_F_m (L := [3, 4, 5, 6, 7, 8, 9, 10, 11, 12, 13, 14, 15, 16, 17, 18, 4035, 4036, 5036, 6036, 7036, 8036, 17002]) hF4 rfl)) rfl _ _ _) (sg_F_m (L := [3, 4, 5, 6, 7, 8, 9, 10, 11, 12, 13, 14, 15, 16, 17, 18, 4035, 4036, 5036, 6036, 7036, 8036, 17002]) hF16 rfl)) (sg_F_m (L := [3, 4, 5, 6, 7, 8, 9, 10, 11, 12, 13, 14, 15, 16, 17, 18, 4035, 4036, 5036, 6036, 7036, 8036, 17002]) hF22 rfl)) (sg_F_m (L := [3, 4, 5, 6, 7, 8, 9, 10, 11, 12, 13, 14, 15, 16, 17, 18, 4035, 4036, 5036, 6036, 7036, 8036, 17002]) hF28 rfl)) (sg_F_m (L := [3, 4, 5, 6, 7, 8, 9, 10, 11, 12, 13, 14, 15, 16, 17, 18, 4035, 4036, 5036, 6036, 7036, 8036, 17002]) hF93 rfl)) (sg_F_m (L := [3, 4, 5, 6, 7, 8, 9, 10, 11, 12, 13, 14, 15, 16, 17, 18, 4035, 4036, 5036, 6036, 7036, 8036, 17002]) hF97 rfl)) (sg_F_m (L := [3, 4, 5, 6, 7, 8, 9, 10, 11, 12, 13, 14, 15, 16, 17, 18, 4035, 4036, 5036, 6036, 7036, 8036, 17002]) hF102 rfl)) (sg_F_m (L := [3, 4, 5, 6, 7, 8, 9, 10, 11, 12, 13, 14, 15, 16, 17, 18, 4035, 4036, 5036, 6036, 7036, 8036, 17002]) hF108 rfl)) (sg_F_m (L := [3, 4, 5, 6, 7, 8, 9, 10, 11, 12, 13, 14, 15, 16, 17, 18, 4035, 4036, 5036, 6036, 7036, 8036, 17002]) hF112 rfl)), Or.inr ⟨((by simp only [pLet, he7, hs12, h17, h23, he31, ↓reduceIte, Int.reduceEq, reduceCtorEq, or_true, true_or, or_false, false_or, and_true, true_and, and_false, false_and, not_true_eq_false, not_false_eq_true, decide_eq_true_eq, or_self, and_self, ite_self, Int.reduceLE])), (jm_ag hj103 (ag_t (tkq_F hF112 rfl) (ag_t (tkq_F hF108 rfl) (ag_r _ _))))⟩⟩
        ·
          refine wk_b tt_179 7 (pc' := 45) (ls' := [(2, .inl (q10)), (0, .inr (.inr (.ref 35))), (1, .inl (a1))]) (st' := [.inl ((a1 + 1)), .inr (.inr (.ref 35)), .inl (q10), .inr (.inr (.ref 2))]) (σ' := σ20) rfl ?_
          refine wk_call tt_179 rfl rfl rfl rfl rfl tt_174 rfl (by omega) (pj_expression z σ20 ((a1 + 1)) hk24) (fun w113 σ114 hq115 => ?_)
          obtain ⟨q118, rfl, hF116, hj117⟩ := hq115
          refine wk_call tt_179 rfl rfl rfl rfl rfl tt_205 rfl (by omega) (bp_1 z σ114 (q10) (q118)) (fun w119 σ120 hq121 => ?_)
          obtain ⟨rfl, hF122⟩ := hq121
          refine wk_b tt_179 2 (pc' := 55) (ls' := [(2, .inl (q10)), (0, .inr (.inr (.ref 35))), (1, .inl (a1))]) (st' := [.inl (263), .inr (.inr (.ref 35))]) (σ' := σ120) rfl ?_
          refine wk_call tt_179 rfl rfl rfl rfl rfl tt_173 rfl (by omega) (pj_exp z σ120 (263) (jm_ag hj117 (ag_t (tkq_F hF122 rfl) (ag_r _ _))) (by omega)) (fun w123 σ124 hq125 => ?_)
          obtain ⟨rfl, hF126, hj127⟩ := hq125
          refine wk_b tt_179 7 (pc' := 67) (ls' := [(2, .inl (q10)), (0, .inr (.inr (.ref 35))), (1, .inl (a1))]) (st' := [.inl ((a1 + 1)), .inr (.inr (.ref 35)), .inl (q10), .inr (.inr (.ref 2))]) (σ' := σ124) rfl ?_
          refine wk_call tt_179 rfl rfl rfl rfl rfl tt_174 rfl (by omega) (pj_expression z σ124 ((a1 + 1)) hj127) (fun w128 σ129 hq130 => ?_)
          obtain ⟨q133, rfl, hF131, hj132⟩ := hq130
          refine wk_call tt_179 rfl rfl rfl rfl rfl tt_205 rfl (by omega) (bp_1 z σ129 (q10) (q133)) (fun w134 σ135 hq136 => ?_)
          obtain ⟨rfl, hF137⟩ := hq136
          refine wk_b tt_179 4 (pc' := 79) (ls' := [(2, .inl (q10)), (0, .inr (.inr (.ref 35))), (1, .inl (a1))]) (st' := [.inl (q10), .inl (q10), .inr (.inr (.ref 2))]) (σ' := σ135) rfl ?_
          refine wk_call tt_179 rfl rfl rfl rfl rfl tt_206 rfl (by omega) (bp_2 z σ135 (q10) (q10)) (fun w138 σ139 hq140 => ?_)
          obtain ⟨rfl, hF141⟩ := hq140
          refine wk_b tt_179 1 (pc' := 83) (ls' := [(2, .inl (q10)), (0, .inr (.inr (.ref 35))), (1, .inl (a1))]) (st' := [.inl (q10)]) (σ' := σ139) rfl ?_
          refine wk_rI tt_179 rfl rfl ?_
          exact ⟨_, rfl, (sg_F_t (sg_F_t (sg_F_t (sg_F_t (sg_F_t (sg_F_t (sg_F_t (sg_F_t (sg_F_pl (sg_F_t (sg_F_r [3, 4, 5, 6, 7, 8, 9, 10, 11, 12, 13, 14, 15, 16, 17, 18, 4035, 4036, 5036, 6036, 7036, 8036, 17002] σ) (sg_F_m (L := [3, 4, 5, 6, 7, 8, 9, 10, 11, 12, 13, 14, 15, 16, 17, 18, 4035, 4036, 5036, 6036, 7036, 8036, 17002]) hF4 rfl)) rfl _ _ _) (sg_F_m (L := [3, 4, 5, 6, 7, 8, 9, 10, 11, 12, 13, 14, 15, 16, 17, 18, 4035, 4036, 5036, 6036, 7036, 8036, 17002]) hF16 rfl)) (sg_F_m (L := [3, 4, 5, 6, 7, 8, 9, 10, 11, 12, 13, 14, 15, 16, 17, 18, 4035, 4036, 5036, 6036, 7036, 8036, 17002]) hF22 rfl)) (sg_F_m (L := [3, 4, 5, 6, 7, 8, 9, 10, 11, 12, 13, 14, 15, 16, 17, 18, 4035, 4036, 5036, 6036, 7036, 8036, 17002]) hF116 rfl)) (sg_F_m (L := [3, 4, 5, 6, 7, 8, 9, 10, 11, 12, 13, 14, 15, 16, 17, 18, 4035, 4036, 5036, 6036, 7036, 8036, 17002]) hF122 rfl)) (sg_F_m (L := [3, 4, 5, 6, 7, 8, 9, 10, 11, 12, 13, 14, 15, 16, 17, 18, 4035, 4036, 5036, 6036, 7036, 8036, 17002]) hF126 rfl)) (sg_F_m (L := [3, 4, 5, 6, 7, 8, 9, 10, 11, 12, 13, 14, 15, 16, 17, 18, 4035, 4036, 5036, 6036, 7036, 8036, 17002]) hF131 rfl)) (sg_F_m (L := [3, 4, 5, 6, 7, 8, 9, 10, 11, 12, 13, 14, 15, 16, 17, 18, 4035, 4036, 5036, 6036, 7036, 8036, 17002]) hF137 rfl)) (sg_F_m (L := [3, 4, 5, 6, 7, 8, 9, 10, 11, 12, 13, 14, 15, 16, 17, 18, 4035, 4036, 5036, 6036, 7036, 8036, 17002]) hF141 rfl)), Or.inr ⟨((by simp only [pLet, he7, hs12, h17, h23, ↓reduceIte, Int.reduceEq, reduceCtorEq, or_true, true_or, or_false, false_or, and_true, true_and, and_false, false_and, not_true_eq_false, not_false_eq_true, decide_eq_true_eq, or_self, and_self, ite_self, Int.reduceLE])), (jm_ag hj132 (ag_t (tkq_F hF141 rfl) (ag_t (tkq_F hF137 rfl) (ag_r _ _))))⟩⟩
      ·
        exact absurd hs12 h17
    ·
      refine wk_b tt_179 8 (pc' := 20) (ls' := [(2, .inl (q10)), (0, .inr (.inr (.ref 35))), (1, .inl (a1))]) (st' := [.inr (.inl ((sg_gl σ2 36 7))), .inl (q10), .inr (.inr (.ref 17))]) (σ' := σ2) rfl ?_
      refine wk_callp (v0 := none) (σ1 := (sx_putl σ2 17 200 (q10) ((sg_gl σ2 36 7)))) tt_179 rfl rfl rfl rfl rfl tt_22 rfl (by omega) (pt_l0 z σ2 17 200 (q10) ((sg_gl σ2 36 7)) rfl (by decide) (by omega)) ?_
      refine wk_b tt_179 2 (pc' := 27) (ls' := [(2, .inl (q10)), (0, .inr (.inr (.ref 35))), (1, .inl (a1))]) (st' := [.inl (258), .inr (.inr (.ref 35))]) (σ' := (sx_putl σ2 17 200 (q10) ((sg_gl σ2 36 7)))) rfl ?_
      refine wk_call tt_179 rfl rfl rfl rfl rfl tt_173 rfl (by omega) (px_exp z (sx_putl σ2 17 200 (q10) ((sg_gl σ2 36 7))) (258) c hc (i5) (tk_ag hk9 (ag_xpl (ag_r _ _) rfl _ _ _)) (by omega)) (fun w142 σ143 hq144 => ?_)
      obtain ⟨rfl, hF145, hq144⟩ := hq144
      rcases hq144 with ⟨h146, hk147⟩ | ⟨h146, hk147⟩
      ·
        exact absurd h146 hs12
      ·
        refine wk_b tt_179 2 (pc' := 33) (ls' := [(2, .inl (q10)), (0, .inr (.inr (.ref 35))), (1, .inl (a1))]) (st' := [.inl (61), .inr (.inr (.ref 35))]) (σ' := σ143) rfl ?_
        refine wk_call tt_179 rfl rfl rfl rfl rfl tt_173 rfl (by omega) (pj_exp z σ143 (61) hk147 (by omega)) (fun w148 σ149 hq150 => ?_)
        obtain ⟨rfl, hF151, hj152⟩ := hq150
        refine wk_b tt_179 7 (pc' := 45) (ls' := [(2, .inl (q10)), (0, .inr (.inr (.ref 35))), (1, .inl (a1))]) (st' := [.inl ((a1 + 1)), .inr (.inr (.ref 35)), .inl (q10), .inr (.inr (.ref 2))]) (σ' := σ149) rfl ?_
        refine wk_call tt_179 rfl rfl rfl rfl rfl tt_174 rfl (by omega) (pj_expression z σ149 ((a1 + 1)) hj152) (fun w153 σ154 hq155 => ?_)
        obtain ⟨q158, rfl, hF156, hj157⟩ := hq155
        refine wk_call tt_179 rfl rfl rfl rfl rfl tt_205 rfl (by omega) (bp_1 z σ154 (q10) (q158)) (fun w159 σ160 hq161 => ?_)
        obtain ⟨rfl, hF162⟩ := hq161
        refine wk_b tt_179 2 (pc' := 55) (ls' := [(2, .inl (q10)), (0, .inr (.inr (.ref 35))), (1, .inl (a1))]) (st' := [.inl (263), .inr (.inr (.ref 35))]) (σ' := σ160) rfl ?_
        refine wk_call tt_179 rfl rfl rfl rfl rfl tt_173 rfl (by omega) (pj_exp z σ160 (263) (jm_ag hj157 (ag_t (tkq_F hF162 rfl) (ag_r _ _))) (by omega)) (fun w163 σ164 hq165 => ?_)
        obtain ⟨rfl, hF166, hj167⟩ := hq165
        refine wk_b tt_179 7 (pc' := 67) (ls' := [(2, .inl (q10)), (0, .inr (.inr (.ref 35))), (1, .inl (a1))]) (st' := [.inl ((a1 + 1)), .inr (.inr (.ref 35)), .inl (q10), .inr (.inr (.ref 2))]) (σ' := σ164) rfl ?_
        refine wk_call tt_179 rfl rfl rfl rfl rfl tt_174 rfl (by omega) (pj_expression z σ164 ((a1 + 1)) hj167) (fun w168 σ169 hq170 => ?_)
        obtain ⟨q173, rfl, hF171, hj172⟩ := hq170
        refine wk_call tt_179 rfl rfl rfl rfl rfl tt_205 rfl (by omega) (bp_1 z σ169 (q10) (q173)) (fun w174 σ175 hq176 => ?_)
        obtain ⟨rfl, hF177⟩ := hq176
        refine wk_b tt_179 4 (pc' := 79) (ls' := [(2, .inl (q10)), (0, .inr (.inr (.ref 35))), (1, .inl (a1))]) (st' := [.inl (q10), .inl (q10), .inr (.inr (.ref 2))]) (σ' := σ175) rfl ?_
        refine wk_call tt_179 rfl rfl rfl rfl rfl tt_206 rfl (by omega) (bp_2 z σ175 (q10) (q10)) (fun w178 σ179 hq180 => ?_)
        obtain ⟨rfl, hF181⟩ := hq180
        refine wk_b tt_179 1 (pc' := 83) (ls' := [(2, .inl (q10)), (0, .inr (.inr (.ref 35))), (1, .inl (a1))]) (st' := [.inl (q10)]) (σ' := σ179) rfl ?_
        refine wk_rI tt_179 rfl rfl ?_
        exact ⟨_, rfl, (sg_F_t (sg_F_t (sg_F_t (sg_F_t (sg_F_t (sg_F_t (sg_F_t (sg_F_t (sg_F_pl (sg_F_t (sg_F_r [3, 4, 5, 6, 7, 8, 9, 10, 11, 12, 13, 14, 15, 16, 17, 18, 4035, 4036, 5036, 6036, 7036, 8036, 17002] σ) (sg_F_m (L := [3, 4, 5, 6, 7, 8, 9, 10, 11, 12, 13, 14, 15, 16, 17, 18, 4035, 4036, 5036, 6036, 7036, 8036, 17002]) hF4 rfl)) rfl _ _ _) (sg_F_m (L := [3, 4, 5, 6, 7, 8, 9, 10, 11, 12, 13, 14, 15, 16, 17, 18, 4035, 4036, 5036, 6036, 7036, 8036, 17002]) hF145 rfl)) (sg_F_m (L := [3, 4, 5, 6, 7, 8, 9, 10, 11, 12, 13, 14, 15, 16, 17, 18, 4035, 4036, 5036, 6036, 7036, 8036, 17002]) hF151 rfl)) (sg_F_m (L := [3, 4, 5, 6, 7, 8, 9, 10, 11, 12, 13, 14, 15, 16, 17, 18, 4035, 4036, 5036, 6036, 7036, 8036, 17002]) hF156 rfl)) (sg_F_m (L := [3, 4, 5, 6, 7, 8, 9, 10, 11, 12, 13, 14, 15, 16, 17, 18, 4035, 4036, 5036, 6036, 7036, 8036, 17002]) hF162 rfl)) (sg_F_m (L := [3, 4, 5, 6, 7, 8, 9, 10, 11, 12, 13, 14, 15, 16, 17, 18, 4035, 4036, 5036, 6036, 7036, 8036, 17002]) hF166 rfl)) (sg_F_m (L := [3, 4, 5, 6, 7, 8, 9, 10, 11, 12, 13, 14, 15, 16, 17, 18, 4035, 4036, 5036, 6036, 7036, 8036, 17002]) hF171 rfl)) (sg_F_m (L := [3, 4, 5, 6, 7, 8, 9, 10, 11, 12, 13, 14, 15, 16, 17, 18, 4035, 4036, 5036, 6036, 7036, 8036, 17002]) hF177 rfl)) (sg_F_m (L := [3, 4, 5, 6, 7, 8, 9, 10, 11, 12, 13, 14, 15, 16, 17, 18, 4035, 4036, 5036, 6036, 7036, 8036, 17002]) hF181 rfl)), Or.inr ⟨((by simp only [pLet, he7, hs12, h146, ↓reduceIte, Int.reduceEq, reduceCtorEq, or_true, true_or, or_false, false_or, and_true, true_and, and_false, false_and, not_true_eq_false, not_false_eq_true, decide_eq_true_eq, or_self, and_self, ite_self, Int.reduceLE])), (jm_ag hj172 (ag_t (tkq_F hF181 rfl) (ag_t (tkq_F hF177 rfl) (ag_r _ _))))⟩⟩
  ·
    refine wk_b tt_179 8 (pc' := 20) (ls' := [(2, .inl (q10)), (0, .inr (.inr (.ref 35))), (1, .inl (a1))]) (st' := [.inr (.inl ((sg_gl σ2 36 7))), .inl (q10), .inr (.inr (.ref 17))]) (σ' := σ2) rfl ?_
    refine wk_callp (v0 := none) (σ1 := (sx_putl σ2 17 200 (sg_n (q10)) ((sg_gl σ2 36 7)))) tt_179 rfl rfl rfl rfl rfl tt_22 rfl (by omega) (pt_l z σ2 17 200 (q10) ((sg_gl σ2 36 7)) rfl (by decide)) ?_
    refine wk_b tt_179 2 (pc' := 27) (ls' := [(2, .inl (q10)), (0, .inr (.inr (.ref 35))), (1, .inl (a1))]) (st' := [.inl (258), .inr (.inr (.ref 35))]) (σ' := (sx_putl σ2 17 200 (sg_n (q10)) ((sg_gl σ2 36 7)))) rfl ?_
    refine wk_call tt_179 rfl rfl rfl rfl rfl tt_173 rfl (by omega) (pj_exp z (sx_putl σ2 17 200 (sg_n (q10)) ((sg_gl σ2 36 7))) (258) (jm_ag hk9 (ag_xpl (ag_r _ _) rfl _ _ _)) (by omega)) (fun w182 σ183 hq184 => ?_)
    obtain ⟨rfl, hF185, hj186⟩ := hq184
    refine wk_b tt_179 2 (pc' := 33) (ls' := [(2, .inl (q10)), (0, .inr (.inr (.ref 35))), (1, .inl (a1))]) (st' := [.inl (61), .inr (.inr (.ref 35))]) (σ' := σ183) rfl ?_
    refine wk_call tt_179 rfl rfl rfl rfl rfl tt_173 rfl (by omega) (pj_exp z σ183 (61) hj186 (by omega)) (fun w187 σ188 hq189 => ?_)
    obtain ⟨rfl, hF190, hj191⟩ := hq189
    refine wk_b tt_179 7 (pc' := 45) (ls' := [(2, .inl (q10)), (0, .inr (.inr (.ref 35))), (1, .inl (a1))]) (st' := [.inl ((a1 + 1)), .inr (.inr (.ref 35)), .inl (q10), .inr (.inr (.ref 2))]) (σ' := σ188) rfl ?_
    refine wk_call tt_179 rfl rfl rfl rfl rfl tt_174 rfl (by omega) (pj_expression z σ188 ((a1 + 1)) hj191) (fun w192 σ193 hq194 => ?_)
    obtain ⟨q197, rfl, hF195, hj196⟩ := hq194
    refine wk_call tt_179 rfl rfl rfl rfl rfl tt_205 rfl (by omega) (bp_1 z σ193 (q10) (q197)) (fun w198 σ199 hq200 => ?_)
    obtain ⟨rfl, hF201⟩ := hq200
    refine wk_b tt_179 2 (pc' := 55) (ls' := [(2, .inl (q10)), (0, .inr (.inr (.ref 35))), (1, .inl (a1))]) (st' := [.inl (263), .inr (.inr (.ref 35))]) (σ' := σ199) rfl ?_
    refine wk_call tt_179 rfl rfl rfl rfl rfl tt_173 rfl (by omega) (pj_exp z σ199 (263) (jm_ag hj196 (ag_t (tkq_F hF201 rfl) (ag_r _ _))) (by omega)) (fun w202 σ203 hq204 => ?_)
    obtain ⟨rfl, hF205, hj206⟩ := hq204
    refine wk_b tt_179 7 (pc' := 67) (ls' := [(2, .inl (q10)), (0, .inr (.inr (.ref 35))), (1, .inl (a1))]) (st' := [.inl ((a1 + 1)), .inr (.inr (.ref 35)), .inl (q10), .inr (.inr (.ref 2))]) (σ' := σ203) rfl ?_
    refine wk_call tt_179 rfl rfl rfl rfl rfl tt_174 rfl (by omega) (pj_expression z σ203 ((a1 + 1)) hj206) (fun w207 σ208 hq209 => ?_)
    obtain ⟨q212, rfl, hF210, hj211⟩ := hq209
    refine wk_call tt_179 rfl rfl rfl rfl rfl tt_205 rfl (by omega) (bp_1 z σ208 (q10) (q212)) (fun w213 σ214 hq215 => ?_)
    obtain ⟨rfl, hF216⟩ := hq215
    refine wk_b tt_179 4 (pc' := 79) (ls' := [(2, .inl (q10)), (0, .inr (.inr (.ref 35))), (1, .inl (a1))]) (st' := [.inl (q10), .inl (q10), .inr (.inr (.ref 2))]) (σ' := σ214) rfl ?_
    refine wk_call tt_179 rfl rfl rfl rfl rfl tt_206 rfl (by omega) (bp_2 z σ214 (q10) (q10)) (fun w217 σ218 hq219 => ?_)
    obtain ⟨rfl, hF220⟩ := hq219
    refine wk_b tt_179 1 (pc' := 83) (ls' := [(2, .inl (q10)), (0, .inr (.inr (.ref 35))), (1, .inl (a1))]) (st' := [.inl (q10)]) (σ' := σ218) rfl ?_
    refine wk_rI tt_179 rfl rfl ?_
    exact ⟨_, rfl, (sg_F_t (sg_F_t (sg_F_t (sg_F_t (sg_F_t (sg_F_t (sg_F_t (sg_F_t (sg_F_pl (sg_F_t (sg_F_r [3, 4, 5, 6, 7, 8, 9, 10, 11, 12, 13, 14, 15, 16, 17, 18, 4035, 4036, 5036, 6036, 7036, 8036, 17002] σ) (sg_F_m (L := [3, 4, 5, 6, 7, 8, 9, 10, 11, 12, 13, 14, 15, 16, 17, 18, 4035, 4036, 5036, 6036, 7036, 8036, 17002]) hF4 rfl)) rfl _ _ _) (sg_F_m (L := [3, 4, 5, 6, 7, 8, 9, 10, 11, 12, 13, 14, 15, 16, 17, 18, 4035, 4036, 5036, 6036, 7036, 8036, 17002]) hF185 rfl)) (sg_F_m (L := [3, 4, 5, 6, 7, 8, 9, 10, 11, 12, 13, 14, 15, 16, 17, 18, 4035, 4036, 5036, 6036, 7036, 8036, 17002]) hF190 rfl)) (sg_F_m (L := [3, 4, 5, 6, 7, 8, 9, 10, 11, 12, 13, 14, 15, 16, 17, 18, 4035, 4036, 5036, 6036, 7036, 8036, 17002]) hF195 rfl)) (sg_F_m (L := [3, 4, 5, 6, 7, 8, 9, 10, 11, 12, 13, 14, 15, 16, 17, 18, 4035, 4036, 5036, 6036, 7036, 8036, 17002]) hF201 rfl)) (sg_F_m (L := [3, 4, 5, 6, 7, 8, 9, 10, 11, 12, 13, 14, 15, 16, 17, 18, 4035, 4036, 5036, 6036, 7036, 8036, 17002]) hF205 rfl)) (sg_F_m (L := [3, 4, 5, 6, 7, 8, 9, 10, 11, 12, 13, 14, 15, 16, 17, 18, 4035, 4036, 5036, 6036, 7036, 8036, 17002]) hF210 rfl)) (sg_F_m (L := [3, 4, 5, 6, 7, 8, 9, 10, 11, 12, 13, 14, 15, 16, 17, 18, 4035, 4036, 5036, 6036, 7036, 8036, 17002]) hF216 rfl)) (sg_F_m (L := [3, 4, 5, 6, 7, 8, 9, 10, 11, 12, 13, 14, 15, 16, 17, 18, 4035, 4036, 5036, 6036, 7036, 8036, 17002]) hF220 rfl)), Or.inr ⟨((by simp only [pLet, he7, ↓reduceIte, Int.reduceEq, reduceCtorEq, or_true, true_or, or_false, false_or, and_true, true_and, and_false, false_and, not_true_eq_false, not_false_eq_true, decide_eq_true_eq, or_self, and_self, ite_self, Int.reduceLE])), (jm_ag hj211 (ag_t (tkq_F hF220 rfl) (ag_t (tkq_F hF216 rfl) (ag_r _ _))))⟩⟩
-- NestedVectors$Parser.choice
set_option maxRecDepth 8000 in
theorem px_cho (c : tkC) (hc : tkOK c) (d : Nat) (a1 : Int) (hn : 0 ≤ a1 ∧ a1 ≤ 12) (E : pF) (hE : cE c d 174 (a1 + 1) (fun _ => True) E) : cE c (d + 9) 169 a1 (fun k => k = 264) (pIf c E) := by
  intro z σ i τ ht hk hp
  refine wk_b tt_169 1 (pc' := 1) (ls' := [(0, .inr (.inr (.ref 35))), (1, .inl (a1))]) (st' := [.inr (.inr (.ref 35))]) (σ' := σ) rfl ?_
  refine wk_call tt_169 rfl rfl rfl rfl rfl tt_171 rfl (by omega) (px_crt z σ c hc (i) τ ht hk (by omega)) (fun w1 σ2 hq3 => ?_)
  obtain ⟨q10, rfl, hF4, hq3⟩ := hq3
  rcases hq3 with ⟨i5, τ6, he7, rq11, ht8, hk9⟩ | ⟨he7, hk9⟩
  ·
    refine wk_b tt_169 8 (pc' := 14) (ls' := [(2, .inl (q10)), (0, .inr (.inr (.ref 35))), (1, .inl (a1))]) (st' := [.inl ((a1 + 1)), .inr (.inr (.ref 35)), .inl (q10), .inr (.inr (.ref 2))]) (σ' := σ2) rfl ?_
    refine wk_call tt_169 rfl rfl rfl rfl rfl tt_174 rfl (by omega) (hE z σ2 (i5) τ6 ht8 hk9 trivial) (fun w12 σ13 hq14 => ?_)
    obtain ⟨q21, rfl, hF15, hq14⟩ := hq14
    rcases hq14 with ⟨i16, τ17, he18, rq22, ht19, hk20⟩ | ⟨he18, hk20⟩
    ·
      refine wk_call tt_169 rfl rfl rfl rfl rfl tt_205 rfl (by omega) (px_att z σ13 (q10) (q21) τ17 ht19 (by first | omega | exact sg_Rg _ _ _) (by first | omega | exact sg_Rg _ _ _)) (fun w23 σ24 hq25 => ?_)
      obtain ⟨rfl, hF26, ht27⟩ := hq25
      refine wk_b tt_169 2 (pc' := 24) (ls' := [(2, .inl (q10)), (0, .inr (.inr (.ref 35))), (1, .inl (a1))]) (st' := [.inl (265), .inr (.inr (.ref 35))]) (σ' := σ24) rfl ?_
      refine wk_call tt_169 rfl rfl rfl rfl rfl tt_173 rfl (by omega) (px_exp z σ24 (265) c hc (i16) (tk_ag hk20 (ag_t (tkq_F hF26 rfl) (ag_r _ _))) (by omega)) (fun w28 σ29 hq30 => ?_)
      obtain ⟨rfl, hF31, hq30⟩ := hq30
      rcases hq30 with ⟨h32, hk33⟩ | ⟨h32, hk33⟩
      ·
        refine wk_b tt_169 7 (pc' := 36) (ls' := [(2, .inl (q10)), (0, .inr (.inr (.ref 35))), (1, .inl (a1))]) (st' := [.inl ((a1 + 1)), .inr (.inr (.ref 35)), .inl (q10), .inr (.inr (.ref 2))]) (σ' := σ29) rfl ?_
        refine wk_call tt_169 rfl rfl rfl rfl rfl tt_174 rfl (by omega) (hE z σ29 (i16 + 1) (pAttach τ17 (q10) (q21)) (te_F ht27 hF31 rfl) hk33 trivial) (fun w34 σ35 hq36 => ?_)
        obtain ⟨q43, rfl, hF37, hq36⟩ := hq36
        rcases hq36 with ⟨i38, τ39, he40, rq44, ht41, hk42⟩ | ⟨he40, hk42⟩
        ·
          refine wk_call tt_169 rfl rfl rfl rfl rfl tt_205 rfl (by omega) (px_att z σ35 (q10) (q43) τ39 ht41 (by first | omega | exact sg_Rg _ _ _) (by first | omega | exact sg_Rg _ _ _)) (fun w45 σ46 hq47 => ?_)
          obtain ⟨rfl, hF48, ht49⟩ := hq47
          refine wk_b tt_169 2 (pc' := 46) (ls' := [(2, .inl (q10)), (0, .inr (.inr (.ref 35))), (1, .inl (a1))]) (st' := [.inl (266), .inr (.inr (.ref 35))]) (σ' := σ46) rfl ?_
          refine wk_call tt_169 rfl rfl rfl rfl rfl tt_173 rfl (by omega) (px_exp z σ46 (266) c hc (i38) (tk_ag hk42 (ag_t (tkq_F hF48 rfl) (ag_r _ _))) (by omega)) (fun w50 σ51 hq52 => ?_)
          obtain ⟨rfl, hF53, hq52⟩ := hq52
          rcases hq52 with ⟨h54, hk55⟩ | ⟨h54, hk55⟩
          ·
            refine wk_b tt_169 7 (pc' := 58) (ls' := [(2, .inl (q10)), (0, .inr (.inr (.ref 35))), (1, .inl (a1))]) (st' := [.inl ((a1 + 1)), .inr (.inr (.ref 35)), .inl (q10), .inr (.inr (.ref 2))]) (σ' := σ51) rfl ?_
            refine wk_call tt_169 rfl rfl rfl rfl rfl tt_174 rfl (by omega) (hE z σ51 (i38 + 1) (pAttach τ39 (q10) (q43)) (te_F ht49 hF53 rfl) hk55 trivial) (fun w56 σ57 hq58 => ?_)
            obtain ⟨q65, rfl, hF59, hq58⟩ := hq58
            rcases hq58 with ⟨i60, τ61, he62, rq66, ht63, hk64⟩ | ⟨he62, hk64⟩
            ·
              refine wk_call tt_169 rfl rfl rfl rfl rfl tt_205 rfl (by omega) (px_att z σ57 (q10) (q65) τ61 ht63 (by first | omega | exact sg_Rg _ _ _) (by first | omega | exact sg_Rg _ _ _)) (fun w67 σ68 hq69 => ?_)
              obtain ⟨rfl, hF70, ht71⟩ := hq69
              refine wk_b tt_169 4 (pc' := 70) (ls' := [(2, .inl (q10)), (0, .inr (.inr (.ref 35))), (1, .inl (a1))]) (st' := [.inl (q10), .inl (q10), .inr (.inr (.ref 2))]) (σ' := σ68) rfl ?_
              refine wk_call tt_169 rfl rfl rfl rfl rfl tt_206 rfl (by omega) (px_cls z σ68 (q10) (q10) (pAttach τ61 (q10) (q65)) ht71 (by first | omega | exact sg_Rg _ _ _) (by first | omega | exact sg_Rg _ _ _)) (fun w72 σ73 hq74 => ?_)
              obtain ⟨rfl, hF75, ht76⟩ := hq74
              refine wk_b tt_169 1 (pc' := 74) (ls' := [(2, .inl (q10)), (0, .inr (.inr (.ref 35))), (1, .inl (a1))]) (st' := [.inl (q10)]) (σ' := σ73) rfl ?_
              refine wk_rI tt_169 rfl rfl ?_
              exact ⟨_, rfl, (sg_F_t (sg_F_t (sg_F_t (sg_F_t (sg_F_t (sg_F_t (sg_F_t (sg_F_t (sg_F_t (sg_F_t (sg_F_r [3, 4, 5, 6, 7, 8, 9, 10, 11, 12, 13, 14, 15, 16, 17, 18, 4035, 4036, 5036, 6036, 7036, 8036, 17002] σ) (sg_F_m (L := [3, 4, 5, 6, 7, 8, 9, 10, 11, 12, 13, 14, 15, 16, 17, 18, 4035, 4036, 5036, 6036, 7036, 8036, 17002]) hF4 rfl)) (sg_F_m (L := [3, 4, 5, 6, 7, 8, 9, 10, 11, 12, 13, 14, 15, 16, 17, 18, 4035, 4036, 5036, 6036, 7036, 8036, 17002]) hF15 rfl)) (sg_F_m (L := [3, 4, 5, 6, 7, 8, 9, 10, 11, 12, 13, 14, 15, 16, 17, 18, 4035, 4036, 5036, 6036, 7036, 8036, 17002]) hF26 rfl)) (sg_F_m (L := [3, 4, 5, 6, 7, 8, 9, 10, 11, 12, 13, 14, 15, 16, 17, 18, 4035, 4036, 5036, 6036, 7036, 8036, 17002]) hF31 rfl)) (sg_F_m (L := [3, 4, 5, 6, 7, 8, 9, 10, 11, 12, 13, 14, 15, 16, 17, 18, 4035, 4036, 5036, 6036, 7036, 8036, 17002]) hF37 rfl)) (sg_F_m (L := [3, 4, 5, 6, 7, 8, 9, 10, 11, 12, 13, 14, 15, 16, 17, 18, 4035, 4036, 5036, 6036, 7036, 8036, 17002]) hF48 rfl)) (sg_F_m (L := [3, 4, 5, 6, 7, 8, 9, 10, 11, 12, 13, 14, 15, 16, 17, 18, 4035, 4036, 5036, 6036, 7036, 8036, 17002]) hF53 rfl)) (sg_F_m (L := [3, 4, 5, 6, 7, 8, 9, 10, 11, 12, 13, 14, 15, 16, 17, 18, 4035, 4036, 5036, 6036, 7036, 8036, 17002]) hF59 rfl)) (sg_F_m (L := [3, 4, 5, 6, 7, 8, 9, 10, 11, 12, 13, 14, 15, 16, 17, 18, 4035, 4036, 5036, 6036, 7036, 8036, 17002]) hF70 rfl)) (sg_F_m (L := [3, 4, 5, 6, 7, 8, 9, 10, 11, 12, 13, 14, 15, 16, 17, 18, 4035, 4036, 5036, 6036, 7036, 8036, 17002]) hF75 rfl)), Or.inl ⟨_, _, ((by simp only [pIf, he7, he18, h32, he40, h54, he62, ↓reduceIte, Int.reduceEq, reduceCtorEq, or_true, true_or, or_false, false_or, and_true, true_and, and_false, false_and, not_true_eq_false, not_false_eq_true, decide_eq_true_eq, or_self, and_self, ite_self, Int.reduceLE])), (by first | omega | exact sg_Rg _ _ _ | decide), ht76, (tk_ag hk64 (ag_t (tkq_F hF75 rfl) (ag_t (tkq_F hF70 rfl) (ag_r _ _))))⟩⟩
            ·
              refine wk_call tt_169 rfl rfl rfl rfl rfl tt_205 rfl (by omega) (bp_1 z σ57 (q10) (q65)) (fun w77 σ78 hq79 => ?_)
              obtain ⟨rfl, hF80⟩ := hq79
              refine wk_b tt_169 4 (pc' := 70) (ls' := [(2, .inl (q10)), (0, .inr (.inr (.ref 35))), (1, .inl (a1))]) (st' := [.inl (q10), .inl (q10), .inr (.inr (.ref 2))]) (σ' := σ78) rfl ?_
              refine wk_call tt_169 rfl rfl rfl rfl rfl tt_206 rfl (by omega) (bp_2 z σ78 (q10) (q10)) (fun w81 σ82 hq83 => ?_)
              obtain ⟨rfl, hF84⟩ := hq83
              refine wk_b tt_169 1 (pc' := 74) (ls' := [(2, .inl (q10)), (0, .inr (.inr (.ref 35))), (1, .inl (a1))]) (st' := [.inl (q10)]) (σ' := σ82) rfl ?_
              refine wk_rI tt_169 rfl rfl ?_
              exact ⟨_, rfl, (sg_F_t (sg_F_t (sg_F_t (sg_F_t (sg_F_t (sg_F_t (sg_F_t (sg_F_t (sg_F_t (sg_F_t (sg_F_r [3, 4, 5, 6, 7, 8, 9, 10, 11, 12, 13, 14, 15, 16, 17, 18, 4035, 4036, 5036, 6036, 7036, 8036, 17002] σ) (sg_F_m (L := [3, 4, 5, 6, 7, 8, 9, 10, 11, 12, 13, 14, 15, 16, 17, 18, 4035, 4036, 5036, 6036, 7036, 8036, 17002]) hF4 rfl)) (sg_F_m (L := [3, 4, 5, 6, 7, 8, 9, 10, 11, 12, 13, 14, 15, 16, 17, 18, 4035, 4036, 5036, 6036, 7036, 8036, 17002]) hF15 rfl)) (sg_F_m (L := [3, 4, 5, 6, 7, 8, 9, 10, 11, 12, 13, 14, 15, 16, 17, 18, 4035, 4036, 5036, 6036, 7036, 8036, 17002]) hF26 rfl)) (sg_F_m (L := [3, 4, 5, 6, 7, 8, 9, 10, 11, 12, 13, 14, 15, 16, 17, 18, 4035, 4036, 5036, 6036, 7036, 8036, 17002]) hF31 rfl)) (sg_F_m (L := [3, 4, 5, 6, 7, 8, 9, 10, 11, 12, 13, 14, 15, 16, 17, 18, 4035, 4036, 5036, 6036, 7036, 8036, 17002]) hF37 rfl)) (sg_F_m (L := [3, 4, 5, 6, 7, 8, 9, 10, 11, 12, 13, 14, 15, 16, 17, 18, 4035, 4036, 5036, 6036, 7036, 8036, 17002]) hF48 rfl)) (sg_F_m (L := [3, 4, 5, 6, 7, 8, 9, 10, 11, 12, 13, 14, 15, 16, 17, 18, 4035, 4036, 5036, 6036, 7036, 8036, 17002]) hF53 rfl)) (sg_F_m (L := [3, 4, 5, 6, 7, 8, 9, 10, 11, 12, 13, 14, 15, 16, 17, 18, 4035, 4036, 5036, 6036, 7036, 8036, 17002]) hF59 rfl)) (sg_F_m (L := [3, 4, 5, 6, 7, 8, 9, 10, 11, 12, 13, 14, 15, 16, 17, 18, 4035, 4036, 5036, 6036, 7036, 8036, 17002]) hF80 rfl)) (sg_F_m (L := [3, 4, 5, 6, 7, 8, 9, 10, 11, 12, 13, 14, 15, 16, 17, 18, 4035, 4036, 5036, 6036, 7036, 8036, 17002]) hF84 rfl)), Or.inr ⟨((by simp only [pIf, he7, he18, h32, he40, h54, he62, ↓reduceIte, Int.reduceEq, reduceCtorEq, or_true, true_or, or_false, false_or, and_true, true_and, and_false, false_and, not_true_eq_false, not_false_eq_true, decide_eq_true_eq, or_self, and_self, ite_self, Int.reduceLE])), (jm_ag hk64 (ag_t (tkq_F hF84 rfl) (ag_t (tkq_F hF80 rfl) (ag_r _ _))))⟩⟩
          ·
            refine wk_b tt_169 7 (pc' := 58) (ls' := [(2, .inl (q10)), (0, .inr (.inr (.ref 35))), (1, .inl (a1))]) (st' := [.inl ((a1 + 1)), .inr (.inr (.ref 35)), .inl (q10), .inr (.inr (.ref 2))]) (σ' := σ51) rfl ?_
            refine wk_call tt_169 rfl rfl rfl rfl rfl tt_174 rfl (by omega) (pj_expression z σ51 ((a1 + 1)) hk55) (fun w85 σ86 hq87 => ?_)
            obtain ⟨q90, rfl, hF88, hj89⟩ := hq87
            refine wk_call tt_169 rfl rfl rfl rfl rfl tt_205 rfl (by omega) (bp_1 z σ86 (q10) (q90)) (fun w91 σ92 hq93 => ?_)
            obtain ⟨rfl, hF94⟩ := hq93
            refine wk_b tt_169 4 (pc' := 70) (ls' := [(2, .inl (q10)), (0, .inr (.inr (.ref 35))), (1, .inl (a1))]) (st' := [.inl (q10), .inl (q10), .inr (.inr (.ref 2))]) (σ' := σ92) rfl ?_
            refine wk_call tt_169 rfl rfl rfl rfl rfl tt_206 rfl (by omega) (bp_2 z σ92 (q10) (q10)) (fun w95 σ96 hq97 => ?_)
            obtain ⟨rfl, hF98⟩ := hq97
            refine wk_b tt_169 1 (pc' := 74) (ls' := [(2, .inl (q10)), (0, .inr (.inr (.ref 35))), (1, .inl (a1))]) (st' := [.inl (q10)]) (σ' := σ96) rfl ?_
            refine wk_rI tt_169 rfl rfl ?_
            exact ⟨_, rfl, (sg_F_t (sg_F_t (sg_F_t (sg_F_t (sg_F_t (sg_F_t (sg_F_t (sg_F_t (sg_F_t (sg_F_t (sg_F_r [3, 4, 5, 6, 7, 8, 9, 10, 11, 12, 13, 14, 15, 16, 17, 18, 4035, 4036, 5036, 6036, 7036, 8036, 17002] σ) (sg_F_m (L := [3, 4, 5, 6, 7, 8, 9, 10, 11, 12, 13, 14, 15, 16, 17, 18, 4035, 4036, 5036, 6036, 7036, 8036, 17002]) hF4 rfl)) (sg_F_m (L := [3, 4, 5, 6, 7, 8, 9, 10, 11, 12, 13, 14, 15, 16, 17, 18, 4035, 4036, 5036, 6036, 7036, 8036, 17002]) hF15 rfl)) (sg_F_m (L := [3, 4, 5, 6, 7, 8, 9, 10, 11, 12, 13, 14, 15, 16, 17, 18, 4035, 4036, 5036, 6036, 7036, 8036, 17002]) hF26 rfl)) (sg_F_m (L := [3, 4, 5, 6, 7, 8, 9, 10, 11, 12, 13, 14, 15, 16, 17, 18, 4035, 4036, 5036, 6036, 7036, 8036, 17002]) hF31 rfl)) (sg_F_m (L := [3, 4, 5, 6, 7, 8, 9, 10, 11, 12, 13, 14, 15, 16, 17, 18, 4035, 4036, 5036, 6036, 7036, 8036, 17002]) hF37 rfl)) (sg_F_m (L := [3, 4, 5, 6, 7, 8, 9, 10, 11, 12, 13, 14, 15, 16, 17, 18, 4035, 4036, 5036, 6036, 7036, 8036, 17002]) hF48 rfl)) (sg_F_m (L := [3, 4, 5, 6, 7, 8, 9, 10, 11, 12, 13, 14, 15, 16, 17, 18, 4035, 4036, 5036, 6036, 7036, 8036, 17002]) hF53 rfl)) (sg_F_m (L := [3, 4, 5, 6, 7, 8, 9, 10, 11, 12, 13, 14, 15, 16, 17, 18, 4035, 4036, 5036, 6036, 7036, 8036, 17002]) hF88 rfl)) (sg_F_m (L := [3, 4, 5, 6, 7, 8, 9, 10, 11, 12, 13, 14, 15, 16, 17, 18, 4035, 4036, 5036, 6036, 7036, 8036, 17002]) hF94 rfl)) (sg_F_m (L := [3, 4, 5, 6, 7, 8, 9, 10, 11, 12, 13, 14, 15, 16, 17, 18, 4035, 4036, 5036, 6036, 7036, 8036, 17002]) hF98 rfl)), Or.inr ⟨((by simp only [pIf, he7, he18, h32, he40, h54, ↓reduceIte, Int.reduceEq, reduceCtorEq, or_true, true_or, or_false, false_or, and_true, true_and, and_false, false_and, not_true_eq_false, not_false_eq_true, decide_eq_true_eq, or_self, and_self, ite_self, Int.reduceLE])), (jm_ag hj89 (ag_t (tkq_F hF98 rfl) (ag_t (tkq_F hF94 rfl) (ag_r _ _))))⟩⟩
        ·
          refine wk_call tt_169 rfl rfl rfl rfl rfl tt_205 rfl (by omega) (bp_1 z σ35 (q10) (q43)) (fun w99 σ100 hq101 => ?_)
          obtain ⟨rfl, hF102⟩ := hq101
          refine wk_b tt_169 2 (pc' := 46) (ls' := [(2, .inl (q10)), (0, .inr (.inr (.ref 35))), (1, .inl (a1))]) (st' := [.inl (266), .inr (.inr (.ref 35))]) (σ' := σ100) rfl ?_
          refine wk_call tt_169 rfl rfl rfl rfl rfl tt_173 rfl (by omega) (pj_exp z σ100 (266) (jm_ag hk42 (ag_t (tkq_F hF102 rfl) (ag_r _ _))) (by omega)) (fun w103 σ104 hq105 => ?_)
          obtain ⟨rfl, hF106, hj107⟩ := hq105
          refine wk_b tt_169 7 (pc' := 58) (ls' := [(2, .inl (q10)), (0, .inr (.inr (.ref 35))), (1, .inl (a1))]) (st' := [.inl ((a1 + 1)), .inr (.inr (.ref 35)), .inl (q10), .inr (.inr (.ref 2))]) (σ' := σ104) rfl ?_
          refine wk_call tt_169 rfl rfl rfl rfl rfl tt_174 rfl (by omega) (pj_expression z σ104 ((a1 + 1)) hj107) (fun w108 σ109 hq110 => ?_)
          obtain ⟨q113, rfl, hF111, hj112⟩ := hq110
          refine wk_call tt_169 rfl rfl rfl rfl rfl tt_205 rfl (by omega) (bp_1 z σ109 (q10) (q113)) (fun w114 σ115 hq116 => ?_)
          obtain ⟨rfl, hF117⟩ := hq116
          refine wk_b tt_169 4 (pc' := 70) (ls' := [(2, .inl (q10)), (0, .inr (.inr (.ref 35))), (1, .inl (a1))]) (st' := [.inl (q10), .inl (q10), .inr (.inr (.ref 2))]) (σ' := σ115) rfl ?_
          refine wk_call tt_169 rfl rfl rfl rfl rfl tt_206 rfl (by omega) (bp_2 z σ115 (q10) (q10)) (fun w118 σ119 hq120 => ?_)
          obtain ⟨rfl, hF121⟩ := hq120
          refine wk_b tt_169 1 (pc' := 74) (ls' := [(2, .inl (q10)), (0, .inr (.inr (.ref 35))), (1, .inl (a1))]) (st' := [.inl (q10)]) (σ' := σ119) rfl ?_
          refine wk_rI tt_169 rfl rfl ?_
          exact ⟨_, rfl, (sg_F_t (sg_F_t (sg_F_t (sg_F_t (sg_F_t (sg_F_t (sg_F_t (sg_F_t (sg_F_t (sg_F_t (sg_F_r [3, 4, 5, 6, 7, 8, 9, 10, 11, 12, 13, 14, 15, 16, 17, 18, 4035, 4036, 5036, 6036, 7036, 8036, 17002] σ) (sg_F_m (L := [3, 4, 5, 6, 7, 8, 9, 10, 11, 12, 13, 14, 15, 16, 17, 18, 4035, 4036, 5036, 6036, 7036, 8036, 17002]) hF4 rfl)) (sg_F_m (L := [3, 4, 5, 6, 7, 8, 9, 10, 11, 12, 13, 14, 15, 16, 17, 18, 4035, 4036, 5036, 6036, 7036, 8036, 17002]) hF15 rfl)) (sg_F_m (L := [3, 4, 5, 6, 7, 8, 9, 10, 11, 12, 13, 14, 15, 16, 17, 18, 4035, 4036, 5036, 6036, 7036, 8036, 17002]) hF26 rfl)) (sg_F_m (L := [3, 4, 5, 6, 7, 8, 9, 10, 11, 12, 13, 14, 15, 16, 17, 18, 4035, 4036, 5036, 6036, 7036, 8036, 17002]) hF31 rfl)) (sg_F_m (L := [3, 4, 5, 6, 7, 8, 9, 10, 11, 12, 13, 14, 15, 16, 17, 18, 4035, 4036, 5036, 6036, 7036, 8036, 17002]) hF37 rfl)) (sg_F_m (L := [3, 4, 5, 6, 7, 8, 9, 10, 11, 12, 13, 14, 15, 16, 17, 18, 4035, 4036, 5036, 6036, 7036, 8036, 17002]) hF102 rfl)) (sg_F_m (L := [3, 4, 5, 6, 7, 8, 9, 10, 11, 12, 13, 14, 15, 16, 17, 18, 4035, 4036, 5036, 6036, 7036, 8036, 17002]) hF106 rfl)) (sg_F_m (L := [3, 4, 5, 6, 7, 8, 9, 10, 11, 12, 13, 14, 15, 16, 17, 18, 4035, 4036, 5036, 6036, 7036, 8036, 17002]) hF111 rfl)) (sg_F_m (L := [3, 4, 5, 6, 7, 8, 9, 10, 11, 12, 13, 14, 15, 16, 17, 18, 4035, 4036, 5036, 6036, 7036, 8036, 17002]) hF117 rfl)) (sg_F_m (L := [3, 4, 5, 6, 7, 8, 9, 10, 11, 12, 13, 14, 15, 16, 17, 18, 4035, 4036, 5036, 6036, 7036, 8036, 17002]) hF121 rfl)), Or.inr ⟨((by simp only [pIf, he7, he18, h32, he40, ↓reduceIte, Int.reduceEq, reduceCtorEq, or_true, true_or, or_false, false_or, and_true, true_and, and_false, false_and, not_true_eq_false, not_false_eq_true, decide_eq_true_eq, or_self, and_self, ite_self, Int.reduceLE])), (jm_ag hj112 (ag_t (tkq_F hF121 rfl) (ag_t (tkq_F hF117 rfl) (ag_r _ _))))⟩⟩
      ·
        refine wk_b tt_169 7 (pc' := 36) (ls' := [(2, .inl (q10)), (0, .inr (.inr (.ref 35))), (1, .inl (a1))]) (st' := [.inl ((a1 + 1)), .inr (.inr (.ref 35)), .inl (q10), .inr (.inr (.ref 2))]) (σ' := σ29) rfl ?_
        refine wk_call tt_169 rfl rfl rfl rfl rfl tt_174 rfl (by omega) (pj_expression z σ29 ((a1 + 1)) hk33) (fun w122 σ123 hq124 => ?_)
        obtain ⟨q127, rfl, hF125, hj126⟩ := hq124
        refine wk_call tt_169 rfl rfl rfl rfl rfl tt_205 rfl (by omega) (bp_1 z σ123 (q10) (q127)) (fun w128 σ129 hq130 => ?_)
        obtain ⟨rfl, hF131⟩ := hq130
        refine wk_b tt_169 2 (pc' := 46) (ls' := [(2, .inl (q10)), (0, .inr (.inr (.ref 35))), (1, .inl (a1))]) (st' := [.inl (266), .inr (.inr (.ref 35))]) (σ' := σ129) rfl ?_
        refine wk_call tt_169 rfl rfl rfl rfl rfl tt_173 rfl (by omega) (pj_exp z σ129 (266) (jm_ag hj126 (ag_t (tkq_F hF131 rfl) (ag_r _ _))) (by omega)) (fun w132 σ133 hq134 => ?_)
        obtain ⟨rfl, hF135, hj136⟩ := hq134
        refine wk_b tt_169 7 (pc' := 58) (ls' := [(2, .inl (q10)), (0, .inr (.inr (.ref 35))), (1, .inl (a1))]) (st' := [.inl ((a1 + 1)), .inr (.inr (.ref 35)), .inl (q10), .inr (.inr (.ref 2))]) (σ' := σ133) rfl ?_
        refine wk_call tt_169 rfl rfl rfl rfl rfl tt_174 rfl (by omega) (pj_expression z σ133 ((a1 + 1)) hj136) (fun w137 σ138 hq139 => ?_)
        obtain ⟨q142, rfl, hF140, hj141⟩ := hq139
        refine wk_call tt_169 rfl rfl rfl rfl rfl tt_205 rfl (by omega) (bp_1 z σ138 (q10) (q142)) (fun w143 σ144 hq145 => ?_)
        obtain ⟨rfl, hF146⟩ := hq145
        refine wk_b tt_169 4 (pc' := 70) (ls' := [(2, .inl (q10)), (0, .inr (.inr (.ref 35))), (1, .inl (a1))]) (st' := [.inl (q10), .inl (q10), .inr (.inr (.ref 2))]) (σ' := σ144) rfl ?_
        refine wk_call tt_169 rfl rfl rfl rfl rfl tt_206 rfl (by omega) (bp_2 z σ144 (q10) (q10)) (fun w147 σ148 hq149 => ?_)
        obtain ⟨rfl, hF150⟩ := hq149
        refine wk_b tt_169 1 (pc' := 74) (ls' := [(2, .inl (q10)), (0, .inr (.inr (.ref 35))), (1, .inl (a1))]) (st' := [.inl (q10)]) (σ' := σ148) rfl ?_
        refine wk_rI tt_169 rfl rfl ?_
        exact ⟨_, rfl, (sg_F_t (sg_F_t (sg_F_t (sg_F_t (sg_F_t (sg_F_t (sg_F_t (sg_F_t (sg_F_t (sg_F_t (sg_F_r [3, 4, 5, 6, 7, 8, 9, 10, 11, 12, 13, 14, 15, 16, 17, 18, 4035, 4036, 5036, 6036, 7036, 8036, 17002] σ) (sg_F_m (L := [3, 4, 5, 6, 7, 8, 9, 10, 11, 12, 13, 14, 15, 16, 17, 18, 4035, 4036, 5036, 6036, 7036, 8036, 17002]) hF4 rfl)) (sg_F_m (L := [3, 4, 5, 6, 7, 8, 9, 10, 11, 12, 13, 14, 15, 16, 17, 18, 4035, 4036, 5036, 6036, 7036, 8036, 17002]) hF15 rfl)) (sg_F_m (L := [3, 4, 5, 6, 7, 8, 9, 10, 11, 12, 13, 14, 15, 16, 17, 18, 4035, 4036, 5036, 6036, 7036, 8036, 17002]) hF26 rfl)) (sg_F_m (L := [3, 4, 5, 6, 7, 8, 9, 10, 11, 12, 13, 14, 15, 16, 17, 18, 4035, 4036, 5036, 6036, 7036, 8036, 17002]) hF31 rfl)) (sg_F_m (L := [3, 4, 5, 6, 7, 8, 9, 10, 11, 12, 13, 14, 15, 16, 17, 18, 4035, 4036, 5036, 6036, 7036, 8036, 17002]) hF125 rfl)) (sg_F_m (L := [3, 4, 5, 6, 7, 8, 9, 10, 11, 12, 13, 14, 15, 16, 17, 18, 4035, 4036, 5036, 6036, 7036, 8036, 17002]) hF131 rfl)) (sg_F_m (L := [3, 4, 5, 6, 7, 8, 9, 10, 11, 12, 13, 14, 15, 16, 17, 18, 4035, 4036, 5036, 6036, 7036, 8036, 17002]) hF135 rfl)) (sg_F_m (L := [3, 4, 5, 6, 7, 8, 9, 10, 11, 12, 13, 14, 15, 16, 17, 18, 4035, 4036, 5036, 6036, 7036, 8036, 17002]) hF140 rfl)) (sg_F_m (L := [3, 4, 5, 6, 7, 8, 9, 10, 11, 12, 13, 14, 15, 16, 17, 18, 4035, 4036, 5036, 6036, 7036, 8036, 17002]) hF146 rfl)) (sg_F_m (L := [3, 4, 5, 6, 7, 8, 9, 10, 11, 12, 13, 14, 15, 16, 17, 18, 4035, 4036, 5036, 6036, 7036, 8036, 17002]) hF150 rfl)), Or.inr ⟨((by simp only [pIf, he7, he18, h32, ↓reduceIte, Int.reduceEq, reduceCtorEq, or_true, true_or, or_false, false_or, and_true, true_and, and_false, false_and, not_true_eq_false, not_false_eq_true, decide_eq_true_eq, or_self, and_self, ite_self, Int.reduceLE])), (jm_ag hj141 (ag_t (tkq_F hF150 rfl) (ag_t (tkq_F hF146 rfl) (ag_r _ _))))⟩⟩
    ·
      refine wk_call tt_169 rfl rfl rfl rfl rfl tt_205 rfl (by omega) (bp_1 z σ13 (q10) (q21)) (fun w151 σ152 hq153 => ?_)
      obtain ⟨rfl, hF154⟩ := hq153
      refine wk_b tt_169 2 (pc' := 24) (ls' := [(2, .inl (q10)), (0, .inr (.inr (.ref 35))), (1, .inl (a1))]) (st' := [.inl (265), .inr (.inr (.ref 35))]) (σ' := σ152) rfl ?_
      refine wk_call tt_169 rfl rfl rfl rfl rfl tt_173 rfl (by omega) (pj_exp z σ152 (265) (jm_ag hk20 (ag_t (tkq_F hF154 rfl) (ag_r _ _))) (by omega)) (fun w155 σ156 hq157 => ?_)
      obtain ⟨rfl, hF158, hj159⟩ := hq157
      refine wk_b tt_169 7 (pc' := 36) (ls' := [(2, .inl (q10)), (0, .inr (.inr (.ref 35))), (1, .inl (a1))]) (st' := [.inl ((a1 + 1)), .inr (.inr (.ref 35)), .inl (q10), .inr (.inr (.ref 2))]) (σ' := σ156) rfl ?_
      refine wk_call tt_169 rfl rfl rfl rfl rfl tt_174 rfl (by omega) (pj_expression z σ156 ((a1 + 1)) hj159) (fun w160 σ161 hq162 => ?_)
      obtain ⟨q165, rfl, hF163, hj164⟩ := hq162
      refine wk_call tt_169 rfl rfl rfl rfl rfl tt_205 rfl (by omega) (bp_1 z σ161 (q10) (q165)) (fun w166 σ167 hq168 => ?_)
      obtain ⟨rfl, hF169⟩ := hq168
      refine wk_b tt_169 2 (pc' := 46) (ls' := [(2, .inl (q10)), (0, .inr (.inr (.ref 35))), (1, .inl (a1))]) (st' := [.inl (266), .inr (.inr (.ref 35))]) (σ' := σ167) rfl ?_
      refine wk_call tt_169 rfl rfl rfl rfl rfl tt_173 rfl (by omega) (pj_exp z σ167 (266) (jm_ag hj164 (ag_t (tkq_F hF169 rfl) (ag_r _ _))) (by omega)) (fun w170 σ171 hq172 => ?_)
      obtain ⟨rfl, hF173, hj174⟩ := hq172
      refine wk_b tt_169 7 (pc' := 58) (ls' := [(2, .inl (q10)), (0, .inr (.inr (.ref 35))), (1, .inl (a1))]) (st' := [.inl ((a1 + 1)), .inr (.inr (.ref 35)), .inl (q10), .inr (.inr (.ref 2))]) (σ' := σ171) rfl ?_
      refine wk_call tt_169 rfl rfl rfl rfl rfl tt_174 rfl (by omega) (pj_expression z σ171 ((a1 + 1)) hj174) (fun w175 σ176 hq177 => ?_)
      obtain ⟨q180, rfl, hF178, hj179⟩ := hq177
      refine wk_call tt_169 rfl rfl rfl rfl rfl tt_205 rfl (by omega) (bp_1 z σ176 (q10) (q180)) (fun w181 σ182 hq183 => ?_)
      obtain ⟨rfl, hF184⟩ := hq183
      refine wk_b tt_169 4 (pc' := 70) (ls' := [(2, .inl (q10)), (0, .inr (.inr (.ref 35))), (1, .inl (a1))]) (st' := [.inl (q10), .inl (q10), .inr (.inr (.ref 2))]) (σ' := σ182) rfl ?_
      refine wk_call tt_169 rfl rfl rfl rfl rfl tt_206 rfl (by omega) (bp_2 z σ182 (q10) (q10)) (fun w185 σ186 hq187 => ?_)
      obtain ⟨rfl, hF188⟩ := hq187
      refine wk_b tt_169 1 (pc' := 74) (ls' := [(2, .inl (q10)), (0, .inr (.inr (.ref 35))), (1, .inl (a1))]) (st' := [.inl (q10)]) (σ' := σ186) rfl ?_
      refine wk_rI tt_169 rfl rfl ?_
      exact ⟨_, rfl, (sg_F_t (sg_F_t (sg_F_t (sg_F_t (sg_F_t (sg_F_t (sg_F_t (sg_F_t (sg_F_t (sg_F_t (sg_F_r [3, 4, 5, 6, 7, 8, 9, 10, 11, 12, 13, 14, 15, 16, 17, 18, 4035, 4036, 5036, 6036, 7036, 8036, 17002] σ) (sg_F_m (L := [3, 4, 5, 6, 7, 8, 9, 10, 11, 12, 13, 14, 15, 16, 17, 18, 4035, 4036, 5036, 6036, 7036, 8036, 17002]) hF4 rfl)) (sg_F_m (L := [3, 4, 5, 6, 7, 8, 9, 10, 11, 12, 13, 14, 15, 16, 17, 18, 4035, 4036, 5036, 6036, 7036, 8036, 17002]) hF15 rfl)) (sg_F_m (L := [3, 4, 5, 6, 7, 8, 9, 10, 11, 12, 13, 14, 15, 16, 17, 18, 4035, 4036, 5036, 6036, 7036, 8036, 17002]) hF154 rfl)) (sg_F_m (L := [3, 4, 5, 6, 7, 8, 9, 10, 11, 12, 13, 14, 15, 16, 17, 18, 4035, 4036, 5036, 6036, 7036, 8036, 17002]) hF158 rfl)) (sg_F_m (L := [3, 4, 5, 6, 7, 8, 9, 10, 11, 12, 13, 14, 15, 16, 17, 18, 4035, 4036, 5036, 6036, 7036, 8036, 17002]) hF163 rfl)) (sg_F_m (L := [3, 4, 5, 6, 7, 8, 9, 10, 11, 12, 13, 14, 15, 16, 17, 18, 4035, 4036, 5036, 6036, 7036, 8036, 17002]) hF169 rfl)) (sg_F_m (L := [3, 4, 5, 6, 7, 8, 9, 10, 11, 12, 13, 14, 15, 16, 17, 18, 4035, 4036, 5036, 6036, 7036, 8036, 17002]) hF173 rfl)) (sg_F_m (L := [3, 4, 5, 6, 7, 8, 9, 10, 11, 12, 13, 14, 15, 16, 17, 18, 4035, 4036, 5036, 6036, 7036, 8036, 17002]) hF178 rfl)) (sg_F_m (L := [3, 4, 5, 6, 7, 8, 9, 10, 11, 12, 13, 14, 15, 16, 17, 18, 4035, 4036, 5036, 6036, 7036, 8036, 17002]) hF184 rfl)) (sg_F_m (L := [3, 4, 5, 6, 7, 8, 9, 10, 11, 12, 13, 14, 15, 16, 17, 18, 4035, 4036, 5036, 6036, 7036, 8036, 17002]) hF188 rfl)), Or.inr ⟨((by simp only [pIf, he7, he18, ↓reduceIte, Int.reduceEq, reduceCtorEq, or_true, true_or, or_false, false_or, and_true, true_and, and_false, false_and, not_true_eq_false, not_false_eq_true, decide_eq_true_eq, or_self, and_self, ite_self, Int.reduceLE])), (jm_ag hj179 (ag_t (tkq_F hF188 rfl) (ag_t (tkq_F hF184 rfl) (ag_r _ _))))⟩⟩
  ·
    refine wk_b tt_169 8 (pc' := 14) (ls' := [(2, .inl (q10)), (0, .inr (.inr (.ref 35))), (1, .inl (a1))]) (st' := [.inl ((a1 + 1)), .inr (.inr (.ref 35)), .inl (q10), .inr (.inr (.ref 2))]) (σ' := σ2) rfl ?_
    refine wk_call tt_169 rfl rfl rfl rfl rfl tt_174 rfl (by omega) (pj_expression z σ2 ((a1 + 1)) hk9) (fun w189 σ190 hq191 => ?_)
    obtain ⟨q194, rfl, hF192, hj193⟩ := hq191
    refine wk_call tt_169 rfl rfl rfl rfl rfl tt_205 rfl (by omega) (bp_1 z σ190 (q10) (q194)) (fun w195 σ196 hq197 => ?_)
    obtain ⟨rfl, hF198⟩ := hq197
    refine wk_b tt_169 2 (pc' := 24) (ls' := [(2, .inl (q10)), (0, .inr (.inr (.ref 35))), (1, .inl (a1))]) (st' := [.inl (265), .inr (.inr (.ref 35))]) (σ' := σ196) rfl ?_
    refine wk_call tt_169 rfl rfl rfl rfl rfl tt_173 rfl (by omega) (pj_exp z σ196 (265) (jm_ag hj193 (ag_t (tkq_F hF198 rfl) (ag_r _ _))) (by omega)) (fun w199 σ200 hq201 => ?_)
    obtain ⟨rfl, hF202, hj203⟩ := hq201
    refine wk_b tt_169 7 (pc' := 36) (ls' := [(2, .inl (q10)), (0, .inr (.inr (.ref 35))), (1, .inl (a1))]) (st' := [.inl ((a1 + 1)), .inr (.inr (.ref 35)), .inl (q10), .inr (.inr (.ref 2))]) (σ' := σ200) rfl ?_
    refine wk_call tt_169 rfl rfl rfl rfl rfl tt_174 rfl (by omega) (pj_expression z σ200 ((a1 + 1)) hj203) (fun w204 σ205 hq206 => ?_)
    obtain ⟨q209, rfl, hF207, hj208⟩ := hq206
    refine wk_call tt_169 rfl rfl rfl rfl rfl tt_205 rfl (by omega) (bp_1 z σ205 (q10) (q209)) (fun w210 σ211 hq212 => ?_)
    obtain ⟨rfl, hF213⟩ := hq212
    refine wk_b tt_169 2 (pc' := 46) (ls' := [(2, .inl (q10)), (0, .inr (.inr (.ref 35))), (1, .inl (a1))]) (st' := [.inl (266), .inr (.inr (.ref 35))]) (σ' := σ211) rfl ?_
    refine wk_call tt_169 rfl rfl rfl rfl rfl tt_173 rfl (by omega) (pj_exp z σ211 (266) (jm_ag hj208 (ag_t (tkq_F hF213 rfl) (ag_r _ _))) (by omega)) (fun w214 σ215 hq216 => ?_)
    obtain ⟨rfl, hF217, hj218⟩ := hq216
    refine wk_b tt_169 7 (pc' := 58) (ls' := [(2, .inl (q10)), (0, .inr (.inr (.ref 35))), (1, .inl (a1))]) (st' := [.inl ((a1 + 1)), .inr (.inr (.ref 35)), .inl (q10), .inr (.inr (.ref 2))]) (σ' := σ215) rfl ?_
    refine wk_call tt_169 rfl rfl rfl rfl rfl tt_174 rfl (by omega) (pj_expression z σ215 ((a1 + 1)) hj218) (fun w219 σ220 hq221 => ?_)
    obtain ⟨q224, rfl, hF222, hj223⟩ := hq221
    refine wk_call tt_169 rfl rfl rfl rfl rfl tt_205 rfl (by omega) (bp_1 z σ220 (q10) (q224)) (fun w225 σ226 hq227 => ?_)
    obtain ⟨rfl, hF228⟩ := hq227
    refine wk_b tt_169 4 (pc' := 70) (ls' := [(2, .inl (q10)), (0, .inr (.inr (.ref 35))), (1, .inl (a1))]) (st' := [.inl (q10), .inl (q10), .inr (.inr (.ref 2))]) (σ' := σ226) rfl ?_
    refine wk_call tt_169 rfl rfl rfl rfl rfl tt_206 rfl (by omega) (bp_2 z σ226 (q10) (q10)) (fun w229 σ230 hq231 => ?_)
    obtain ⟨rfl, hF232⟩ := hq231
    refine wk_b tt_169 1 (pc' := 74) (ls' := [(2, .inl (q10)), (0, .inr (.inr (.ref 35))), (1, .inl (a1))]) (st' := [.inl (q10)]) (σ' := σ230) rfl ?_
    refine wk_rI tt_169 rfl rfl ?_
    exact ⟨_, rfl, (sg_F_t (sg_F_t (sg_F_t (sg_F_t (sg_F_t (sg_F_t (sg_F_t (sg_F_t (sg_F_t (sg_F_t (sg_F_r [3, 4, 5, 6, 7, 8, 9, 10, 11, 12, 13, 14, 15, 16, 17, 18, 4035, 4036, 5036, 6036, 7036, 8036, 17002] σ) (sg_F_m (L := [3, 4, 5, 6, 7, 8, 9, 10, 11, 12, 13, 14, 15, 16, 17, 18, 4035, 4036, 5036, 6036, 7036, 8036, 17002]) hF4 rfl)) (sg_F_m (L := [3, 4, 5, 6, 7, 8, 9, 10, 11, 12, 13, 14, 15, 16, 17, 18, 4035, 4036, 5036, 6036, 7036, 8036, 17002]) hF192 rfl)) (sg_F_m (L := [3, 4, 5, 6, 7, 8, 9, 10, 11, 12, 13, 14, 15, 16, 17, 18, 4035, 4036, 5036, 6036, 7036, 8036, 17002]) hF198 rfl)) (sg_F_m (L := [3, 4, 5, 6, 7, 8, 9, 10, 11, 12, 13, 14, 15, 16, 17, 18, 4035, 4036, 5036, 6036, 7036, 8036, 17002]) hF202 rfl)) (sg_F_m (L := [3, 4, 5, 6, 7, 8, 9, 10, 11, 12, 13, 14, 15, 16, 17, 18, 4035, 4036, 5036, 6036, 7036, 8036, 17002]) hF207 rfl)) (sg_F_m (L := [3, 4, 5, 6, 7, 8, 9, 10, 11, 12, 13, 14, 15, 16, 17, 18, 4035, 4036, 5036, 6036, 7036, 8036, 17002]) hF213 rfl)) (sg_F_m (L := [3, 4, 5, 6, 7, 8, 9, 10, 11, 12, 13, 14, 15, 16, 17, 18, 4035, 4036, 5036, 6036, 7036, 8036, 17002]) hF217 rfl)) (sg_F_m (L := [3, 4, 5, 6, 7, 8, 9, 10, 11, 12, 13, 14, 15, 16, 17, 18, 4035, 4036, 5036, 6036, 7036, 8036, 17002]) hF222 rfl)) (sg_F_m (L := [3, 4, 5, 6, 7, 8, 9, 10, 11, 12, 13, 14, 15, 16, 17, 18, 4035, 4036, 5036, 6036, 7036, 8036, 17002]) hF228 rfl)) (sg_F_m (L := [3, 4, 5, 6, 7, 8, 9, 10, 11, 12, 13, 14, 15, 16, 17, 18, 4035, 4036, 5036, 6036, 7036, 8036, 17002]) hF232 rfl)), Or.inr ⟨((by simp only [pIf, he7, ↓reduceIte, Int.reduceEq, reduceCtorEq, or_true, true_or, or_false, false_or, and_true, true_and, and_false, false_and, not_true_eq_false, not_false_eq_true, decide_eq_true_eq, or_self, and_self, ite_self, Int.reduceLE])), (jm_ag hj223 (ag_t (tkq_F hF232 rfl) (ag_t (tkq_F hF228 rfl) (ag_r _ _))))⟩⟩
-- NestedVectors$Parser.comparison
set_option maxRecDepth 8000 in
theorem px_cmp (c : tkC) (hc : tkOK c) (d : Nat) (a1 : Int) (hn : 0 ≤ a1 ∧ a1 ≤ 12) (S : pF) (hS : cE c d 186 a1 (fun _ => True) S) : cE c (d + 7) 170 a1 (fun _ => True) (pCmp c S) := by
  intro z σ i τ ht hk hp
  refine wk_b tt_170 2 (pc' := 2) (ls' := [(0, .inr (.inr (.ref 35))), (1, .inl (a1))]) (st' := [.inl (a1), .inr (.inr (.ref 35))]) (σ' := σ) rfl ?_
  refine wk_call tt_170 rfl rfl rfl rfl rfl tt_186 rfl (by omega) (hS z σ (i) τ ht hk trivial) (fun w1 σ2 hq3 => ?_)
  obtain ⟨q10, rfl, hF4, hq3⟩ := hq3
  rcases hq3 with ⟨i5, τ6, he7, rq11, ht8, hk9⟩ | ⟨he7, hk9⟩
  ·
    refine wk_b tt_170 5 (pc' := 15) (ls' := [(2, .inl (q10)), (0, .inr (.inr (.ref 35))), (1, .inl (a1))]) (st' := [.inl (60), .inl ((sg_g σ2 36 4))]) (σ' := σ2) rfl ?_
    have r12 := tK_r hc (i5)
    rw [show (sg_g σ2 36 4) = (tK c (i5)) from by rw [hk9.2.2.2.2.1]]
    refine wk_if2 tt_170 (tgt := 32) rfl rfl (by omega) (by decide) (fun (h13 : (tK c (i5)) = 60) => ?_) (fun (h13 : ¬ (tK c (i5)) = 60) => ?_)
    ·
      refine wk_b tt_170 1 (pc' := 33) (ls' := [(2, .inl (q10)), (0, .inr (.inr (.ref 35))), (1, .inl (a1))]) (st' := [.inr (.inr (.ref 35))]) (σ' := σ2) rfl ?_
      refine wk_call tt_170 rfl rfl rfl rfl rfl tt_171 rfl (by omega) (px_crt z σ2 c hc (i5) τ6 ht8 hk9 (by omega)) (fun w14 σ15 hq16 => ?_)
      obtain ⟨q23, rfl, hF17, hq16⟩ := hq16
      rcases hq16 with ⟨i18, τ19, he20, rq24, ht21, hk22⟩ | ⟨he20, hk22⟩
      ·
        refine wk_b tt_170 6 (pc' := 42) (ls' := [(3, .inl (q23)), (2, .inl (q10)), (0, .inr (.inr (.ref 35))), (1, .inl (a1))]) (st' := [.inl (a1), .inr (.inr (.ref 35)), .inl (q10), .inl (q23), .inr (.inr (.ref 35))]) (σ' := σ15) rfl ?_
        refine wk_call tt_170 rfl rfl rfl rfl rfl tt_186 rfl (by omega) (hS z σ15 (i18) τ19 ht21 hk22 trivial) (fun w25 σ26 hq27 => ?_)
        obtain ⟨q34, rfl, hF28, hq27⟩ := hq27
        rcases hq27 with ⟨i29, τ30, he31, rq35, ht32, hk33⟩ | ⟨he31, hk33⟩
        ·
          refine wk_call tt_170 rfl rfl rfl rfl rfl tt_168 rfl (by omega) (px_both z σ26 (q23) (q10) (q34) τ30 ht32 (by first | omega | exact sg_Rg _ _ _) (by first | omega | exact sg_Rg _ _ _) (by first | omega | exact sg_Rg _ _ _)) (fun w36 σ37 hq38 => ?_)
          obtain ⟨rfl, hF39, ht40⟩ := hq38
          refine wk_rI tt_170 rfl rfl ?_
          exact ⟨_, rfl, (sg_F_t (sg_F_t (sg_F_t (sg_F_t (sg_F_r [3, 4, 5, 6, 7, 8, 9, 10, 11, 12, 13, 14, 15, 16, 17, 18, 4035, 4036, 5036, 6036, 7036, 8036, 17002] σ) (sg_F_m (L := [3, 4, 5, 6, 7, 8, 9, 10, 11, 12, 13, 14, 15, 16, 17, 18, 4035, 4036, 5036, 6036, 7036, 8036, 17002]) hF4 rfl)) (sg_F_m (L := [3, 4, 5, 6, 7, 8, 9, 10, 11, 12, 13, 14, 15, 16, 17, 18, 4035, 4036, 5036, 6036, 7036, 8036, 17002]) hF17 rfl)) (sg_F_m (L := [3, 4, 5, 6, 7, 8, 9, 10, 11, 12, 13, 14, 15, 16, 17, 18, 4035, 4036, 5036, 6036, 7036, 8036, 17002]) hF28 rfl)) (sg_F_m (L := [3, 4, 5, 6, 7, 8, 9, 10, 11, 12, 13, 14, 15, 16, 17, 18, 4035, 4036, 5036, 6036, 7036, 8036, 17002]) hF39 rfl)), Or.inl ⟨_, _, ((by simp only [pCmp, he7, h13, he20, he31, ↓reduceIte, Int.reduceEq, reduceCtorEq, or_true, true_or, or_false, false_or, and_true, true_and, and_false, false_and, not_true_eq_false, not_false_eq_true, decide_eq_true_eq, or_self, and_self, ite_self, Int.reduceLE])), (by first | omega | exact sg_Rg _ _ _ | decide), ht40, (tk_ag hk33 (ag_t (tkq_F hF39 rfl) (ag_r _ _)))⟩⟩
        ·
          refine wk_call tt_170 rfl rfl rfl rfl rfl tt_168 rfl (by omega) (bp_3 z σ26 (q23) (q10) (q34)) (fun w41 σ42 hq43 => ?_)
          obtain ⟨⟨q45, rfl⟩, hF44⟩ := hq43
          refine wk_rI tt_170 rfl rfl ?_
          exact ⟨_, rfl, (sg_F_t (sg_F_t (sg_F_t (sg_F_t (sg_F_r [3, 4, 5, 6, 7, 8, 9, 10, 11, 12, 13, 14, 15, 16, 17, 18, 4035, 4036, 5036, 6036, 7036, 8036, 17002] σ) (sg_F_m (L := [3, 4, 5, 6, 7, 8, 9, 10, 11, 12, 13, 14, 15, 16, 17, 18, 4035, 4036, 5036, 6036, 7036, 8036, 17002]) hF4 rfl)) (sg_F_m (L := [3, 4, 5, 6, 7, 8, 9, 10, 11, 12, 13, 14, 15, 16, 17, 18, 4035, 4036, 5036, 6036, 7036, 8036, 17002]) hF17 rfl)) (sg_F_m (L := [3, 4, 5, 6, 7, 8, 9, 10, 11, 12, 13, 14, 15, 16, 17, 18, 4035, 4036, 5036, 6036, 7036, 8036, 17002]) hF28 rfl)) (sg_F_m (L := [3, 4, 5, 6, 7, 8, 9, 10, 11, 12, 13, 14, 15, 16, 17, 18, 4035, 4036, 5036, 6036, 7036, 8036, 17002]) hF44 rfl)), Or.inr ⟨((by simp only [pCmp, he7, h13, he20, he31, ↓reduceIte, Int.reduceEq, reduceCtorEq, or_true, true_or, or_false, false_or, and_true, true_and, and_false, false_and, not_true_eq_false, not_false_eq_true, decide_eq_true_eq, or_self, and_self, ite_self, Int.reduceLE])), (jm_ag hk33 (ag_t (tkq_F hF44 rfl) (ag_r _ _)))⟩⟩
      ·
        refine wk_b tt_170 6 (pc' := 42) (ls' := [(3, .inl (q23)), (2, .inl (q10)), (0, .inr (.inr (.ref 35))), (1, .inl (a1))]) (st' := [.inl (a1), .inr (.inr (.ref 35)), .inl (q10), .inl (q23), .inr (.inr (.ref 35))]) (σ' := σ15) rfl ?_
        refine wk_call tt_170 rfl rfl rfl rfl rfl tt_186 rfl (by omega) (pj_sum z σ15 (a1) hk22) (fun w46 σ47 hq48 => ?_)
        obtain ⟨q51, rfl, hF49, hj50⟩ := hq48
        refine wk_call tt_170 rfl rfl rfl rfl rfl tt_168 rfl (by omega) (bp_3 z σ47 (q23) (q10) (q51)) (fun w52 σ53 hq54 => ?_)
        obtain ⟨⟨q56, rfl⟩, hF55⟩ := hq54
        refine wk_rI tt_170 rfl rfl ?_
        exact ⟨_, rfl, (sg_F_t (sg_F_t (sg_F_t (sg_F_t (sg_F_r [3, 4, 5, 6, 7, 8, 9, 10, 11, 12, 13, 14, 15, 16, 17, 18, 4035, 4036, 5036, 6036, 7036, 8036, 17002] σ) (sg_F_m (L := [3, 4, 5, 6, 7, 8, 9, 10, 11, 12, 13, 14, 15, 16, 17, 18, 4035, 4036, 5036, 6036, 7036, 8036, 17002]) hF4 rfl)) (sg_F_m (L := [3, 4, 5, 6, 7, 8, 9, 10, 11, 12, 13, 14, 15, 16, 17, 18, 4035, 4036, 5036, 6036, 7036, 8036, 17002]) hF17 rfl)) (sg_F_m (L := [3, 4, 5, 6, 7, 8, 9, 10, 11, 12, 13, 14, 15, 16, 17, 18, 4035, 4036, 5036, 6036, 7036, 8036, 17002]) hF49 rfl)) (sg_F_m (L := [3, 4, 5, 6, 7, 8, 9, 10, 11, 12, 13, 14, 15, 16, 17, 18, 4035, 4036, 5036, 6036, 7036, 8036, 17002]) hF55 rfl)), Or.inr ⟨((by simp only [pCmp, he7, h13, he20, ↓reduceIte, Int.reduceEq, reduceCtorEq, or_true, true_or, or_false, false_or, and_true, true_and, and_false, false_and, not_true_eq_false, not_false_eq_true, decide_eq_true_eq, or_self, and_self, ite_self, Int.reduceLE])), (jm_ag hj50 (ag_t (tkq_F hF55 rfl) (ag_r _ _)))⟩⟩
    ·
      refine wk_b tt_170 4 (pc' := 27) (ls' := [(2, .inl (q10)), (0, .inr (.inr (.ref 35))), (1, .inl (a1))]) (st' := [.inl (61), .inl ((sg_g σ2 36 4))]) (σ' := σ2) rfl ?_
      rw [show (sg_g σ2 36 4) = (tK c (i5)) from by rw [hk9.2.2.2.2.1]]
      refine wk_if2 tt_170 (tgt := 32) rfl rfl (by omega) (by decide) (fun (h57 : (tK c (i5)) = 61) => ?_) (fun (h57 : ¬ (tK c (i5)) = 61) => ?_)
      ·
        refine wk_b tt_170 1 (pc' := 33) (ls' := [(2, .inl (q10)), (0, .inr (.inr (.ref 35))), (1, .inl (a1))]) (st' := [.inr (.inr (.ref 35))]) (σ' := σ2) rfl ?_
        refine wk_call tt_170 rfl rfl rfl rfl rfl tt_171 rfl (by omega) (px_crt z σ2 c hc (i5) τ6 ht8 hk9 (by omega)) (fun w58 σ59 hq60 => ?_)
        obtain ⟨q67, rfl, hF61, hq60⟩ := hq60
        rcases hq60 with ⟨i62, τ63, he64, rq68, ht65, hk66⟩ | ⟨he64, hk66⟩
        ·
          refine wk_b tt_170 6 (pc' := 42) (ls' := [(3, .inl (q67)), (2, .inl (q10)), (0, .inr (.inr (.ref 35))), (1, .inl (a1))]) (st' := [.inl (a1), .inr (.inr (.ref 35)), .inl (q10), .inl (q67), .inr (.inr (.ref 35))]) (σ' := σ59) rfl ?_
          refine wk_call tt_170 rfl rfl rfl rfl rfl tt_186 rfl (by omega) (hS z σ59 (i62) τ63 ht65 hk66 trivial) (fun w69 σ70 hq71 => ?_)
          obtain ⟨q78, rfl, hF72, hq71⟩ := hq71
          rcases hq71 with ⟨i73, τ74, he75, rq79, ht76, hk77⟩ | ⟨he75, hk77⟩
          ·
            refine wk_call tt_170 rfl rfl rfl rfl rfl tt_168 rfl (by omega) (px_both z σ70 (q67) (q10) (q78) τ74 ht76 (by first | omega | exact sg_Rg _ _ _) (by first | omega | exact sg_Rg _ _ _) (by first | omega | exact sg_Rg _ _ _)) (fun w80 σ81 hq82 => ?_)
            obtain ⟨rfl, hF83, ht84⟩ := hq82
            refine wk_rI tt_170 rfl rfl ?_
            exact ⟨_, rfl, (sg_F_t (sg_F_t (sg_F_t (sg_F_t (sg_F_r [3, 4, 5, 6, 7, 8, 9, 10, 11, 12, 13, 14, 15, 16, 17, 18, 4035, 4036, 5036, 6036, 7036, 8036, 17002] σ) (sg_F_m (L := [3, 4, 5, 6, 7, 8, 9, 10, 11, 12, 13, 14, 15, 16, 17, 18, 4035, 4036, 5036, 6036, 7036, 8036, 17002]) hF4 rfl)) (sg_F_m (L := [3, 4, 5, 6, 7, 8, 9, 10, 11, 12, 13, 14, 15, 16, 17, 18, 4035, 4036, 5036, 6036, 7036, 8036, 17002]) hF61 rfl)) (sg_F_m (L := [3, 4, 5, 6, 7, 8, 9, 10, 11, 12, 13, 14, 15, 16, 17, 18, 4035, 4036, 5036, 6036, 7036, 8036, 17002]) hF72 rfl)) (sg_F_m (L := [3, 4, 5, 6, 7, 8, 9, 10, 11, 12, 13, 14, 15, 16, 17, 18, 4035, 4036, 5036, 6036, 7036, 8036, 17002]) hF83 rfl)), Or.inl ⟨_, _, ((by simp only [pCmp, he7, h13, h57, he64, he75, ↓reduceIte, Int.reduceEq, reduceCtorEq, or_true, true_or, or_false, false_or, and_true, true_and, and_false, false_and, not_true_eq_false, not_false_eq_true, decide_eq_true_eq, or_self, and_self, ite_self, Int.reduceLE])), (by first | omega | exact sg_Rg _ _ _ | decide), ht84, (tk_ag hk77 (ag_t (tkq_F hF83 rfl) (ag_r _ _)))⟩⟩
          ·
            refine wk_call tt_170 rfl rfl rfl rfl rfl tt_168 rfl (by omega) (bp_3 z σ70 (q67) (q10) (q78)) (fun w85 σ86 hq87 => ?_)
            obtain ⟨⟨q89, rfl⟩, hF88⟩ := hq87
            refine wk_rI tt_170 rfl rfl ?_
            exact ⟨_, rfl, (sg_F_t (sg_F_t (sg_F_t (sg_F_t (sg_F_r [3, 4, 5, 6, 7, 8, 9, 10, 11, 12, 13, 14, 15, 16, 17, 18, 4035, 4036, 5036, 6036, 7036, 8036, 17002] σ) (sg_F_m (L := [3, 4, 5, 6, 7, 8, 9, 10, 11, 12, 13, 14, 15, 16, 17, 18, 4035, 4036, 5036, 6036, 7036, 8036, 17002]) hF4 rfl)) (sg_F_m (L := [3, 4, 5, 6, 7, 8, 9, 10, 11, 12, 13, 14, 15, 16, 17, 18, 4035, 4036, 5036, 6036, 7036, 8036, 17002]) hF61 rfl)) (sg_F_m (L := [3, 4, 5, 6, 7, 8, 9, 10, 11, 12, 13, 14, 15, 16, 17, 18, 4035, 4036, 5036, 6036, 7036, 8036, 17002]) hF72 rfl)) (sg_F_m (L := [3, 4, 5, 6, 7, 8, 9, 10, 11, 12, 13, 14, 15, 16, 17, 18, 4035, 4036, 5036, 6036, 7036, 8036, 17002]) hF88 rfl)), Or.inr ⟨((by simp only [pCmp, he7, h13, h57, he64, he75, ↓reduceIte, Int.reduceEq, reduceCtorEq, or_true, true_or, or_false, false_or, and_true, true_and, and_false, false_and, not_true_eq_false, not_false_eq_true, decide_eq_true_eq, or_self, and_self, ite_self, Int.reduceLE])), (jm_ag hk77 (ag_t (tkq_F hF88 rfl) (ag_r _ _)))⟩⟩
        ·
          refine wk_b tt_170 6 (pc' := 42) (ls' := [(3, .inl (q67)), (2, .inl (q10)), (0, .inr (.inr (.ref 35))), (1, .inl (a1))]) (st' := [.inl (a1), .inr (.inr (.ref 35)), .inl (q10), .inl (q67), .inr (.inr (.ref 35))]) (σ' := σ59) rfl ?_
          refine wk_call tt_170 rfl rfl rfl rfl rfl tt_186 rfl (by omega) (pj_sum z σ59 (a1) hk66) (fun w90 σ91 hq92 => ?_)
          obtain ⟨q95, rfl, hF93, hj94⟩ := hq92
          refine wk_call tt_170 rfl rfl rfl rfl rfl tt_168 rfl (by omega) (bp_3 z σ91 (q67) (q10) (q95)) (fun w96 σ97 hq98 => ?_)
          obtain ⟨⟨q100, rfl⟩, hF99⟩ := hq98
          refine wk_rI tt_170 rfl rfl ?_
          exact ⟨_, rfl, (sg_F_t (sg_F_t (sg_F_t (sg_F_t (sg_F_r [3, 4, 5, 6, 7, 8, 9, 10, 11, 12, 13, 14, 15, 16, 17, 18, 4035, 4036, 5036, 6036, 7036, 8036, 17002] σ) (sg_F_m (L := [3, 4, 5, 6, 7, 8, 9, 10, 11, 12, 13, 14, 15, 16, 17, 18, 4035, 4036, 5036, 6036, 7036, 8036, 17002]) hF4 rfl)) (sg_F_m (L := [3, 4, 5, 6, 7, 8, 9, 10, 11, 12, 13, 14, 15, 16, 17, 18, 4035, 4036, 5036, 6036, 7036, 8036, 17002]) hF61 rfl)) (sg_F_m (L := [3, 4, 5, 6, 7, 8, 9, 10, 11, 12, 13, 14, 15, 16, 17, 18, 4035, 4036, 5036, 6036, 7036, 8036, 17002]) hF93 rfl)) (sg_F_m (L := [3, 4, 5, 6, 7, 8, 9, 10, 11, 12, 13, 14, 15, 16, 17, 18, 4035, 4036, 5036, 6036, 7036, 8036, 17002]) hF99 rfl)), Or.inr ⟨((by simp only [pCmp, he7, h13, h57, he64, ↓reduceIte, Int.reduceEq, reduceCtorEq, or_true, true_or, or_false, false_or, and_true, true_and, and_false, false_and, not_true_eq_false, not_false_eq_true, decide_eq_true_eq, or_self, and_self, ite_self, Int.reduceLE])), (jm_ag hj94 (ag_t (tkq_F hF99 rfl) (ag_r _ _)))⟩⟩
      ·
        refine wk_b tt_170 1 (pc' := 31) (ls' := [(2, .inl (q10)), (0, .inr (.inr (.ref 35))), (1, .inl (a1))]) (st' := [.inl (q10)]) (σ' := σ2) rfl ?_
        refine wk_rI tt_170 rfl rfl ?_
        exact ⟨_, rfl, (sg_F_t (sg_F_r [3, 4, 5, 6, 7, 8, 9, 10, 11, 12, 13, 14, 15, 16, 17, 18, 4035, 4036, 5036, 6036, 7036, 8036, 17002] σ) (sg_F_m (L := [3, 4, 5, 6, 7, 8, 9, 10, 11, 12, 13, 14, 15, 16, 17, 18, 4035, 4036, 5036, 6036, 7036, 8036, 17002]) hF4 rfl)), Or.inl ⟨_, _, ((by simp only [pCmp, he7, h13, h57, ↓reduceIte, Int.reduceEq, reduceCtorEq, or_true, true_or, or_false, false_or, and_true, true_and, and_false, false_and, not_true_eq_false, not_false_eq_true, decide_eq_true_eq, or_self, and_self, ite_self, Int.reduceLE])), (by first | omega | exact sg_Rg _ _ _ | decide), ht8, hk9⟩⟩
  ·
    refine wk_b tt_170 5 (pc' := 15) (ls' := [(2, .inl (q10)), (0, .inr (.inr (.ref 35))), (1, .inl (a1))]) (st' := [.inl (60), .inl ((sg_g σ2 36 4))]) (σ' := σ2) rfl ?_
    rw [show (sg_g σ2 36 4) = 260 from by rw [hk9.1]]
    refine wk_if2 tt_170 (tgt := 32) rfl rfl (by decide) (by decide) (fun (h : 260 = 60) => absurd h (by decide)) (fun _ => ?_)
    refine wk_b tt_170 4 (pc' := 27) (ls' := [(2, .inl (q10)), (0, .inr (.inr (.ref 35))), (1, .inl (a1))]) (st' := [.inl (61), .inl ((sg_g σ2 36 4))]) (σ' := σ2) rfl ?_
    rw [show (sg_g σ2 36 4) = 260 from by rw [hk9.1]]
    refine wk_if2 tt_170 (tgt := 32) rfl rfl (by decide) (by decide) (fun (h : 260 = 61) => absurd h (by decide)) (fun _ => ?_)
    refine wk_b tt_170 1 (pc' := 31) (ls' := [(2, .inl (q10)), (0, .inr (.inr (.ref 35))), (1, .inl (a1))]) (st' := [.inl (q10)]) (σ' := σ2) rfl ?_
    refine wk_rI tt_170 rfl rfl ?_
    exact ⟨_, rfl, (sg_F_t (sg_F_r [3, 4, 5, 6, 7, 8, 9, 10, 11, 12, 13, 14, 15, 16, 17, 18, 4035, 4036, 5036, 6036, 7036, 8036, 17002] σ) (sg_F_m (L := [3, 4, 5, 6, 7, 8, 9, 10, 11, 12, 13, 14, 15, 16, 17, 18, 4035, 4036, 5036, 6036, 7036, 8036, 17002]) hF4 rfl)), Or.inr ⟨((by simp only [pCmp, he7, ↓reduceIte, Int.reduceEq, reduceCtorEq, or_true, true_or, or_false, false_or, and_true, true_and, and_false, false_and, not_true_eq_false, not_false_eq_true, decide_eq_true_eq, or_self, and_self, ite_self, Int.reduceLE])), hk9⟩⟩
-- NestedVectors$Parser.sum
set_option maxRecDepth 8000 in
theorem px_sum (c : tkC) (hc : tkOK c) (d : Nat) (a1 : Int) (hn : 0 ≤ a1 ∧ a1 ≤ 12) (P : pF) (hP : cE c d 184 a1 (fun _ => True) P) : cE c (d + 6) 186 a1 (fun _ => True) (pRow c pqS P) := by
  intro z σ i τ ht hk hp
  refine wk_b tt_186 2 (pc' := 2) (ls' := [(0, .inr (.inr (.ref 35))), (1, .inl (a1))]) (st' := [.inl (a1), .inr (.inr (.ref 35))]) (σ' := σ) rfl ?_
  refine wk_call tt_186 rfl rfl rfl rfl rfl tt_184 rfl (by omega) (hP z σ (i) τ ht hk trivial) (fun w1 σ2 hq3 => ?_)
  obtain ⟨q10, rfl, hF4, hq3⟩ := hq3
  rcases hq3 with ⟨i5, τ6, he7, rq11, ht8, hk9⟩ | ⟨he7, hk9⟩
  ·
    refine wk_b tt_186 3 (pc' := 8) (ls' := [(3, .inl (0)), (2, .inl (q10)), (0, .inr (.inr (.ref 35))), (1, .inl (a1))]) (st' := []) (σ' := σ2) rfl ?_
    have lp18 : ∀ (m17 : Nat) (σ14 : sg_S) (v12 : Int) (v13 : Int) (i20 : Nat) (τ21 : sg_S), sg_F [3, 4, 5, 6, 7, 8, 9, 10, 11, 12, 13, 14, 15, 16, 17, 18, 4035, 4036, 5036, 6036, 7036, 8036, 17002] σ σ14 → te σ14 τ21 → tk c σ14 i20 → (pRow c pqS P i τ = pRowL c pqS P m17 v12 i20 τ21 ∧ sg_R v12 ∧ v13 + m17 = 201 ∧ 0 ≤ v13) → wx z (d + 6) 186 8 [(0, .inr (.inr (.ref 35))), (1, .inl (a1)), (2, .inl (v12)), (3, .inl (v13))] [] σ14 (pq pL0 c (pRow c pqS P i τ) σ) := by
      intro m17
      induction m17 with
      | zero =>
        intro σ14 v12 v13 i20 τ21 hF15 ht22 hk23 hI19
        obtain ⟨hI19_e, hI19_b⟩ := hI19
        refine wk_b tt_186 2 (pc' := 12) (ls' := [(0, .inr (.inr (.ref 35))), (1, .inl (a1)), (2, .inl (v12)), (3, .inl (v13))]) (st' := [.inl (200), .inl (v13)]) (σ' := σ14) rfl ?_
        refine wk_if2 tt_186 (tgt := 64) rfl rfl (by omega) (by decide) (fun (h24 : 200 < v13) => ?_) (fun (h : v13 ≤ 200) => absurd h (by omega))
        refine wk_b tt_186 1 (pc' := 65) (ls' := [(0, .inr (.inr (.ref 35))), (1, .inl (a1)), (2, .inl (v12)), (3, .inl (v13))]) (st' := [.inl (v12)]) (σ' := σ14) rfl ?_
        refine wk_rI tt_186 rfl rfl ?_
        exact ⟨_, rfl, hF15, Or.inl ⟨_, _, (hI19_e.trans (by simp only [pRowL, pqS, ↓reduceIte, Int.reduceEq, reduceCtorEq, or_true, true_or, or_false, false_or, and_true, true_and, and_false, false_and, not_true_eq_false, not_false_eq_true, decide_eq_true_eq, or_self, and_self, ite_self, Int.reduceLE])), (by first | omega | exact sg_Rg _ _ _ | decide), ht22, hk23⟩⟩
      | succ m17 ih16 =>
        intro σ14 v12 v13 i20 τ21 hF15 ht22 hk23 hI19
        obtain ⟨hI19_e, hI19_b⟩ := hI19
        refine wk_b tt_186 2 (pc' := 12) (ls' := [(0, .inr (.inr (.ref 35))), (1, .inl (a1)), (2, .inl (v12)), (3, .inl (v13))]) (st' := [.inl (200), .inl (v13)]) (σ' := σ14) rfl ?_
        refine wk_if2 tt_186 (tgt := 64) rfl rfl (by omega) (by decide) (fun (h : 200 < v13) => absurd h (by omega)) (fun (h25 : v13 ≤ 200) => ?_)
        refine wk_b tt_186 4 (pc' := 24) (ls' := [(0, .inr (.inr (.ref 35))), (1, .inl (a1)), (2, .inl (v12)), (3, .inl (v13))]) (st' := [.inl (43), .inl ((sg_g σ14 36 4))]) (σ' := σ14) rfl ?_
        have r26 := tK_r hc (i20)
        rw [show (sg_g σ14 36 4) = (tK c (i20)) from by rw [hk23.2.2.2.2.1]]
        refine wk_if2 tt_186 (tgt := 39) rfl rfl (by omega) (by decide) (fun (h27 : (tK c (i20)) = 43) => ?_) (fun (h27 : ¬ (tK c (i20)) = 43) => ?_)
        ·
          refine wk_b tt_186 1 (pc' := 40) (ls' := [(0, .inr (.inr (.ref 35))), (1, .inl (a1)), (2, .inl (v12)), (3, .inl (v13))]) (st' := [.inr (.inr (.ref 35))]) (σ' := σ14) rfl ?_
          refine wk_call tt_186 rfl rfl rfl rfl rfl tt_171 rfl (by omega) (px_crt z σ14 c hc (i20) τ21 ht22 hk23 (by omega)) (fun w28 σ29 hq30 => ?_)
          obtain ⟨q37, rfl, hF31, hq30⟩ := hq30
          rcases hq30 with ⟨i32, τ33, he34, rq38, ht35, hk36⟩ | ⟨he34, hk36⟩
          ·
            refine wk_b tt_186 6 (pc' := 51) (ls' := [(4, .inl (q37)), (0, .inr (.inr (.ref 35))), (1, .inl (a1)), (2, .inl (v12)), (3, .inl (v13))]) (st' := [.inl (a1), .inr (.inr (.ref 35)), .inl (v12), .inl (q37), .inr (.inr (.ref 35))]) (σ' := σ29) rfl ?_
            refine wk_call tt_186 rfl rfl rfl rfl rfl tt_184 rfl (by omega) (hP z σ29 (i32) τ33 ht35 hk36 trivial) (fun w39 σ40 hq41 => ?_)
            obtain ⟨q48, rfl, hF42, hq41⟩ := hq41
            rcases hq41 with ⟨i43, τ44, he45, rq49, ht46, hk47⟩ | ⟨he45, hk47⟩
            ·
              refine wk_call tt_186 rfl rfl rfl rfl rfl tt_168 rfl (by omega) (px_both z σ40 (q37) (v12) (q48) τ44 ht46 (by first | omega | exact sg_Rg _ _ _) (by first | omega | exact sg_Rg _ _ _) (by first | omega | exact sg_Rg _ _ _)) (fun w50 σ51 hq52 => ?_)
              obtain ⟨rfl, hF53, ht54⟩ := hq52
              refine wk_b tt_186 3 (pc' := 8) (ls' := [(3, .inl ((v13 + 1))), (2, .inl (q37)), (4, .inl (q37)), (0, .inr (.inr (.ref 35))), (1, .inl (a1))]) (st' := []) (σ' := σ51) rfl ?_
              refine wk_ls [(0, .inr (.inr (.ref 35))), (1, .inl (a1)), (2, .inl (q37)), (3, .inl ((v13 + 1)))] rfl ⟨rfl, rfl, rfl, rfl, trivial⟩ (ih16 σ51 (q37) ((v13 + 1)) (i43) (pBoth τ44 (q37) (v12) (q48)) (sg_F_t (sg_F_t (sg_F_t hF15 (sg_F_m (L := [3, 4, 5, 6, 7, 8, 9, 10, 11, 12, 13, 14, 15, 16, 17, 18, 4035, 4036, 5036, 6036, 7036, 8036, 17002]) hF31 rfl)) (sg_F_m (L := [3, 4, 5, 6, 7, 8, 9, 10, 11, 12, 13, 14, 15, 16, 17, 18, 4035, 4036, 5036, 6036, 7036, 8036, 17002]) hF42 rfl)) (sg_F_m (L := [3, 4, 5, 6, 7, 8, 9, 10, 11, 12, 13, 14, 15, 16, 17, 18, 4035, 4036, 5036, 6036, 7036, 8036, 17002]) hF53 rfl)) ht54 (tk_ag hk47 (ag_t (tkq_F hF53 rfl) (ag_r _ _))) ?_)
              exact ⟨(hI19_e.trans (by simp only [pRowL, pqS, h27, he34, he45, ↓reduceIte, Int.reduceEq, reduceCtorEq, or_true, true_or, or_false, false_or, and_true, true_and, and_false, false_and, not_true_eq_false, not_false_eq_true, decide_eq_true_eq, or_self, and_self, ite_self, Int.reduceLE])), by omega, by omega, by omega⟩
            ·
              refine wk_call tt_186 rfl rfl rfl rfl rfl tt_168 rfl (by omega) (bp_3 z σ40 (q37) (v12) (q48)) (fun w55 σ56 hq57 => ?_)
              obtain ⟨⟨q59, rfl⟩, hF58⟩ := hq57
              refine wk_b tt_186 3 (pc' := 8) (ls' := [(3, .inl ((v13 + 1))), (2, .inl (q59)), (4, .inl (q37)), (0, .inr (.inr (.ref 35))), (1, .inl (a1))]) (st' := []) (σ' := σ56) rfl ?_
              refine wk_b tt_186 2 (pc' := 12) (ls' := [(3, .inl ((v13 + 1))), (2, .inl (q59)), (4, .inl (q37)), (0, .inr (.inr (.ref 35))), (1, .inl (a1))]) (st' := [.inl (200), .inl ((v13 + 1))]) (σ' := σ56) rfl ?_
              refine wk_if2 tt_186 (tgt := 64) rfl rfl (by omega) (by decide) (fun (h60 : 200 < (v13 + 1)) => ?_) (fun (h60 : (v13 + 1) ≤ 200) => ?_)
              ·
                refine wk_b tt_186 1 (pc' := 65) (ls' := [(3, .inl ((v13 + 1))), (2, .inl (q59)), (4, .inl (q37)), (0, .inr (.inr (.ref 35))), (1, .inl (a1))]) (st' := [.inl (q59)]) (σ' := σ56) rfl ?_
                refine wk_rI tt_186 rfl rfl ?_
                exact ⟨_, rfl, (sg_F_t (sg_F_t (sg_F_t hF15 (sg_F_m (L := [3, 4, 5, 6, 7, 8, 9, 10, 11, 12, 13, 14, 15, 16, 17, 18, 4035, 4036, 5036, 6036, 7036, 8036, 17002]) hF31 rfl)) (sg_F_m (L := [3, 4, 5, 6, 7, 8, 9, 10, 11, 12, 13, 14, 15, 16, 17, 18, 4035, 4036, 5036, 6036, 7036, 8036, 17002]) hF42 rfl)) (sg_F_m (L := [3, 4, 5, 6, 7, 8, 9, 10, 11, 12, 13, 14, 15, 16, 17, 18, 4035, 4036, 5036, 6036, 7036, 8036, 17002]) hF58 rfl)), Or.inr ⟨(hI19_e.trans (by simp only [pRowL, pqS, h27, he34, he45, ↓reduceIte, Int.reduceEq, reduceCtorEq, or_true, true_or, or_false, false_or, and_true, true_and, and_false, false_and, not_true_eq_false, not_false_eq_true, decide_eq_true_eq, or_self, and_self, ite_self, Int.reduceLE])), (jm_ag hk47 (ag_t (tkq_F hF58 rfl) (ag_r _ _)))⟩⟩
              ·
                refine wk_b tt_186 4 (pc' := 24) (ls' := [(3, .inl ((v13 + 1))), (2, .inl (q59)), (4, .inl (q37)), (0, .inr (.inr (.ref 35))), (1, .inl (a1))]) (st' := [.inl (43), .inl ((sg_g σ56 36 4))]) (σ' := σ56) rfl ?_
                rw [show (sg_g σ56 36 4) = 260 from by rw [sg_F_ga hF58 rfl, hk47.1]]
                refine wk_if2 tt_186 (tgt := 39) rfl rfl (by decide) (by decide) (fun (h : 260 = 43) => absurd h (by decide)) (fun _ => ?_)
                refine wk_b tt_186 4 (pc' := 36) (ls' := [(3, .inl ((v13 + 1))), (2, .inl (q59)), (4, .inl (q37)), (0, .inr (.inr (.ref 35))), (1, .inl (a1))]) (st' := [.inl (45), .inl ((sg_g σ56 36 4))]) (σ' := σ56) rfl ?_
                rw [show (sg_g σ56 36 4) = 260 from by rw [sg_F_ga hF58 rfl, hk47.1]]
                refine wk_if2 tt_186 (tgt := 64) rfl rfl (by decide) (by decide) (fun _ => ?_) (fun (h : 260 = 45) => absurd h (by decide))
                refine wk_b tt_186 1 (pc' := 65) (ls' := [(3, .inl ((v13 + 1))), (2, .inl (q59)), (4, .inl (q37)), (0, .inr (.inr (.ref 35))), (1, .inl (a1))]) (st' := [.inl (q59)]) (σ' := σ56) rfl ?_
                refine wk_rI tt_186 rfl rfl ?_
                exact ⟨_, rfl, (sg_F_t (sg_F_t (sg_F_t hF15 (sg_F_m (L := [3, 4, 5, 6, 7, 8, 9, 10, 11, 12, 13, 14, 15, 16, 17, 18, 4035, 4036, 5036, 6036, 7036, 8036, 17002]) hF31 rfl)) (sg_F_m (L := [3, 4, 5, 6, 7, 8, 9, 10, 11, 12, 13, 14, 15, 16, 17, 18, 4035, 4036, 5036, 6036, 7036, 8036, 17002]) hF42 rfl)) (sg_F_m (L := [3, 4, 5, 6, 7, 8, 9, 10, 11, 12, 13, 14, 15, 16, 17, 18, 4035, 4036, 5036, 6036, 7036, 8036, 17002]) hF58 rfl)), Or.inr ⟨(hI19_e.trans (by simp only [pRowL, pqS, h27, he34, he45, ↓reduceIte, Int.reduceEq, reduceCtorEq, or_true, true_or, or_false, false_or, and_true, true_and, and_false, false_and, not_true_eq_false, not_false_eq_true, decide_eq_true_eq, or_self, and_self, ite_self, Int.reduceLE])), (jm_ag hk47 (ag_t (tkq_F hF58 rfl) (ag_r _ _)))⟩⟩
          ·
            refine wk_b tt_186 6 (pc' := 51) (ls' := [(4, .inl (q37)), (0, .inr (.inr (.ref 35))), (1, .inl (a1)), (2, .inl (v12)), (3, .inl (v13))]) (st' := [.inl (a1), .inr (.inr (.ref 35)), .inl (v12), .inl (q37), .inr (.inr (.ref 35))]) (σ' := σ29) rfl ?_
            refine wk_call tt_186 rfl rfl rfl rfl rfl tt_184 rfl (by omega) (pj_product z σ29 (a1) hk36) (fun w63 σ64 hq65 => ?_)
            obtain ⟨q68, rfl, hF66, hj67⟩ := hq65
            refine wk_call tt_186 rfl rfl rfl rfl rfl tt_168 rfl (by omega) (bp_3 z σ64 (q37) (v12) (q68)) (fun w69 σ70 hq71 => ?_)
            obtain ⟨⟨q73, rfl⟩, hF72⟩ := hq71
            refine wk_b tt_186 3 (pc' := 8) (ls' := [(3, .inl ((v13 + 1))), (2, .inl (q73)), (4, .inl (q37)), (0, .inr (.inr (.ref 35))), (1, .inl (a1))]) (st' := []) (σ' := σ70) rfl ?_
            refine wk_b tt_186 2 (pc' := 12) (ls' := [(3, .inl ((v13 + 1))), (2, .inl (q73)), (4, .inl (q37)), (0, .inr (.inr (.ref 35))), (1, .inl (a1))]) (st' := [.inl (200), .inl ((v13 + 1))]) (σ' := σ70) rfl ?_
            refine wk_if2 tt_186 (tgt := 64) rfl rfl (by omega) (by decide) (fun (h74 : 200 < (v13 + 1)) => ?_) (fun (h74 : (v13 + 1) ≤ 200) => ?_)
            ·
              refine wk_b tt_186 1 (pc' := 65) (ls' := [(3, .inl ((v13 + 1))), (2, .inl (q73)), (4, .inl (q37)), (0, .inr (.inr (.ref 35))), (1, .inl (a1))]) (st' := [.inl (q73)]) (σ' := σ70) rfl ?_
              refine wk_rI tt_186 rfl rfl ?_
              exact ⟨_, rfl, (sg_F_t (sg_F_t (sg_F_t hF15 (sg_F_m (L := [3, 4, 5, 6, 7, 8, 9, 10, 11, 12, 13, 14, 15, 16, 17, 18, 4035, 4036, 5036, 6036, 7036, 8036, 17002]) hF31 rfl)) (sg_F_m (L := [3, 4, 5, 6, 7, 8, 9, 10, 11, 12, 13, 14, 15, 16, 17, 18, 4035, 4036, 5036, 6036, 7036, 8036, 17002]) hF66 rfl)) (sg_F_m (L := [3, 4, 5, 6, 7, 8, 9, 10, 11, 12, 13, 14, 15, 16, 17, 18, 4035, 4036, 5036, 6036, 7036, 8036, 17002]) hF72 rfl)), Or.inr ⟨(hI19_e.trans (by simp only [pRowL, pqS, h27, he34, ↓reduceIte, Int.reduceEq, reduceCtorEq, or_true, true_or, or_false, false_or, and_true, true_and, and_false, false_and, not_true_eq_false, not_false_eq_true, decide_eq_true_eq, or_self, and_self, ite_self, Int.reduceLE])), (jm_ag hj67 (ag_t (tkq_F hF72 rfl) (ag_r _ _)))⟩⟩
            ·
              refine wk_b tt_186 4 (pc' := 24) (ls' := [(3, .inl ((v13 + 1))), (2, .inl (q73)), (4, .inl (q37)), (0, .inr (.inr (.ref 35))), (1, .inl (a1))]) (st' := [.inl (43), .inl ((sg_g σ70 36 4))]) (σ' := σ70) rfl ?_
              rw [show (sg_g σ70 36 4) = 260 from by rw [sg_F_ga hF72 rfl, hj67.1]]
              refine wk_if2 tt_186 (tgt := 39) rfl rfl (by decide) (by decide) (fun (h : 260 = 43) => absurd h (by decide)) (fun _ => ?_)
              refine wk_b tt_186 4 (pc' := 36) (ls' := [(3, .inl ((v13 + 1))), (2, .inl (q73)), (4, .inl (q37)), (0, .inr (.inr (.ref 35))), (1, .inl (a1))]) (st' := [.inl (45), .inl ((sg_g σ70 36 4))]) (σ' := σ70) rfl ?_
              rw [show (sg_g σ70 36 4) = 260 from by rw [sg_F_ga hF72 rfl, hj67.1]]
              refine wk_if2 tt_186 (tgt := 64) rfl rfl (by decide) (by decide) (fun _ => ?_) (fun (h : 260 = 45) => absurd h (by decide))
              refine wk_b tt_186 1 (pc' := 65) (ls' := [(3, .inl ((v13 + 1))), (2, .inl (q73)), (4, .inl (q37)), (0, .inr (.inr (.ref 35))), (1, .inl (a1))]) (st' := [.inl (q73)]) (σ' := σ70) rfl ?_
              refine wk_rI tt_186 rfl rfl ?_
              exact ⟨_, rfl, (sg_F_t (sg_F_t (sg_F_t hF15 (sg_F_m (L := [3, 4, 5, 6, 7, 8, 9, 10, 11, 12, 13, 14, 15, 16, 17, 18, 4035, 4036, 5036, 6036, 7036, 8036, 17002]) hF31 rfl)) (sg_F_m (L := [3, 4, 5, 6, 7, 8, 9, 10, 11, 12, 13, 14, 15, 16, 17, 18, 4035, 4036, 5036, 6036, 7036, 8036, 17002]) hF66 rfl)) (sg_F_m (L := [3, 4, 5, 6, 7, 8, 9, 10, 11, 12, 13, 14, 15, 16, 17, 18, 4035, 4036, 5036, 6036, 7036, 8036, 17002]) hF72 rfl)), Or.inr ⟨(hI19_e.trans (by simp only [pRowL, pqS, h27, he34, ↓reduceIte, Int.reduceEq, reduceCtorEq, or_true, true_or, or_false, false_or, and_true, true_and, and_false, false_and, not_true_eq_false, not_false_eq_true, decide_eq_true_eq, or_self, and_self, ite_self, Int.reduceLE])), (jm_ag hj67 (ag_t (tkq_F hF72 rfl) (ag_r _ _)))⟩⟩
        ·
          refine wk_b tt_186 4 (pc' := 36) (ls' := [(0, .inr (.inr (.ref 35))), (1, .inl (a1)), (2, .inl (v12)), (3, .inl (v13))]) (st' := [.inl (45), .inl ((sg_g σ14 36 4))]) (σ' := σ14) rfl ?_
          rw [show (sg_g σ14 36 4) = (tK c (i20)) from by rw [hk23.2.2.2.2.1]]
          refine wk_if2 tt_186 (tgt := 64) rfl rfl (by omega) (by decide) (fun (h77 : ¬ (tK c (i20)) = 45) => ?_) (fun (h77 : (tK c (i20)) = 45) => ?_)
          ·
            refine wk_b tt_186 1 (pc' := 65) (ls' := [(0, .inr (.inr (.ref 35))), (1, .inl (a1)), (2, .inl (v12)), (3, .inl (v13))]) (st' := [.inl (v12)]) (σ' := σ14) rfl ?_
            refine wk_rI tt_186 rfl rfl ?_
            exact ⟨_, rfl, hF15, Or.inl ⟨_, _, (hI19_e.trans (by simp only [pRowL, pqS, h27, h77, ↓reduceIte, Int.reduceEq, reduceCtorEq, or_true, true_or, or_false, false_or, and_true, true_and, and_false, false_and, not_true_eq_false, not_false_eq_true, decide_eq_true_eq, or_self, and_self, ite_self, Int.reduceLE])), (by first | omega | exact sg_Rg _ _ _ | decide), ht22, hk23⟩⟩
          ·
            refine wk_b tt_186 1 (pc' := 40) (ls' := [(0, .inr (.inr (.ref 35))), (1, .inl (a1)), (2, .inl (v12)), (3, .inl (v13))]) (st' := [.inr (.inr (.ref 35))]) (σ' := σ14) rfl ?_
            refine wk_call tt_186 rfl rfl rfl rfl rfl tt_171 rfl (by omega) (px_crt z σ14 c hc (i20) τ21 ht22 hk23 (by omega)) (fun w78 σ79 hq80 => ?_)
            obtain ⟨q87, rfl, hF81, hq80⟩ := hq80
            rcases hq80 with ⟨i82, τ83, he84, rq88, ht85, hk86⟩ | ⟨he84, hk86⟩
            ·
              refine wk_b tt_186 6 (pc' := 51) (ls' := [(4, .inl (q87)), (0, .inr (.inr (.ref 35))), (1, .inl (a1)), (2, .inl (v12)), (3, .inl (v13))]) (st' := [.inl (a1), .inr (.inr (.ref 35)), .inl (v12), .inl (q87), .inr (.inr (.ref 35))]) (σ' := σ79) rfl ?_
              refine wk_call tt_186 rfl rfl rfl rfl rfl tt_184 rfl (by omega) (hP z σ79 (i82) τ83 ht85 hk86 trivial) (fun w89 σ90 hq91 => ?_)
              obtain ⟨q98, rfl, hF92, hq91⟩ := hq91
              rcases hq91 with ⟨i93, τ94, he95, rq99, ht96, hk97⟩ | ⟨he95, hk97⟩
              ·
                refine wk_call tt_186 rfl rfl rfl rfl rfl tt_168 rfl (by omega) (px_both z σ90 (q87) (v12) (q98) τ94 ht96 (by first | omega | exact sg_Rg _ _ _) (by first | omega | exact sg_Rg _ _ _) (by first | omega | exact sg_Rg _ _ _)) (fun w100 σ101 hq102 => ?_)
                obtain ⟨rfl, hF103, ht104⟩ := hq102
                refine wk_b tt_186 3 (pc' := 8) (ls' := [(3, .inl ((v13 + 1))), (2, .inl (q87)), (4, .inl (q87)), (0, .inr (.inr (.ref 35))), (1, .inl (a1))]) (st' := []) (σ' := σ101) rfl ?_
                refine wk_ls [(0, .inr (.inr (.ref 35))), (1, .inl (a1)), (2, .inl (q87)), (3, .inl ((v13 + 1)))] rfl ⟨rfl, rfl, rfl, rfl, trivial⟩ (ih16 σ101 (q87) ((v13 + 1)) (i93) (pBoth τ94 (q87) (v12) (q98)) (sg_F_t (sg_F_t (sg_F_t hF15 (sg_F_m (L := [3, 4, 5, 6, 7, 8, 9, 10, 11, 12, 13, 14, 15, 16, 17, 18, 4035, 4036, 5036, 6036, 7036, 8036, 17002]) hF81 rfl)) (sg_F_m (L := [3, 4, 5, 6, 7, 8, 9, 10, 11, 12, 13, 14, 15, 16, 17, 18, 4035, 4036, 5036, 6036, 7036, 8036, 17002]) hF92 rfl)) (sg_F_m (L := [3, 4, 5, 6, 7, 8, 9, 10, 11, 12, 13, 14, 15, 16, 17, 18, 4035, 4036, 5036, 6036, 7036, 8036, 17002]) hF103 rfl)) ht104 (tk_ag hk97 (ag_t (tkq_F hF103 rfl) (ag_r _ _))) ?_)
                exact ⟨(hI19_e.trans (by simp only [pRowL, pqS, h27, h77, he84, he95, ↓reduceIte, Int.reduceEq, reduceCtorEq, or_true, true_or, or_false, false_or, and_true, true_and, and_false, false_and, not_true_eq_false, not_false_eq_true, decide_eq_true_eq, or_self, and_self, ite_self, Int.reduceLE])), by omega, by omega, by omega⟩
              ·
                refine wk_call tt_186 rfl rfl rfl rfl rfl tt_168 rfl (by omega) (bp_3 z σ90 (q87) (v12) (q98)) (fun w105 σ106 hq107 => ?_)
                obtain ⟨⟨q109, rfl⟩, hF108⟩ := hq107
                refine wk_b tt_186 3 (pc' := 8) (ls' := [(3, .inl ((v13 + 1))), (2, .inl (q109)), (4, .inl (q87)), (0, .inr (.inr (.ref 35))), (1, .inl (a1))]) (st' := []) (σ' := σ106) rfl ?_
                refine wk_b tt_186 2 (pc' := 12) (ls' := [(3, .inl ((v13 + 1))), (2, .inl (q109)), (4, .inl (q87)), (0, .inr (.inr (.ref 35))), (1, .inl (a1))]) (st' := [.inl (200), .inl ((v13 + 1))]) (σ' := σ106) rfl ?_
                refine wk_if2 tt_186 (tgt := 64) rfl rfl (by omega) (by decide) (fun (h110 : 200 < (v13 + 1)) => ?_) (fun (h110 : (v13 + 1) ≤ 200) => ?_)
                ·
                  refine wk_b tt_186 1 (pc' := 65) (ls' := [(3, .inl ((v13 + 1))), (2, .inl (q109)), (4, .inl (q87)), (0, .inr (.inr (.ref 35))), (1, .inl (a1))]) (st' := [.inl (q109)]) (σ' := σ106) rfl ?_
                  refine wk_rI tt_186 rfl rfl ?_
                  exact ⟨_, rfl, (sg_F_t (sg_F_t (sg_F_t hF15 (sg_F_m (L := [3, 4, 5, 6, 7, 8, 9, 10, 11, 12, 13, 14, 15, 16, 17, 18, 4035, 4036, 5036, 6036, 7036, 8036, 17002]) hF81 rfl)) (sg_F_m (L := [3, 4, 5, 6, 7, 8, 9, 10, 11, 12, 13, 14, 15, 16, 17, 18, 4035, 4036, 5036, 6036, 7036, 8036, 17002]) hF92 rfl)) (sg_F_m (L := [3, 4, 5, 6, 7, 8, 9, 10, 11, 12, 13, 14, 15, 16, 17, 18, 4035, 4036, 5036, 6036, 7036, 8036, 17002]) hF108 rfl)), Or.inr ⟨(hI19_e.trans (by simp only [pRowL, pqS, h27, h77, he84, he95, ↓reduceIte, Int.reduceEq, reduceCtorEq, or_true, true_or, or_false, false_or, and_true, true_and, and_false, false_and, not_true_eq_false, not_false_eq_true, decide_eq_true_eq, or_self, and_self, ite_self, Int.reduceLE])), (jm_ag hk97 (ag_t (tkq_F hF108 rfl) (ag_r _ _)))⟩⟩
                ·
                  refine wk_b tt_186 4 (pc' := 24) (ls' := [(3, .inl ((v13 + 1))), (2, .inl (q109)), (4, .inl (q87)), (0, .inr (.inr (.ref 35))), (1, .inl (a1))]) (st' := [.inl (43), .inl ((sg_g σ106 36 4))]) (σ' := σ106) rfl ?_
                  rw [show (sg_g σ106 36 4) = 260 from by rw [sg_F_ga hF108 rfl, hk97.1]]
                  refine wk_if2 tt_186 (tgt := 39) rfl rfl (by decide) (by decide) (fun (h : 260 = 43) => absurd h (by decide)) (fun _ => ?_)
                  refine wk_b tt_186 4 (pc' := 36) (ls' := [(3, .inl ((v13 + 1))), (2, .inl (q109)), (4, .inl (q87)), (0, .inr (.inr (.ref 35))), (1, .inl (a1))]) (st' := [.inl (45), .inl ((sg_g σ106 36 4))]) (σ' := σ106) rfl ?_
                  rw [show (sg_g σ106 36 4) = 260 from by rw [sg_F_ga hF108 rfl, hk97.1]]
                  refine wk_if2 tt_186 (tgt := 64) rfl rfl (by decide) (by decide) (fun _ => ?_) (fun (h : 260 = 45) => absurd h (by decide))
                  refine wk_b tt_186 1 (pc' := 65) (ls' := [(3, .inl ((v13 + 1))), (2, .inl (q109)), (4, .inl (q87)), (0, .inr (.inr (.ref 35))), (1, .inl (a1))]) (st' := [.inl (q109)]) (σ' := σ106) rfl ?_
                  refine wk_rI tt_186 rfl rfl ?_
                  exact ⟨_, rfl, (sg_F_t (sg_F_t (sg_F_t hF15 (sg_F_m (L := [3, 4, 5, 6, 7, 8, 9, 10, 11, 12, 13, 14, 15, 16, 17, 18, 4035, 4036, 5036, 6036, 7036, 8036, 17002]) hF81 rfl)) (sg_F_m (L := [3, 4, 5, 6, 7, 8, 9, 10, 11, 12, 13, 14, 15, 16, 17, 18, 4035, 4036, 5036, 6036, 7036, 8036, 17002]) hF92 rfl)) (sg_F_m (L := [3, 4, 5, 6, 7, 8, 9, 10, 11, 12, 13, 14, 15, 16, 17, 18, 4035, 4036, 5036, 6036, 7036, 8036, 17002]) hF108 rfl)), Or.inr ⟨(hI19_e.trans (by simp only [pRowL, pqS, h27, h77, he84, he95, ↓reduceIte, Int.reduceEq, reduceCtorEq, or_true, true_or, or_false, false_or, and_true, true_and, and_false, false_and, not_true_eq_false, not_false_eq_true, decide_eq_true_eq, or_self, and_self, ite_self, Int.reduceLE])), (jm_ag hk97 (ag_t (tkq_F hF108 rfl) (ag_r _ _)))⟩⟩
            ·
              refine wk_b tt_186 6 (pc' := 51) (ls' := [(4, .inl (q87)), (0, .inr (.inr (.ref 35))), (1, .inl (a1)), (2, .inl (v12)), (3, .inl (v13))]) (st' := [.inl (a1), .inr (.inr (.ref 35)), .inl (v12), .inl (q87), .inr (.inr (.ref 35))]) (σ' := σ79) rfl ?_
              refine wk_call tt_186 rfl rfl rfl rfl rfl tt_184 rfl (by omega) (pj_product z σ79 (a1) hk86) (fun w113 σ114 hq115 => ?_)
              obtain ⟨q118, rfl, hF116, hj117⟩ := hq115
              refine wk_call tt_186 rfl rfl rfl rfl rfl tt_168 rfl (by omega) (bp_3 z σ114 (q87) (v12) (q118)) (fun w119 σ120 hq121 => ?_)
              obtain ⟨⟨q123, rfl⟩, hF122⟩ := hq121
              refine wk_b tt_186 3 (pc' := 8) (ls' := [(3, .inl ((v13 + 1))), (2, .inl (q123)), (4, .inl (q87)), (0, .inr (.inr (.ref 35))), (1, .inl (a1))]) (st' := []) (σ' := σ120) rfl ?_
              refine wk_b tt_186 2 (pc' := 12) (ls' := [(3, .inl ((v13 + 1))), (2, .inl (q123)), (4, .inl (q87)), (0, .inr (.inr (.ref 35))), (1, .inl (a1))]) (st' := [.inl (200), .inl ((v13 + 1))]) (σ' := σ120) rfl ?_
              refine wk_if2 tt_186 (tgt := 64) rfl rfl (by omega) (by decide) (fun (h124 : 200 < (v13 + 1)) => ?_) (fun (h124 : (v13 + 1) ≤ 200) => ?_)
              ·
                refine wk_b tt_186 1 (pc' := 65) (ls' := [(3, .inl ((v13 + 1))), (2, .inl (q123)), (4, .inl (q87)), (0, .inr (.inr (.ref 35))), (1, .inl (a1))]) (st' := [.inl (q123)]) (σ' := σ120) rfl ?_
                refine wk_rI tt_186 rfl rfl ?_
                exact ⟨_, rfl, (sg_F_t (sg_F_t (sg_F_t hF15 (sg_F_m (L := [3, 4, 5, 6, 7, 8, 9, 10, 11, 12, 13, 14, 15, 16, 17, 18, 4035, 4036, 5036, 6036, 7036, 8036, 17002]) hF81 rfl)) (sg_F_m (L := [3, 4, 5, 6, 7, 8, 9, 10, 11, 12, 13, 14, 15, 16, 17, 18, 4035, 4036, 5036, 6036, 7036, 8036, 17002]) hF116 rfl)) (sg_F_m (L := [3, 4, 5, 6, 7, 8, 9, 10, 11, 12, 13, 14, 15, 16, 17, 18, 4035, 4036, 5036, 6036, 7036, 8036, 17002]) hF122 rfl)), Or.inr ⟨(hI19_e.trans (by simp only [pRowL, pqS, h27, h77, he84, ↓reduceIte, Int.reduceEq, reduceCtorEq, or_true, true_or, or_false, false_or, and_true, true_and, and_false, false_and, not_true_eq_false, not_false_eq_true, decide_eq_true_eq, or_self, and_self, ite_self, Int.reduceLE])), (jm_ag hj117 (ag_t (tkq_F hF122 rfl) (ag_r _ _)))⟩⟩
              ·
                refine wk_b tt_186 4 (pc' := 24) (ls' := [(3, .inl ((v13 + 1))), (2, .inl (q123)), (4, .inl (q87)), (0, .inr (.inr (.ref 35))), (1, .inl (a1))]) (st' := [.inl (43), .inl ((sg_g σ120 36 4))]) (σ' := σ120) rfl ?_
                rw [show (sg_g σ120 36 4) = 260 from by rw [sg_F_ga hF122 rfl, hj117.1]]
                refine wk_if2 tt_186 (tgt := 39) rfl rfl (by decide) (by decide) (fun (h : 260 = 43) => absurd h (by decide)) (fun _ => ?_)
                refine wk_b tt_186 4 (pc' := 36) (ls' := [(3, .inl ((v13 + 1))), (2, .inl (q123)), (4, .inl (q87)), (0, .inr (.inr (.ref 35))), (1, .inl (a1))]) (st' := [.inl (45), .inl ((sg_g σ120 36 4))]) (σ' := σ120) rfl ?_
                rw [show (sg_g σ120 36 4) = 260 from by rw [sg_F_ga hF122 rfl, hj117.1]]
                refine wk_if2 tt_186 (tgt := 64) rfl rfl (by decide) (by decide) (fun _ => ?_) (fun (h : 260 = 45) => absurd h (by decide))
                refine wk_b tt_186 1 (pc' := 65) (ls' := [(3, .inl ((v13 + 1))), (2, .inl (q123)), (4, .inl (q87)), (0, .inr (.inr (.ref 35))), (1, .inl (a1))]) (st' := [.inl (q123)]) (σ' := σ120) rfl ?_
                refine wk_rI tt_186 rfl rfl ?_
                exact ⟨_, rfl, (sg_F_t (sg_F_t (sg_F_t hF15 (sg_F_m (L := [3, 4, 5, 6, 7, 8, 9, 10, 11, 12, 13, 14, 15, 16, 17, 18, 4035, 4036, 5036, 6036, 7036, 8036, 17002]) hF81 rfl)) (sg_F_m (L := [3, 4, 5, 6, 7, 8, 9, 10, 11, 12, 13, 14, 15, 16, 17, 18, 4035, 4036, 5036, 6036, 7036, 8036, 17002]) hF116 rfl)) (sg_F_m (L := [3, 4, 5, 6, 7, 8, 9, 10, 11, 12, 13, 14, 15, 16, 17, 18, 4035, 4036, 5036, 6036, 7036, 8036, 17002]) hF122 rfl)), Or.inr ⟨(hI19_e.trans (by simp only [pRowL, pqS, h27, h77, he84, ↓reduceIte, Int.reduceEq, reduceCtorEq, or_true, true_or, or_false, false_or, and_true, true_and, and_false, false_and, not_true_eq_false, not_false_eq_true, decide_eq_true_eq, or_self, and_self, ite_self, Int.reduceLE])), (jm_ag hj117 (ag_t (tkq_F hF122 rfl) (ag_r _ _)))⟩⟩
    refine wk_ls [(0, .inr (.inr (.ref 35))), (1, .inl (a1)), (2, .inl (q10)), (3, .inl (0))] rfl ⟨rfl, rfl, rfl, rfl, trivial⟩ (lp18 201 σ2 (q10) (0) (i5) τ6 (sg_F_t (sg_F_r [3, 4, 5, 6, 7, 8, 9, 10, 11, 12, 13, 14, 15, 16, 17, 18, 4035, 4036, 5036, 6036, 7036, 8036, 17002] σ) (sg_F_m (L := [3, 4, 5, 6, 7, 8, 9, 10, 11, 12, 13, 14, 15, 16, 17, 18, 4035, 4036, 5036, 6036, 7036, 8036, 17002]) hF4 rfl)) ht8 hk9 ?_)
    exact ⟨((by simp only [pRow, he7, ↓reduceIte, Int.reduceEq, reduceCtorEq, or_true, true_or, or_false, false_or, and_true, true_and, and_false, false_and, not_true_eq_false, not_false_eq_true, decide_eq_true_eq, or_self, and_self, ite_self, Int.reduceLE])), by omega, by omega, by omega⟩
  ·
    refine wk_b tt_186 3 (pc' := 8) (ls' := [(3, .inl (0)), (2, .inl (q10)), (0, .inr (.inr (.ref 35))), (1, .inl (a1))]) (st' := []) (σ' := σ2) rfl ?_
    refine wk_b tt_186 2 (pc' := 12) (ls' := [(3, .inl (0)), (2, .inl (q10)), (0, .inr (.inr (.ref 35))), (1, .inl (a1))]) (st' := [.inl (200), .inl (0)]) (σ' := σ2) rfl ?_
    refine wk_if2 tt_186 (tgt := 64) rfl rfl (by decide) (by decide) (fun (h : 200 < 0) => absurd h (by decide)) (fun _ => ?_)
    refine wk_b tt_186 4 (pc' := 24) (ls' := [(3, .inl (0)), (2, .inl (q10)), (0, .inr (.inr (.ref 35))), (1, .inl (a1))]) (st' := [.inl (43), .inl ((sg_g σ2 36 4))]) (σ' := σ2) rfl ?_
    rw [show (sg_g σ2 36 4) = 260 from by rw [hk9.1]]
    refine wk_if2 tt_186 (tgt := 39) rfl rfl (by decide) (by decide) (fun (h : 260 = 43) => absurd h (by decide)) (fun _ => ?_)
    refine wk_b tt_186 4 (pc' := 36) (ls' := [(3, .inl (0)), (2, .inl (q10)), (0, .inr (.inr (.ref 35))), (1, .inl (a1))]) (st' := [.inl (45), .inl ((sg_g σ2 36 4))]) (σ' := σ2) rfl ?_
    rw [show (sg_g σ2 36 4) = 260 from by rw [hk9.1]]
    refine wk_if2 tt_186 (tgt := 64) rfl rfl (by decide) (by decide) (fun _ => ?_) (fun (h : 260 = 45) => absurd h (by decide))
    refine wk_b tt_186 1 (pc' := 65) (ls' := [(3, .inl (0)), (2, .inl (q10)), (0, .inr (.inr (.ref 35))), (1, .inl (a1))]) (st' := [.inl (q10)]) (σ' := σ2) rfl ?_
    refine wk_rI tt_186 rfl rfl ?_
    exact ⟨_, rfl, (sg_F_t (sg_F_r [3, 4, 5, 6, 7, 8, 9, 10, 11, 12, 13, 14, 15, 16, 17, 18, 4035, 4036, 5036, 6036, 7036, 8036, 17002] σ) (sg_F_m (L := [3, 4, 5, 6, 7, 8, 9, 10, 11, 12, 13, 14, 15, 16, 17, 18, 4035, 4036, 5036, 6036, 7036, 8036, 17002]) hF4 rfl)), Or.inr ⟨((by simp only [pRow, he7, ↓reduceIte, Int.reduceEq, reduceCtorEq, or_true, true_or, or_false, false_or, and_true, true_and, and_false, false_and, not_true_eq_false, not_false_eq_true, decide_eq_true_eq, or_self, and_self, ite_self, Int.reduceLE])), hk9⟩⟩
-- NestedVectors$Parser.product
set_option maxRecDepth 8000 in
theorem px_prd (c : tkC) (hc : tkOK c) (d : Nat) (a1 : Int) (hn : 0 ≤ a1 ∧ a1 ≤ 12) (P : pF) (hP : cE c d 189 a1 (fun _ => True) P) : cE c (d + 6) 184 a1 (fun _ => True) (pRow c pqP P) := by
  intro z σ i τ ht hk hp
  refine wk_b tt_184 2 (pc' := 2) (ls' := [(0, .inr (.inr (.ref 35))), (1, .inl (a1))]) (st' := [.inl (a1), .inr (.inr (.ref 35))]) (σ' := σ) rfl ?_
  refine wk_call tt_184 rfl rfl rfl rfl rfl tt_189 rfl (by omega) (hP z σ (i) τ ht hk trivial) (fun w1 σ2 hq3 => ?_)
  obtain ⟨q10, rfl, hF4, hq3⟩ := hq3
  rcases hq3 with ⟨i5, τ6, he7, rq11, ht8, hk9⟩ | ⟨he7, hk9⟩
  ·
    refine wk_b tt_184 3 (pc' := 8) (ls' := [(3, .inl (0)), (2, .inl (q10)), (0, .inr (.inr (.ref 35))), (1, .inl (a1))]) (st' := []) (σ' := σ2) rfl ?_
    have lp18 : ∀ (m17 : Nat) (σ14 : sg_S) (v12 : Int) (v13 : Int) (i20 : Nat) (τ21 : sg_S), sg_F [3, 4, 5, 6, 7, 8, 9, 10, 11, 12, 13, 14, 15, 16, 17, 18, 4035, 4036, 5036, 6036, 7036, 8036, 17002] σ σ14 → te σ14 τ21 → tk c σ14 i20 → (pRow c pqP P i τ = pRowL c pqP P m17 v12 i20 τ21 ∧ sg_R v12 ∧ v13 + m17 = 201 ∧ 0 ≤ v13) → wx z (d + 6) 184 8 [(0, .inr (.inr (.ref 35))), (1, .inl (a1)), (2, .inl (v12)), (3, .inl (v13))] [] σ14 (pq pL0 c (pRow c pqP P i τ) σ) := by
      intro m17
      induction m17 with
      | zero =>
        intro σ14 v12 v13 i20 τ21 hF15 ht22 hk23 hI19
        obtain ⟨hI19_e, hI19_b⟩ := hI19
        refine wk_b tt_184 2 (pc' := 12) (ls' := [(0, .inr (.inr (.ref 35))), (1, .inl (a1)), (2, .inl (v12)), (3, .inl (v13))]) (st' := [.inl (200), .inl (v13)]) (σ' := σ14) rfl ?_
        refine wk_if2 tt_184 (tgt := 53) rfl rfl (by omega) (by decide) (fun (h24 : 200 < v13) => ?_) (fun (h : v13 ≤ 200) => absurd h (by omega))
        refine wk_b tt_184 1 (pc' := 54) (ls' := [(0, .inr (.inr (.ref 35))), (1, .inl (a1)), (2, .inl (v12)), (3, .inl (v13))]) (st' := [.inl (v12)]) (σ' := σ14) rfl ?_
        refine wk_rI tt_184 rfl rfl ?_
        exact ⟨_, rfl, hF15, Or.inl ⟨_, _, (hI19_e.trans (by simp only [pRowL, pqP, ↓reduceIte, Int.reduceEq, reduceCtorEq, or_true, true_or, or_false, false_or, and_true, true_and, and_false, false_and, not_true_eq_false, not_false_eq_true, decide_eq_true_eq, or_self, and_self, ite_self, Int.reduceLE])), (by first | omega | exact sg_Rg _ _ _ | decide), ht22, hk23⟩⟩
      | succ m17 ih16 =>
        intro σ14 v12 v13 i20 τ21 hF15 ht22 hk23 hI19
        obtain ⟨hI19_e, hI19_b⟩ := hI19
        refine wk_b tt_184 2 (pc' := 12) (ls' := [(0, .inr (.inr (.ref 35))), (1, .inl (a1)), (2, .inl (v12)), (3, .inl (v13))]) (st' := [.inl (200), .inl (v13)]) (σ' := σ14) rfl ?_
        refine wk_if2 tt_184 (tgt := 53) rfl rfl (by omega) (by decide) (fun (h : 200 < v13) => absurd h (by omega)) (fun (h25 : v13 ≤ 200) => ?_)
        refine wk_b tt_184 3 (pc' := 22) (ls' := [(0, .inr (.inr (.ref 35))), (1, .inl (a1)), (2, .inl (v12)), (3, .inl (v13))]) (st' := [.inl ((sg_g σ14 36 4))]) (σ' := σ14) rfl ?_
        have r26 := tK_r hc (i20)
        rw [show (sg_g σ14 36 4) = (tK c (i20)) from by rw [hk23.2.2.2.2.1]]
        refine wk_callb tt_184 rfl rfl rfl rfl rfl tt_177 rfl (by omega) (px_isP z σ14 ((tK c (i20))) (by omega)) (fun (h27 : (tK c (i20)) = 42 ∨ (tK c (i20)) = 47 ∨ (tK c (i20)) = 37) => ?_) (fun (h27 : ¬ ((tK c (i20)) = 42 ∨ (tK c (i20)) = 47 ∨ (tK c (i20)) = 37)) => ?_)
        ·
          refine wk_if tt_184 (tgt := 53) rfl rfl (by decide) (fun (h : 1 = 0) => absurd h (by decide)) (fun _ => ?_)
          refine wk_b tt_184 1 (pc' := 29) (ls' := [(0, .inr (.inr (.ref 35))), (1, .inl (a1)), (2, .inl (v12)), (3, .inl (v13))]) (st' := [.inr (.inr (.ref 35))]) (σ' := σ14) rfl ?_
          refine wk_call tt_184 rfl rfl rfl rfl rfl tt_171 rfl (by omega) (px_crt z σ14 c hc (i20) τ21 ht22 hk23 (by omega)) (fun w29 σ30 hq31 => ?_)
          obtain ⟨q38, rfl, hF32, hq31⟩ := hq31
          rcases hq31 with ⟨i33, τ34, he35, rq39, ht36, hk37⟩ | ⟨he35, hk37⟩
          ·
            refine wk_b tt_184 6 (pc' := 40) (ls' := [(4, .inl (q38)), (0, .inr (.inr (.ref 35))), (1, .inl (a1)), (2, .inl (v12)), (3, .inl (v13))]) (st' := [.inl (a1), .inr (.inr (.ref 35)), .inl (v12), .inl (q38), .inr (.inr (.ref 35))]) (σ' := σ30) rfl ?_
            refine wk_call tt_184 rfl rfl rfl rfl rfl tt_189 rfl (by omega) (hP z σ30 (i33) τ34 ht36 hk37 trivial) (fun w40 σ41 hq42 => ?_)
            obtain ⟨q49, rfl, hF43, hq42⟩ := hq42
            rcases hq42 with ⟨i44, τ45, he46, rq50, ht47, hk48⟩ | ⟨he46, hk48⟩
            ·
              refine wk_call tt_184 rfl rfl rfl rfl rfl tt_168 rfl (by omega) (px_both z σ41 (q38) (v12) (q49) τ45 ht47 (by first | omega | exact sg_Rg _ _ _) (by first | omega | exact sg_Rg _ _ _) (by first | omega | exact sg_Rg _ _ _)) (fun w51 σ52 hq53 => ?_)
              obtain ⟨rfl, hF54, ht55⟩ := hq53
              refine wk_b tt_184 3 (pc' := 8) (ls' := [(3, .inl ((v13 + 1))), (2, .inl (q38)), (4, .inl (q38)), (0, .inr (.inr (.ref 35))), (1, .inl (a1))]) (st' := []) (σ' := σ52) rfl ?_
              refine wk_ls [(0, .inr (.inr (.ref 35))), (1, .inl (a1)), (2, .inl (q38)), (3, .inl ((v13 + 1)))] rfl ⟨rfl, rfl, rfl, rfl, trivial⟩ (ih16 σ52 (q38) ((v13 + 1)) (i44) (pBoth τ45 (q38) (v12) (q49)) (sg_F_t (sg_F_t (sg_F_t hF15 (sg_F_m (L := [3, 4, 5, 6, 7, 8, 9, 10, 11, 12, 13, 14, 15, 16, 17, 18, 4035, 4036, 5036, 6036, 7036, 8036, 17002]) hF32 rfl)) (sg_F_m (L := [3, 4, 5, 6, 7, 8, 9, 10, 11, 12, 13, 14, 15, 16, 17, 18, 4035, 4036, 5036, 6036, 7036, 8036, 17002]) hF43 rfl)) (sg_F_m (L := [3, 4, 5, 6, 7, 8, 9, 10, 11, 12, 13, 14, 15, 16, 17, 18, 4035, 4036, 5036, 6036, 7036, 8036, 17002]) hF54 rfl)) ht55 (tk_ag hk48 (ag_t (tkq_F hF54 rfl) (ag_r _ _))) ?_)
              exact ⟨(hI19_e.trans (by simp only [pRowL, pqP, h27, he35, he46, ↓reduceIte, Int.reduceEq, reduceCtorEq, or_true, true_or, or_false, false_or, and_true, true_and, and_false, false_and, not_true_eq_false, not_false_eq_true, decide_eq_true_eq, or_self, and_self, ite_self, Int.reduceLE])), by omega, by omega, by omega⟩
            ·
              refine wk_call tt_184 rfl rfl rfl rfl rfl tt_168 rfl (by omega) (bp_3 z σ41 (q38) (v12) (q49)) (fun w56 σ57 hq58 => ?_)
              obtain ⟨⟨q60, rfl⟩, hF59⟩ := hq58
              refine wk_b tt_184 3 (pc' := 8) (ls' := [(3, .inl ((v13 + 1))), (2, .inl (q60)), (4, .inl (q38)), (0, .inr (.inr (.ref 35))), (1, .inl (a1))]) (st' := []) (σ' := σ57) rfl ?_
              refine wk_b tt_184 2 (pc' := 12) (ls' := [(3, .inl ((v13 + 1))), (2, .inl (q60)), (4, .inl (q38)), (0, .inr (.inr (.ref 35))), (1, .inl (a1))]) (st' := [.inl (200), .inl ((v13 + 1))]) (σ' := σ57) rfl ?_
              refine wk_if2 tt_184 (tgt := 53) rfl rfl (by omega) (by decide) (fun (h61 : 200 < (v13 + 1)) => ?_) (fun (h61 : (v13 + 1) ≤ 200) => ?_)
              ·
                refine wk_b tt_184 1 (pc' := 54) (ls' := [(3, .inl ((v13 + 1))), (2, .inl (q60)), (4, .inl (q38)), (0, .inr (.inr (.ref 35))), (1, .inl (a1))]) (st' := [.inl (q60)]) (σ' := σ57) rfl ?_
                refine wk_rI tt_184 rfl rfl ?_
                exact ⟨_, rfl, (sg_F_t (sg_F_t (sg_F_t hF15 (sg_F_m (L := [3, 4, 5, 6, 7, 8, 9, 10, 11, 12, 13, 14, 15, 16, 17, 18, 4035, 4036, 5036, 6036, 7036, 8036, 17002]) hF32 rfl)) (sg_F_m (L := [3, 4, 5, 6, 7, 8, 9, 10, 11, 12, 13, 14, 15, 16, 17, 18, 4035, 4036, 5036, 6036, 7036, 8036, 17002]) hF43 rfl)) (sg_F_m (L := [3, 4, 5, 6, 7, 8, 9, 10, 11, 12, 13, 14, 15, 16, 17, 18, 4035, 4036, 5036, 6036, 7036, 8036, 17002]) hF59 rfl)), Or.inr ⟨(hI19_e.trans (by simp only [pRowL, pqP, h27, he35, he46, ↓reduceIte, Int.reduceEq, reduceCtorEq, or_true, true_or, or_false, false_or, and_true, true_and, and_false, false_and, not_true_eq_false, not_false_eq_true, decide_eq_true_eq, or_self, and_self, ite_self, Int.reduceLE])), (jm_ag hk48 (ag_t (tkq_F hF59 rfl) (ag_r _ _)))⟩⟩
              ·
                refine wk_b tt_184 3 (pc' := 22) (ls' := [(3, .inl ((v13 + 1))), (2, .inl (q60)), (4, .inl (q38)), (0, .inr (.inr (.ref 35))), (1, .inl (a1))]) (st' := [.inl ((sg_g σ57 36 4))]) (σ' := σ57) rfl ?_
                rw [show (sg_g σ57 36 4) = 260 from by rw [sg_F_ga hF59 rfl, hk48.1]]
                refine wk_callb tt_184 rfl rfl rfl rfl rfl tt_177 rfl (by omega) (px_isP z σ57 (260) (by omega)) (fun (h : 260 = 42 ∨ 260 = 47 ∨ 260 = 37) => absurd h (by decide)) (fun (h : ¬ (260 = 42 ∨ 260 = 47 ∨ 260 = 37)) => ?_)
                refine wk_if tt_184 (tgt := 53) rfl rfl (by decide) (fun _ => ?_) (fun (h : ¬ 0 = 0) => absurd h (by decide))
                refine wk_b tt_184 1 (pc' := 54) (ls' := [(3, .inl ((v13 + 1))), (2, .inl (q60)), (4, .inl (q38)), (0, .inr (.inr (.ref 35))), (1, .inl (a1))]) (st' := [.inl (q60)]) (σ' := σ57) rfl ?_
                refine wk_rI tt_184 rfl rfl ?_
                exact ⟨_, rfl, (sg_F_t (sg_F_t (sg_F_t hF15 (sg_F_m (L := [3, 4, 5, 6, 7, 8, 9, 10, 11, 12, 13, 14, 15, 16, 17, 18, 4035, 4036, 5036, 6036, 7036, 8036, 17002]) hF32 rfl)) (sg_F_m (L := [3, 4, 5, 6, 7, 8, 9, 10, 11, 12, 13, 14, 15, 16, 17, 18, 4035, 4036, 5036, 6036, 7036, 8036, 17002]) hF43 rfl)) (sg_F_m (L := [3, 4, 5, 6, 7, 8, 9, 10, 11, 12, 13, 14, 15, 16, 17, 18, 4035, 4036, 5036, 6036, 7036, 8036, 17002]) hF59 rfl)), Or.inr ⟨(hI19_e.trans (by simp only [pRowL, pqP, h27, he35, he46, ↓reduceIte, Int.reduceEq, reduceCtorEq, or_true, true_or, or_false, false_or, and_true, true_and, and_false, false_and, not_true_eq_false, not_false_eq_true, decide_eq_true_eq, or_self, and_self, ite_self, Int.reduceLE])), (jm_ag hk48 (ag_t (tkq_F hF59 rfl) (ag_r _ _)))⟩⟩
          ·
            refine wk_b tt_184 6 (pc' := 40) (ls' := [(4, .inl (q38)), (0, .inr (.inr (.ref 35))), (1, .inl (a1)), (2, .inl (v12)), (3, .inl (v13))]) (st' := [.inl (a1), .inr (.inr (.ref 35)), .inl (v12), .inl (q38), .inr (.inr (.ref 35))]) (σ' := σ30) rfl ?_
            refine wk_call tt_184 rfl rfl rfl rfl rfl tt_189 rfl (by omega) (pj_unary z σ30 (a1) hk37) (fun w63 σ64 hq65 => ?_)
            obtain ⟨q68, rfl, hF66, hj67⟩ := hq65
            refine wk_call tt_184 rfl rfl rfl rfl rfl tt_168 rfl (by omega) (bp_3 z σ64 (q38) (v12) (q68)) (fun w69 σ70 hq71 => ?_)
            obtain ⟨⟨q73, rfl⟩, hF72⟩ := hq71
            refine wk_b tt_184 3 (pc' := 8) (ls' := [(3, .inl ((v13 + 1))), (2, .inl (q73)), (4, .inl (q38)), (0, .inr (.inr (.ref 35))), (1, .inl (a1))]) (st' := []) (σ' := σ70) rfl ?_
            refine wk_b tt_184 2 (pc' := 12) (ls' := [(3, .inl ((v13 + 1))), (2, .inl (q73)), (4, .inl (q38)), (0, .inr (.inr (.ref 35))), (1, .inl (a1))]) (st' := [.inl (200), .inl ((v13 + 1))]) (σ' := σ70) rfl ?_
            refine wk_if2 tt_184 (tgt := 53) rfl rfl (by omega) (by decide) (fun (h74 : 200 < (v13 + 1)) => ?_) (fun (h74 : (v13 + 1) ≤ 200) => ?_)
            ·
              refine wk_b tt_184 1 (pc' := 54) (ls' := [(3, .inl ((v13 + 1))), (2, .inl (q73)), (4, .inl (q38)), (0, .inr (.inr (.ref 35))), (1, .inl (a1))]) (st' := [.inl (q73)]) (σ' := σ70) rfl ?_
              refine wk_rI tt_184 rfl rfl ?_
              exact ⟨_, rfl, (sg_F_t (sg_F_t (sg_F_t hF15 (sg_F_m (L := [3, 4, 5, 6, 7, 8, 9, 10, 11, 12, 13, 14, 15, 16, 17, 18, 4035, 4036, 5036, 6036, 7036, 8036, 17002]) hF32 rfl)) (sg_F_m (L := [3, 4, 5, 6, 7, 8, 9, 10, 11, 12, 13, 14, 15, 16, 17, 18, 4035, 4036, 5036, 6036, 7036, 8036, 17002]) hF66 rfl)) (sg_F_m (L := [3, 4, 5, 6, 7, 8, 9, 10, 11, 12, 13, 14, 15, 16, 17, 18, 4035, 4036, 5036, 6036, 7036, 8036, 17002]) hF72 rfl)), Or.inr ⟨(hI19_e.trans (by simp only [pRowL, pqP, h27, he35, ↓reduceIte, Int.reduceEq, reduceCtorEq, or_true, true_or, or_false, false_or, and_true, true_and, and_false, false_and, not_true_eq_false, not_false_eq_true, decide_eq_true_eq, or_self, and_self, ite_self, Int.reduceLE])), (jm_ag hj67 (ag_t (tkq_F hF72 rfl) (ag_r _ _)))⟩⟩
            ·
              refine wk_b tt_184 3 (pc' := 22) (ls' := [(3, .inl ((v13 + 1))), (2, .inl (q73)), (4, .inl (q38)), (0, .inr (.inr (.ref 35))), (1, .inl (a1))]) (st' := [.inl ((sg_g σ70 36 4))]) (σ' := σ70) rfl ?_
              rw [show (sg_g σ70 36 4) = 260 from by rw [sg_F_ga hF72 rfl, hj67.1]]
              refine wk_callb tt_184 rfl rfl rfl rfl rfl tt_177 rfl (by omega) (px_isP z σ70 (260) (by omega)) (fun (h : 260 = 42 ∨ 260 = 47 ∨ 260 = 37) => absurd h (by decide)) (fun (h : ¬ (260 = 42 ∨ 260 = 47 ∨ 260 = 37)) => ?_)
              refine wk_if tt_184 (tgt := 53) rfl rfl (by decide) (fun _ => ?_) (fun (h : ¬ 0 = 0) => absurd h (by decide))
              refine wk_b tt_184 1 (pc' := 54) (ls' := [(3, .inl ((v13 + 1))), (2, .inl (q73)), (4, .inl (q38)), (0, .inr (.inr (.ref 35))), (1, .inl (a1))]) (st' := [.inl (q73)]) (σ' := σ70) rfl ?_
              refine wk_rI tt_184 rfl rfl ?_
              exact ⟨_, rfl, (sg_F_t (sg_F_t (sg_F_t hF15 (sg_F_m (L := [3, 4, 5, 6, 7, 8, 9, 10, 11, 12, 13, 14, 15, 16, 17, 18, 4035, 4036, 5036, 6036, 7036, 8036, 17002]) hF32 rfl)) (sg_F_m (L := [3, 4, 5, 6, 7, 8, 9, 10, 11, 12, 13, 14, 15, 16, 17, 18, 4035, 4036, 5036, 6036, 7036, 8036, 17002]) hF66 rfl)) (sg_F_m (L := [3, 4, 5, 6, 7, 8, 9, 10, 11, 12, 13, 14, 15, 16, 17, 18, 4035, 4036, 5036, 6036, 7036, 8036, 17002]) hF72 rfl)), Or.inr ⟨(hI19_e.trans (by simp only [pRowL, pqP, h27, he35, ↓reduceIte, Int.reduceEq, reduceCtorEq, or_true, true_or, or_false, false_or, and_true, true_and, and_false, false_and, not_true_eq_false, not_false_eq_true, decide_eq_true_eq, or_self, and_self, ite_self, Int.reduceLE])), (jm_ag hj67 (ag_t (tkq_F hF72 rfl) (ag_r _ _)))⟩⟩
        ·
          refine wk_if tt_184 (tgt := 53) rfl rfl (by decide) (fun _ => ?_) (fun (h : ¬ 0 = 0) => absurd h (by decide))
          refine wk_b tt_184 1 (pc' := 54) (ls' := [(0, .inr (.inr (.ref 35))), (1, .inl (a1)), (2, .inl (v12)), (3, .inl (v13))]) (st' := [.inl (v12)]) (σ' := σ14) rfl ?_
          refine wk_rI tt_184 rfl rfl ?_
          exact ⟨_, rfl, hF15, Or.inl ⟨_, _, (hI19_e.trans (by simp only [pRowL, pqP, h27, ↓reduceIte, Int.reduceEq, reduceCtorEq, or_true, true_or, or_false, false_or, and_true, true_and, and_false, false_and, not_true_eq_false, not_false_eq_true, decide_eq_true_eq, or_self, and_self, ite_self, Int.reduceLE])), (by first | omega | exact sg_Rg _ _ _ | decide), ht22, hk23⟩⟩
    refine wk_ls [(0, .inr (.inr (.ref 35))), (1, .inl (a1)), (2, .inl (q10)), (3, .inl (0))] rfl ⟨rfl, rfl, rfl, rfl, trivial⟩ (lp18 201 σ2 (q10) (0) (i5) τ6 (sg_F_t (sg_F_r [3, 4, 5, 6, 7, 8, 9, 10, 11, 12, 13, 14, 15, 16, 17, 18, 4035, 4036, 5036, 6036, 7036, 8036, 17002] σ) (sg_F_m (L := [3, 4, 5, 6, 7, 8, 9, 10, 11, 12, 13, 14, 15, 16, 17, 18, 4035, 4036, 5036, 6036, 7036, 8036, 17002]) hF4 rfl)) ht8 hk9 ?_)
    exact ⟨((by simp only [pRow, he7, ↓reduceIte, Int.reduceEq, reduceCtorEq, or_true, true_or, or_false, false_or, and_true, true_and, and_false, false_and, not_true_eq_false, not_false_eq_true, decide_eq_true_eq, or_self, and_self, ite_self, Int.reduceLE])), by omega, by omega, by omega⟩
  ·
    refine wk_b tt_184 3 (pc' := 8) (ls' := [(3, .inl (0)), (2, .inl (q10)), (0, .inr (.inr (.ref 35))), (1, .inl (a1))]) (st' := []) (σ' := σ2) rfl ?_
    refine wk_b tt_184 2 (pc' := 12) (ls' := [(3, .inl (0)), (2, .inl (q10)), (0, .inr (.inr (.ref 35))), (1, .inl (a1))]) (st' := [.inl (200), .inl (0)]) (σ' := σ2) rfl ?_
    refine wk_if2 tt_184 (tgt := 53) rfl rfl (by decide) (by decide) (fun (h : 200 < 0) => absurd h (by decide)) (fun _ => ?_)
    refine wk_b tt_184 3 (pc' := 22) (ls' := [(3, .inl (0)), (2, .inl (q10)), (0, .inr (.inr (.ref 35))), (1, .inl (a1))]) (st' := [.inl ((sg_g σ2 36 4))]) (σ' := σ2) rfl ?_
    rw [show (sg_g σ2 36 4) = 260 from by rw [hk9.1]]
    refine wk_callb tt_184 rfl rfl rfl rfl rfl tt_177 rfl (by omega) (px_isP z σ2 (260) (by omega)) (fun (h : 260 = 42 ∨ 260 = 47 ∨ 260 = 37) => absurd h (by decide)) (fun (h : ¬ (260 = 42 ∨ 260 = 47 ∨ 260 = 37)) => ?_)
    refine wk_if tt_184 (tgt := 53) rfl rfl (by decide) (fun _ => ?_) (fun (h : ¬ 0 = 0) => absurd h (by decide))
    refine wk_b tt_184 1 (pc' := 54) (ls' := [(3, .inl (0)), (2, .inl (q10)), (0, .inr (.inr (.ref 35))), (1, .inl (a1))]) (st' := [.inl (q10)]) (σ' := σ2) rfl ?_
    refine wk_rI tt_184 rfl rfl ?_
    exact ⟨_, rfl, (sg_F_t (sg_F_r [3, 4, 5, 6, 7, 8, 9, 10, 11, 12, 13, 14, 15, 16, 17, 18, 4035, 4036, 5036, 6036, 7036, 8036, 17002] σ) (sg_F_m (L := [3, 4, 5, 6, 7, 8, 9, 10, 11, 12, 13, 14, 15, 16, 17, 18, 4035, 4036, 5036, 6036, 7036, 8036, 17002]) hF4 rfl)), Or.inr ⟨((by simp only [pRow, he7, ↓reduceIte, Int.reduceEq, reduceCtorEq, or_true, true_or, or_false, false_or, and_true, true_and, and_false, false_and, not_true_eq_false, not_false_eq_true, decide_eq_true_eq, or_self, and_self, ite_self, Int.reduceLE])), hk9⟩⟩
