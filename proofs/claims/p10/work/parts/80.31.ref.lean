/-! Conditions of the reference's methods, by program (31). -/
-- NestedVectorsModel.goOn
def V_goOn_7 (σ : sg_S) (Q : sg_S → Prop) : Prop := p_isSignNow σ (35) ∧ (((v_isSignNow σ (35)) = 0 → V_pile σ (8) (0) (fun σ4 => sg_F [110, 111, 32088] σ σ4 → V_pile σ4 (9) (0) (fun σ10 => sg_F [110, 111, 32088] σ4 σ10 → Q σ10))) ∧ (¬ (v_isSignNow σ (35)) = 0 → V_enter σ  (fun σ16 => sg_F [30088, 31088, 37088] σ σ16 → V_newNode σ16 (11) (fun q21 σ22 => sg_R q21 → sg_F [93, 94, 95, 96, 98, 9088, 30088, 31088] σ16 σ22 → V_want σ22 (1) (fun σ28 => sg_F [8088, 30088, 31088] σ22 σ28 → V_pile σ28 (11) (q21) (fun σ34 => sg_F [110, 111, 32088] σ28 σ34 → V_pile σ34 (12) (0) (fun σ40 => sg_F [110, 111, 32088] σ34 σ40 → V_pile σ40 (10) (q21) (fun σ46 => sg_F [110, 111, 32088] σ40 σ46 → V_pile σ46 (7) (0) (fun σ52 => sg_F [110, 111, 32088] σ46 σ52 → Q σ52)))))))))
set_option maxHeartbeats 4000000 in
set_option maxRecDepth 8000 in
theorem w_goOn_7 (z : Value) (σ : sg_S) (Q : sg_S → Prop)  (w : V_goOn_7 σ  Q) : wx z 2 253 290 [(0, .inr (.inr (.ref 88)))] [] σ (fun v σ' => v = none ∧ sg_F [93, 94, 95, 96, 98, 110, 111, 8088, 9088, 30088, 31088, 32088, 37088] σ σ' ∧ Q σ') := by
  unfold V_goOn_7 at w
  refine wk_b tt_253 2 (pc' := 293) (ls' := [(0, .inr (.inr (.ref 88)))]) (st' := [.inl (35), .inr (.inr (.ref 88))]) (σ' := σ) rfl ?_
  obtain ⟨c1, w⟩ := w
  refine wk_callp tt_253 rfl rfl rfl rfl rfl tt_268 rfl (by decide) (w_isSignNow z σ (35) (by decide) c1) ?_
  refine wk_if tt_253 (tgt := 346) rfl rfl (sg_Rz (vz_isSignNow ..)) (fun (h2 : (v_isSignNow σ (35)) = 0) => ?_) (fun (h2 : ¬ (v_isSignNow σ (35)) = 0) => ?_)
  ·
    have w := w.1 h2
    refine wk_b tt_253 3 (pc' := 350) (ls' := [(0, .inr (.inr (.ref 88)))]) (st' := [.inl (0), .inl (8), .inr (.inr (.ref 88))]) (σ' := σ) rfl ?_
    refine wk_call tt_253 rfl rfl rfl rfl rfl tt_305 rfl (by decide) (w_pile z σ (8) (0) _ (by decide) (by decide) w) (fun u8 σ4 hq6 => ?_)
    obtain ⟨rfl, hF5, w⟩ := hq6
    have w := w hF5
    refine wk_b tt_253 3 (pc' := 357) (ls' := [(0, .inr (.inr (.ref 88)))]) (st' := [.inl (0), .inl (9), .inr (.inr (.ref 88))]) (σ' := σ4) rfl ?_
    refine wk_call tt_253 rfl rfl rfl rfl rfl tt_305 rfl (by decide) (w_pile z σ4 (9) (0) _ (by decide) (by decide) w) (fun u14 σ10 hq12 => ?_)
    obtain ⟨rfl, hF11, w⟩ := hq12
    have w := w hF11
    refine wk_b tt_253 1 (pc' := 632) (ls' := [(0, .inr (.inr (.ref 88)))]) (st' := []) (σ' := σ10) rfl ?_
    exact wk_rV tt_253 rfl rfl ⟨rfl, (sg_F_t (sg_F_t (sg_F_r [93, 94, 95, 96, 98, 110, 111, 8088, 9088, 30088, 31088, 32088, 37088] σ) (sg_F_m (L := [93, 94, 95, 96, 98, 110, 111, 8088, 9088, 30088, 31088, 32088, 37088]) hF5 rfl)) (sg_F_m (L := [93, 94, 95, 96, 98, 110, 111, 8088, 9088, 30088, 31088, 32088, 37088]) hF11 rfl)), w⟩
  ·
    have w := w.2 h2
    refine wk_b tt_253 1 (pc' := 300) (ls' := [(0, .inr (.inr (.ref 88)))]) (st' := [.inr (.inr (.ref 88))]) (σ' := σ) rfl ?_
    refine wk_call tt_253 rfl rfl rfl rfl rfl tt_225 rfl (by decide) (w_enter z σ  _  w) (fun u20 σ16 hq18 => ?_)
    obtain ⟨rfl, hF17, w⟩ := hq18
    have w := w hF17
    refine wk_b tt_253 2 (pc' := 306) (ls' := [(0, .inr (.inr (.ref 88)))]) (st' := [.inl (11), .inr (.inr (.ref 88))]) (σ' := σ16) rfl ?_
    refine wk_call tt_253 rfl rfl rfl rfl rfl tt_294 rfl (by decide) (w_newNode z σ16 (11) _ (by decide) w) (fun u26 σ22 hq24 => ?_)
    obtain ⟨q21, rfl, r25, hF23, w⟩ := hq24
    have w := w r25 hF23
    refine wk_b tt_253 3 (pc' := 312) (ls' := [(3, .inl (q21)), (0, .inr (.inr (.ref 88)))]) (st' := [.inl (1), .inr (.inr (.ref 88))]) (σ' := σ22) rfl ?_
    refine wk_call tt_253 rfl rfl rfl rfl rfl tt_334 rfl (by decide) (w_want z σ22 (1) _ (by decide) w) (fun u32 σ28 hq30 => ?_)
    obtain ⟨rfl, hF29, w⟩ := hq30
    have w := w hF29
    refine wk_b tt_253 3 (pc' := 319) (ls' := [(3, .inl (q21)), (0, .inr (.inr (.ref 88)))]) (st' := [.inl (q21), .inl (11), .inr (.inr (.ref 88))]) (σ' := σ28) rfl ?_
    refine wk_call tt_253 rfl rfl rfl rfl rfl tt_305 rfl (by decide) (w_pile z σ28 (11) (q21) _ (by decide) r25 w) (fun u38 σ34 hq36 => ?_)
    obtain ⟨rfl, hF35, w⟩ := hq36
    have w := w hF35
    refine wk_b tt_253 3 (pc' := 326) (ls' := [(3, .inl (q21)), (0, .inr (.inr (.ref 88)))]) (st' := [.inl (0), .inl (12), .inr (.inr (.ref 88))]) (σ' := σ34) rfl ?_
    refine wk_call tt_253 rfl rfl rfl rfl rfl tt_305 rfl (by decide) (w_pile z σ34 (12) (0) _ (by decide) (by decide) w) (fun u44 σ40 hq42 => ?_)
    obtain ⟨rfl, hF41, w⟩ := hq42
    have w := w hF41
    refine wk_b tt_253 3 (pc' := 333) (ls' := [(3, .inl (q21)), (0, .inr (.inr (.ref 88)))]) (st' := [.inl (q21), .inl (10), .inr (.inr (.ref 88))]) (σ' := σ40) rfl ?_
    refine wk_call tt_253 rfl rfl rfl rfl rfl tt_305 rfl (by decide) (w_pile z σ40 (10) (q21) _ (by decide) r25 w) (fun u50 σ46 hq48 => ?_)
    obtain ⟨rfl, hF47, w⟩ := hq48
    have w := w hF47
    refine wk_b tt_253 3 (pc' := 340) (ls' := [(3, .inl (q21)), (0, .inr (.inr (.ref 88)))]) (st' := [.inl (0), .inl (7), .inr (.inr (.ref 88))]) (σ' := σ46) rfl ?_
    refine wk_call tt_253 rfl rfl rfl rfl rfl tt_305 rfl (by decide) (w_pile z σ46 (7) (0) _ (by decide) (by decide) w) (fun u56 σ52 hq54 => ?_)
    obtain ⟨rfl, hF53, w⟩ := hq54
    have w := w hF53
    refine wk_b tt_253 1 (pc' := 632) (ls' := [(3, .inl (q21)), (0, .inr (.inr (.ref 88)))]) (st' := []) (σ' := σ52) rfl ?_
    exact wk_rV tt_253 rfl rfl ⟨rfl, (sg_F_t (sg_F_t (sg_F_t (sg_F_t (sg_F_t (sg_F_t (sg_F_t (sg_F_r [93, 94, 95, 96, 98, 110, 111, 8088, 9088, 30088, 31088, 32088, 37088] σ) (sg_F_m (L := [93, 94, 95, 96, 98, 110, 111, 8088, 9088, 30088, 31088, 32088, 37088]) hF17 rfl)) (sg_F_m (L := [93, 94, 95, 96, 98, 110, 111, 8088, 9088, 30088, 31088, 32088, 37088]) hF23 rfl)) (sg_F_m (L := [93, 94, 95, 96, 98, 110, 111, 8088, 9088, 30088, 31088, 32088, 37088]) hF29 rfl)) (sg_F_m (L := [93, 94, 95, 96, 98, 110, 111, 8088, 9088, 30088, 31088, 32088, 37088]) hF35 rfl)) (sg_F_m (L := [93, 94, 95, 96, 98, 110, 111, 8088, 9088, 30088, 31088, 32088, 37088]) hF41 rfl)) (sg_F_m (L := [93, 94, 95, 96, 98, 110, 111, 8088, 9088, 30088, 31088, 32088, 37088]) hF47 rfl)) (sg_F_m (L := [93, 94, 95, 96, 98, 110, 111, 8088, 9088, 30088, 31088, 32088, 37088]) hF53 rfl)), w⟩
-- NestedVectorsModel.goOn
def V_goOn_8 (σ : sg_S) (Q : sg_S → Prop) : Prop := p_isSignNow σ (91) ∧ (((v_isSignNow σ (91)) = 0 → Q σ) ∧ (¬ (v_isSignNow σ (91)) = 0 → V_enter σ  (fun σ4 => sg_F [30088, 31088, 37088] σ σ4 → V_newNode σ4 (12) (fun q9 σ10 => sg_R q9 → sg_F [93, 94, 95, 96, 98, 9088, 30088, 31088] σ4 σ10 → V_popped σ10  (fun q15 σ16 => sg_R q15 → sg_F [35088] σ10 σ16 → V_kid σ16 (q9) (q15) (fun σ22 => sg_F [96, 97] σ16 σ22 → V_want σ22 (1) (fun σ28 => sg_F [8088, 30088, 31088] σ22 σ28 → V_pile σ28 (8) (0) (fun σ34 => sg_F [110, 111, 32088] σ28 σ34 → V_pile σ34 (11) (q9) (fun σ40 => sg_F [110, 111, 32088] σ34 σ40 → V_pile σ40 (12) (0) (fun σ46 => sg_F [110, 111, 32088] σ40 σ46 → V_pile σ46 (13) (93) (fun σ52 => sg_F [110, 111, 32088] σ46 σ52 → V_pile σ52 (10) (q9) (fun σ58 => sg_F [110, 111, 32088] σ52 σ58 → V_pile σ58 (0) (0) (fun σ64 => sg_F [110, 111, 32088] σ58 σ64 → Q σ64)))))))))))))
set_option maxHeartbeats 4000000 in
set_option maxRecDepth 8000 in
theorem w_goOn_8 (z : Value) (σ : sg_S) (Q : sg_S → Prop)  (w : V_goOn_8 σ  Q) : wx z 2 253 363 [(0, .inr (.inr (.ref 88)))] [] σ (fun v σ' => v = none ∧ sg_F [93, 94, 95, 96, 97, 98, 110, 111, 8088, 9088, 30088, 31088, 32088, 35088, 37088] σ σ' ∧ Q σ') := by
  unfold V_goOn_8 at w
  refine wk_b tt_253 2 (pc' := 366) (ls' := [(0, .inr (.inr (.ref 88)))]) (st' := [.inl (91), .inr (.inr (.ref 88))]) (σ' := σ) rfl ?_
  obtain ⟨c1, w⟩ := w
  refine wk_callp tt_253 rfl rfl rfl rfl rfl tt_268 rfl (by decide) (w_isSignNow z σ (91) (by decide) c1) ?_
  refine wk_if tt_253 (tgt := 632) rfl rfl (sg_Rz (vz_isSignNow ..)) (fun (h2 : (v_isSignNow σ (91)) = 0) => ?_) (fun (h2 : ¬ (v_isSignNow σ (91)) = 0) => ?_)
  ·
    have w := w.1 h2
    exact wk_rV tt_253 rfl rfl ⟨rfl, (sg_F_r [93, 94, 95, 96, 97, 98, 110, 111, 8088, 9088, 30088, 31088, 32088, 35088, 37088] σ), w⟩
  ·
    have w := w.2 h2
    refine wk_b tt_253 1 (pc' := 373) (ls' := [(0, .inr (.inr (.ref 88)))]) (st' := [.inr (.inr (.ref 88))]) (σ' := σ) rfl ?_
    refine wk_call tt_253 rfl rfl rfl rfl rfl tt_225 rfl (by decide) (w_enter z σ  _  w) (fun u8 σ4 hq6 => ?_)
    obtain ⟨rfl, hF5, w⟩ := hq6
    have w := w hF5
    refine wk_b tt_253 2 (pc' := 379) (ls' := [(0, .inr (.inr (.ref 88)))]) (st' := [.inl (12), .inr (.inr (.ref 88))]) (σ' := σ4) rfl ?_
    refine wk_call tt_253 rfl rfl rfl rfl rfl tt_294 rfl (by decide) (w_newNode z σ4 (12) _ (by decide) w) (fun u14 σ10 hq12 => ?_)
    obtain ⟨q9, rfl, r13, hF11, w⟩ := hq12
    have w := w r13 hF11
    refine wk_b tt_253 4 (pc' := 386) (ls' := [(3, .inl (q9)), (0, .inr (.inr (.ref 88)))]) (st' := [.inr (.inr (.ref 88)), .inl (q9), .inr (.inr (.ref 88))]) (σ' := σ10) rfl ?_
    refine wk_call tt_253 rfl rfl rfl rfl rfl tt_306 rfl (by decide) (w_popped z σ10  _  w) (fun u20 σ16 hq18 => ?_)
    obtain ⟨q15, rfl, r19, hF17, w⟩ := hq18
    have w := w r19 hF17
    refine wk_call tt_253 rfl rfl rfl rfl rfl tt_272 rfl (by decide) (w_kid z σ16 (q9) (q15) _ r13 r19 w) (fun u26 σ22 hq24 => ?_)
    obtain ⟨rfl, hF23, w⟩ := hq24
    have w := w hF23
    refine wk_b tt_253 2 (pc' := 394) (ls' := [(3, .inl (q9)), (0, .inr (.inr (.ref 88)))]) (st' := [.inl (1), .inr (.inr (.ref 88))]) (σ' := σ22) rfl ?_
    refine wk_call tt_253 rfl rfl rfl rfl rfl tt_334 rfl (by decide) (w_want z σ22 (1) _ (by decide) w) (fun u32 σ28 hq30 => ?_)
    obtain ⟨rfl, hF29, w⟩ := hq30
    have w := w hF29
    refine wk_b tt_253 3 (pc' := 401) (ls' := [(3, .inl (q9)), (0, .inr (.inr (.ref 88)))]) (st' := [.inl (0), .inl (8), .inr (.inr (.ref 88))]) (σ' := σ28) rfl ?_
    refine wk_call tt_253 rfl rfl rfl rfl rfl tt_305 rfl (by decide) (w_pile z σ28 (8) (0) _ (by decide) (by decide) w) (fun u38 σ34 hq36 => ?_)
    obtain ⟨rfl, hF35, w⟩ := hq36
    have w := w hF35
    refine wk_b tt_253 3 (pc' := 408) (ls' := [(3, .inl (q9)), (0, .inr (.inr (.ref 88)))]) (st' := [.inl (q9), .inl (11), .inr (.inr (.ref 88))]) (σ' := σ34) rfl ?_
    refine wk_call tt_253 rfl rfl rfl rfl rfl tt_305 rfl (by decide) (w_pile z σ34 (11) (q9) _ (by decide) r13 w) (fun u44 σ40 hq42 => ?_)
    obtain ⟨rfl, hF41, w⟩ := hq42
    have w := w hF41
    refine wk_b tt_253 3 (pc' := 415) (ls' := [(3, .inl (q9)), (0, .inr (.inr (.ref 88)))]) (st' := [.inl (0), .inl (12), .inr (.inr (.ref 88))]) (σ' := σ40) rfl ?_
    refine wk_call tt_253 rfl rfl rfl rfl rfl tt_305 rfl (by decide) (w_pile z σ40 (12) (0) _ (by decide) (by decide) w) (fun u50 σ46 hq48 => ?_)
    obtain ⟨rfl, hF47, w⟩ := hq48
    have w := w hF47
    refine wk_b tt_253 3 (pc' := 423) (ls' := [(3, .inl (q9)), (0, .inr (.inr (.ref 88)))]) (st' := [.inl (93), .inl (13), .inr (.inr (.ref 88))]) (σ' := σ46) rfl ?_
    refine wk_call tt_253 rfl rfl rfl rfl rfl tt_305 rfl (by decide) (w_pile z σ46 (13) (93) _ (by decide) (by decide) w) (fun u56 σ52 hq54 => ?_)
    obtain ⟨rfl, hF53, w⟩ := hq54
    have w := w hF53
    refine wk_b tt_253 3 (pc' := 430) (ls' := [(3, .inl (q9)), (0, .inr (.inr (.ref 88)))]) (st' := [.inl (q9), .inl (10), .inr (.inr (.ref 88))]) (σ' := σ52) rfl ?_
    refine wk_call tt_253 rfl rfl rfl rfl rfl tt_305 rfl (by decide) (w_pile z σ52 (10) (q9) _ (by decide) r13 w) (fun u62 σ58 hq60 => ?_)
    obtain ⟨rfl, hF59, w⟩ := hq60
    have w := w hF59
    refine wk_b tt_253 3 (pc' := 436) (ls' := [(3, .inl (q9)), (0, .inr (.inr (.ref 88)))]) (st' := [.inl (0), .inl (0), .inr (.inr (.ref 88))]) (σ' := σ58) rfl ?_
    refine wk_call tt_253 rfl rfl rfl rfl rfl tt_305 rfl (by decide) (w_pile z σ58 (0) (0) _ (by decide) (by decide) w) (fun u68 σ64 hq66 => ?_)
    obtain ⟨rfl, hF65, w⟩ := hq66
    have w := w hF65
    refine wk_b tt_253 1 (pc' := 632) (ls' := [(3, .inl (q9)), (0, .inr (.inr (.ref 88)))]) (st' := []) (σ' := σ64) rfl ?_
    exact wk_rV tt_253 rfl rfl ⟨rfl, (sg_F_t (sg_F_t (sg_F_t (sg_F_t (sg_F_t (sg_F_t (sg_F_t (sg_F_t (sg_F_t (sg_F_t (sg_F_t (sg_F_r [93, 94, 95, 96, 97, 98, 110, 111, 8088, 9088, 30088, 31088, 32088, 35088, 37088] σ) (sg_F_m (L := [93, 94, 95, 96, 97, 98, 110, 111, 8088, 9088, 30088, 31088, 32088, 35088, 37088]) hF5 rfl)) (sg_F_m (L := [93, 94, 95, 96, 97, 98, 110, 111, 8088, 9088, 30088, 31088, 32088, 35088, 37088]) hF11 rfl)) (sg_F_m (L := [93, 94, 95, 96, 97, 98, 110, 111, 8088, 9088, 30088, 31088, 32088, 35088, 37088]) hF17 rfl)) (sg_F_m (L := [93, 94, 95, 96, 97, 98, 110, 111, 8088, 9088, 30088, 31088, 32088, 35088, 37088]) hF23 rfl)) (sg_F_m (L := [93, 94, 95, 96, 97, 98, 110, 111, 8088, 9088, 30088, 31088, 32088, 35088, 37088]) hF29 rfl)) (sg_F_m (L := [93, 94, 95, 96, 97, 98, 110, 111, 8088, 9088, 30088, 31088, 32088, 35088, 37088]) hF35 rfl)) (sg_F_m (L := [93, 94, 95, 96, 97, 98, 110, 111, 8088, 9088, 30088, 31088, 32088, 35088, 37088]) hF41 rfl)) (sg_F_m (L := [93, 94, 95, 96, 97, 98, 110, 111, 8088, 9088, 30088, 31088, 32088, 35088, 37088]) hF47 rfl)) (sg_F_m (L := [93, 94, 95, 96, 97, 98, 110, 111, 8088, 9088, 30088, 31088, 32088, 35088, 37088]) hF53 rfl)) (sg_F_m (L := [93, 94, 95, 96, 97, 98, 110, 111, 8088, 9088, 30088, 31088, 32088, 35088, 37088]) hF59 rfl)) (sg_F_m (L := [93, 94, 95, 96, 97, 98, 110, 111, 8088, 9088, 30088, 31088, 32088, 35088, 37088]) hF65 rfl)), w⟩
-- NestedVectorsModel.readList
def V_readList (σ : sg_S) (a1 : Int) (Q : sg_S → Prop) : Prop := (0 ≤ a1 ∧ a1 < 210) ∧ (((sg_g σ 93 (a1)) = 14 → V_pile σ (15) (a1) (fun σ4 => sg_F [110, 111, 32088] σ σ4 → V_pile σ4 (10) (a1) (fun σ10 => sg_F [110, 111, 32088] σ4 σ10 → V_pile σ10 (0) (0) (fun σ16 => sg_F [110, 111, 32088] σ10 σ16 → Q σ16)))) ∧ (¬ (sg_g σ 93 (a1)) = 14 → ((¬ (sg_g σ 96 (a1)) = 0 → V_pile σ (15) (a1) (fun σ23 => sg_F [110, 111, 32088] σ σ23 → V_pile σ23 (10) (a1) (fun σ29 => sg_F [110, 111, 32088] σ23 σ29 → V_pile σ29 (0) (0) (fun σ35 => sg_F [110, 111, 32088] σ29 σ35 → Q σ35)))) ∧ ((sg_g σ 96 (a1)) = 0 → p_isSignNow σ (41) ∧ (((v_isSignNow σ (41)) = 0 → V_pile σ (15) (a1) (fun σ43 => sg_F [110, 111, 32088] σ σ43 → V_pile σ43 (10) (a1) (fun σ49 => sg_F [110, 111, 32088] σ43 σ49 → V_pile σ49 (0) (0) (fun σ55 => sg_F [110, 111, 32088] σ49 σ55 → Q σ55)))) ∧ (¬ (v_isSignNow σ (41)) = 0 → V_pile σ (15) (a1) (fun σ61 => sg_F [110, 111, 32088] σ σ61 → Q σ61)))))))
set_option maxHeartbeats 4000000 in
set_option maxRecDepth 8000 in
theorem w_readList (z : Value) (σ : sg_S) (a1 : Int) (Q : sg_S → Prop) (ra1 : sg_R a1) (w : V_readList σ a1 Q) : wx z 1 317 0 [(0, .inr (.inr (.ref 88))), (1, .inl (a1))] [] σ (fun v σ' => v = none ∧ sg_F [110, 111, 32088] σ σ' ∧ Q σ') := by
  unfold V_readList at w
  refine wk_b tt_317 3 (pc' := 5) (ls' := [(0, .inr (.inr (.ref 88))), (1, .inl (a1))]) (st' := [.inl (a1), .inr (.inr (.ref 93))]) (σ' := σ) rfl ?_
  obtain ⟨c1, w⟩ := w
  refine wk_ia tt_317 rfl rfl c1.1 c1.2 ra1 ?_
  refine wk_b tt_317 1 (pc' := 8) (ls' := [(0, .inr (.inr (.ref 88))), (1, .inl (a1))]) (st' := [.inl (14), .inl ((sg_g σ 93 (a1)))]) (σ' := σ) rfl ?_
  refine wk_if2 tt_317 (tgt := 37) rfl rfl (sg_Rg _ _ _) (by decide) (fun (h2 : (sg_g σ 93 (a1)) = 14) => ?_) (fun (h2 : ¬ (sg_g σ 93 (a1)) = 14) => ?_)
  ·
    have w := w.1 h2
    refine wk_b tt_317 3 (pc' := 41) (ls' := [(0, .inr (.inr (.ref 88))), (1, .inl (a1))]) (st' := [.inl (a1), .inl (15), .inr (.inr (.ref 88))]) (σ' := σ) rfl ?_
    refine wk_call tt_317 rfl rfl rfl rfl rfl tt_305 rfl (by decide) (w_pile z σ (15) (a1) _ (by decide) ra1 w) (fun u8 σ4 hq6 => ?_)
    obtain ⟨rfl, hF5, w⟩ := hq6
    have w := w hF5
    refine wk_b tt_317 3 (pc' := 48) (ls' := [(0, .inr (.inr (.ref 88))), (1, .inl (a1))]) (st' := [.inl (a1), .inl (10), .inr (.inr (.ref 88))]) (σ' := σ4) rfl ?_
    refine wk_call tt_317 rfl rfl rfl rfl rfl tt_305 rfl (by decide) (w_pile z σ4 (10) (a1) _ (by decide) ra1 w) (fun u14 σ10 hq12 => ?_)
    obtain ⟨rfl, hF11, w⟩ := hq12
    have w := w hF11
    refine wk_b tt_317 3 (pc' := 54) (ls' := [(0, .inr (.inr (.ref 88))), (1, .inl (a1))]) (st' := [.inl (0), .inl (0), .inr (.inr (.ref 88))]) (σ' := σ10) rfl ?_
    refine wk_call tt_317 rfl rfl rfl rfl rfl tt_305 rfl (by decide) (w_pile z σ10 (0) (0) _ (by decide) (by decide) w) (fun u20 σ16 hq18 => ?_)
    obtain ⟨rfl, hF17, w⟩ := hq18
    have w := w hF17
    exact wk_rV tt_317 rfl rfl ⟨rfl, (sg_F_t (sg_F_t (sg_F_t (sg_F_r [110, 111, 32088] σ) (sg_F_m (L := [110, 111, 32088]) hF5 rfl)) (sg_F_m (L := [110, 111, 32088]) hF11 rfl)) (sg_F_m (L := [110, 111, 32088]) hF17 rfl)), w⟩
  ·
    have w := w.2 h2
    refine wk_b tt_317 3 (pc' := 16) (ls' := [(0, .inr (.inr (.ref 88))), (1, .inl (a1))]) (st' := [.inl (a1), .inr (.inr (.ref 96))]) (σ' := σ) rfl ?_
    refine wk_ia tt_317 rfl rfl c1.1 c1.2 ra1 ?_
    refine wk_if tt_317 (tgt := 37) rfl rfl (sg_Rg _ _ _) (fun (h21 : ¬ (sg_g σ 96 (a1)) = 0) => ?_) (fun (h21 : (sg_g σ 96 (a1)) = 0) => ?_)
    ·
      have w := w.1 h21
      refine wk_b tt_317 3 (pc' := 41) (ls' := [(0, .inr (.inr (.ref 88))), (1, .inl (a1))]) (st' := [.inl (a1), .inl (15), .inr (.inr (.ref 88))]) (σ' := σ) rfl ?_
      refine wk_call tt_317 rfl rfl rfl rfl rfl tt_305 rfl (by decide) (w_pile z σ (15) (a1) _ (by decide) ra1 w) (fun u27 σ23 hq25 => ?_)
      obtain ⟨rfl, hF24, w⟩ := hq25
      have w := w hF24
      refine wk_b tt_317 3 (pc' := 48) (ls' := [(0, .inr (.inr (.ref 88))), (1, .inl (a1))]) (st' := [.inl (a1), .inl (10), .inr (.inr (.ref 88))]) (σ' := σ23) rfl ?_
      refine wk_call tt_317 rfl rfl rfl rfl rfl tt_305 rfl (by decide) (w_pile z σ23 (10) (a1) _ (by decide) ra1 w) (fun u33 σ29 hq31 => ?_)
      obtain ⟨rfl, hF30, w⟩ := hq31
      have w := w hF30
      refine wk_b tt_317 3 (pc' := 54) (ls' := [(0, .inr (.inr (.ref 88))), (1, .inl (a1))]) (st' := [.inl (0), .inl (0), .inr (.inr (.ref 88))]) (σ' := σ29) rfl ?_
      refine wk_call tt_317 rfl rfl rfl rfl rfl tt_305 rfl (by decide) (w_pile z σ29 (0) (0) _ (by decide) (by decide) w) (fun u39 σ35 hq37 => ?_)
      obtain ⟨rfl, hF36, w⟩ := hq37
      have w := w hF36
      exact wk_rV tt_317 rfl rfl ⟨rfl, (sg_F_t (sg_F_t (sg_F_t (sg_F_r [110, 111, 32088] σ) (sg_F_m (L := [110, 111, 32088]) hF24 rfl)) (sg_F_m (L := [110, 111, 32088]) hF30 rfl)) (sg_F_m (L := [110, 111, 32088]) hF36 rfl)), w⟩
    ·
      have w := w.2 h21
      refine wk_b tt_317 2 (pc' := 23) (ls' := [(0, .inr (.inr (.ref 88))), (1, .inl (a1))]) (st' := [.inl (41), .inr (.inr (.ref 88))]) (σ' := σ) rfl ?_
      obtain ⟨c40, w⟩ := w
      refine wk_callp tt_317 rfl rfl rfl rfl rfl tt_268 rfl (by decide) (w_isSignNow z σ (41) (by decide) c40) ?_
      refine wk_if tt_317 (tgt := 37) rfl rfl (sg_Rz (vz_isSignNow ..)) (fun (h41 : (v_isSignNow σ (41)) = 0) => ?_) (fun (h41 : ¬ (v_isSignNow σ (41)) = 0) => ?_)
      ·
        have w := w.1 h41
        refine wk_b tt_317 3 (pc' := 41) (ls' := [(0, .inr (.inr (.ref 88))), (1, .inl (a1))]) (st' := [.inl (a1), .inl (15), .inr (.inr (.ref 88))]) (σ' := σ) rfl ?_
        refine wk_call tt_317 rfl rfl rfl rfl rfl tt_305 rfl (by decide) (w_pile z σ (15) (a1) _ (by decide) ra1 w) (fun u47 σ43 hq45 => ?_)
        obtain ⟨rfl, hF44, w⟩ := hq45
        have w := w hF44
        refine wk_b tt_317 3 (pc' := 48) (ls' := [(0, .inr (.inr (.ref 88))), (1, .inl (a1))]) (st' := [.inl (a1), .inl (10), .inr (.inr (.ref 88))]) (σ' := σ43) rfl ?_
        refine wk_call tt_317 rfl rfl rfl rfl rfl tt_305 rfl (by decide) (w_pile z σ43 (10) (a1) _ (by decide) ra1 w) (fun u53 σ49 hq51 => ?_)
        obtain ⟨rfl, hF50, w⟩ := hq51
        have w := w hF50
        refine wk_b tt_317 3 (pc' := 54) (ls' := [(0, .inr (.inr (.ref 88))), (1, .inl (a1))]) (st' := [.inl (0), .inl (0), .inr (.inr (.ref 88))]) (σ' := σ49) rfl ?_
        refine wk_call tt_317 rfl rfl rfl rfl rfl tt_305 rfl (by decide) (w_pile z σ49 (0) (0) _ (by decide) (by decide) w) (fun u59 σ55 hq57 => ?_)
        obtain ⟨rfl, hF56, w⟩ := hq57
        have w := w hF56
        exact wk_rV tt_317 rfl rfl ⟨rfl, (sg_F_t (sg_F_t (sg_F_t (sg_F_r [110, 111, 32088] σ) (sg_F_m (L := [110, 111, 32088]) hF44 rfl)) (sg_F_m (L := [110, 111, 32088]) hF50 rfl)) (sg_F_m (L := [110, 111, 32088]) hF56 rfl)), w⟩
      ·
        have w := w.2 h41
        refine wk_b tt_317 3 (pc' := 33) (ls' := [(0, .inr (.inr (.ref 88))), (1, .inl (a1))]) (st' := [.inl (a1), .inl (15), .inr (.inr (.ref 88))]) (σ' := σ) rfl ?_
        refine wk_call tt_317 rfl rfl rfl rfl rfl tt_305 rfl (by decide) (w_pile z σ (15) (a1) _ (by decide) ra1 w) (fun u65 σ61 hq63 => ?_)
        obtain ⟨rfl, hF62, w⟩ := hq63
        have w := w hF62
        exact wk_rV tt_317 rfl rfl ⟨rfl, (sg_F_t (sg_F_r [110, 111, 32088] σ) (sg_F_m (L := [110, 111, 32088]) hF62 rfl)), w⟩
-- NestedVectorsModel.pushed
def V_pushed (σ : sg_S) (a1 : Int) (Q : sg_S → Prop) : Prop := (0 ≤ (sg_g σ 88 34) ∧ (sg_g σ 88 34) < 400) ∧ ∀ σ2, σ2 = (sg_w σ 112 ((sg_g σ 88 34)) (a1)) → sg_R ((sg_g σ 88 34) + 1) ∧ ∀ σ6, σ6 = (sg_w σ2 88 34 (((sg_g σ 88 34) + 1))) → Q σ6
set_option maxHeartbeats 4000000 in
set_option maxRecDepth 8000 in
theorem w_pushed (z : Value) (σ : sg_S) (a1 : Int) (Q : sg_S → Prop) (ra1 : sg_R a1) (w : V_pushed σ a1 Q) : wx z 0 307 0 [(0, .inr (.inr (.ref 88))), (1, .inl (a1))] [] σ (fun v σ' => v = none ∧ sg_F [112, 35088] σ σ' ∧ Q σ') := by
  unfold V_pushed at w
  refine wk_b tt_307 5 (pc' := 9) (ls' := [(0, .inr (.inr (.ref 88))), (1, .inl (a1))]) (st' := [.inl (a1), .inl ((sg_g σ 88 34)), .inr (.inr (.ref 112))]) (σ' := σ) rfl ?_
  obtain ⟨c1, w⟩ := w
  refine wk_is tt_307 rfl rfl c1.1 c1.2 (sg_Rg _ _ _) ?_
  generalize hs3 : (sg_w σ 112 ((sg_g σ 88 34)) (a1)) = σ2
  have w := w σ2 hs3.symm
  have hF4 : sg_F [112] σ σ2 := by rw [← hs3]; exact sg_F_w (sg_F_r _ _) rfl _
  obtain ⟨c5, w⟩ := w
  refine wk_b tt_307 6 (pc' := 20) (ls' := [(0, .inr (.inr (.ref 88))), (1, .inl (a1))]) (st' := []) (σ' := (sg_w σ2 88 34 (((sg_g σ2 88 34) + 1)))) rfl ?_
  rw [show (sg_g σ2 88 34) = (sg_g σ 88 34) from by rw [sg_F_ga hF4 rfl]]
  generalize hs7 : (sg_w σ2 88 34 (((sg_g σ 88 34) + 1))) = σ6
  have w := w σ6 hs7.symm
  have hF8 : sg_F [35088] σ2 σ6 := by rw [← hs7]; exact sg_F_w (sg_F_r _ _) rfl _
  exact wk_rV tt_307 rfl rfl ⟨rfl, (sg_F_t (sg_F_t (sg_F_r [112, 35088] σ) (sg_F_m (L := [112, 35088]) hF4 rfl)) (sg_F_m (L := [112, 35088]) hF8 rfl)), w⟩
-- NestedVectorsModel.readAtom
def V_readAtom (σ : sg_S) (Q : sg_S → Prop) : Prop := (0 ≤ (sg_g σ 88 7) ∧ (sg_g σ 88 7) < 1210) ∧ ((¬ (sg_g σ 90 ((sg_g σ 88 7))) = 1 → ((¬ (sg_g σ 90 ((sg_g σ 88 7))) = 2 → p_isSignNow σ (40) ∧ (((v_isSignNow σ (40)) = 0 → p_isSignNow σ (91) ∧ (((v_isSignNow σ (91)) = 0 → p_isSignNow σ (123) ∧ (((v_isSignNow σ (123)) = 0 → V_want σ (0) (fun σ11 => sg_F [8088, 30088, 31088] σ σ11 → Q σ11)) ∧ (¬ (v_isSignNow σ (123)) = 0 → V_enter σ  (fun σ17 => sg_F [30088, 31088, 37088] σ σ17 → V_newNode σ17 (15) (fun q22 σ23 => sg_R q22 → sg_F [93, 94, 95, 96, 98, 9088, 30088, 31088] σ17 σ23 → V_want σ23 (1) (fun σ29 => sg_F [8088, 30088, 31088] σ23 σ29 → V_pile σ29 (16) (q22) (fun σ35 => sg_F [110, 111, 32088] σ29 σ35 → V_pile σ35 (13) (58) (fun σ41 => sg_F [110, 111, 32088] σ35 σ41 → V_pile σ41 (10) (q22) (fun σ47 => sg_F [110, 111, 32088] σ41 σ47 → V_pile σ47 (0) (0) (fun σ53 => sg_F [110, 111, 32088] σ47 σ53 → Q σ53)))))))))) ∧ (¬ (v_isSignNow σ (91)) = 0 → V_enter σ  (fun σ59 => sg_F [30088, 31088, 37088] σ σ59 → V_newNode σ59 (14) (fun q64 σ65 => sg_R q64 → sg_F [93, 94, 95, 96, 98, 9088, 30088, 31088] σ59 σ65 → V_want σ65 (1) (fun σ71 => sg_F [8088, 30088, 31088] σ65 σ71 → V_readList σ71 (q64) (fun σ77 => sg_F [110, 111, 32088] σ71 σ77 → Q σ77))))))) ∧ (¬ (v_isSignNow σ (40)) = 0 → V_enter σ  (fun σ83 => sg_F [30088, 31088, 37088] σ σ83 → V_want σ83 (1) (fun σ89 => sg_F [8088, 30088, 31088] σ83 σ89 → V_pile σ89 (12) (0) (fun σ95 => sg_F [110, 111, 32088] σ89 σ95 → V_pile σ95 (13) (41) (fun σ101 => sg_F [110, 111, 32088] σ95 σ101 → V_pile σ101 (0) (0) (fun σ107 => sg_F [110, 111, 32088] σ101 σ107 → Q σ107)))))))) ∧ ((sg_g σ 90 ((sg_g σ 88 7))) = 2 → ((¬ (v_actOf ((sg_gl σ 92 ((sg_g σ 88 7))))) = 0 → True) ∧ ((v_actOf ((sg_gl σ 92 ((sg_g σ 88 7))))) = 0 → sg_R ((sg_g σ 88 7) + 1) ∧ (0 ≤ ((sg_g σ 88 7) + 1) ∧ ((sg_g σ 88 7) + 1) < 1210) ∧ ((¬ (sg_g σ 90 (((sg_g σ 88 7) + 1))) = 3 → True) ∧ ((sg_g σ 90 (((sg_g σ 88 7) + 1))) = 3 → ((¬ (sg_gl σ 92 (((sg_g σ 88 7) + 1))) = 40 → True) ∧ ((sg_gl σ 92 (((sg_g σ 88 7) + 1))) = 40 → True)))))) ∧ ∀ v115 : Int, v115 = (if ¬ (v_actOf ((sg_gl σ 92 ((sg_g σ 88 7))))) = 0 then (0 : Int) else (if ¬ (sg_g σ 90 (((sg_g σ 88 7) + 1))) = 3 then (0 : Int) else (if ¬ (sg_gl σ 92 (((sg_g σ 88 7) + 1))) = 40 then (0 : Int) else (1 : Int)))) → sg_R v115 → ((¬ (v_actOf ((sg_gl σ 92 ((sg_g σ 88 7))))) = 0 → ∀ v121 : Int, v121 = (if (v_actOf ((sg_gl σ 92 ((sg_g σ 88 7))))) = 0 then (if v115 = 0 then (1 : Int) else (13 : Int)) else (v_actOf ((sg_gl σ 92 ((sg_g σ 88 7)))))) → sg_R v121 → V_newNode σ (v121) (fun q124 σ125 => sg_R q124 → sg_F [93, 94, 95, 96, 98, 9088, 30088, 31088] σ σ125 → V_want σ125 (1) (fun σ131 => sg_F [8088, 30088, 31088] σ125 σ131 → ((¬ (v_actOf ((sg_gl σ 92 ((sg_g σ 88 7))))) = 0 → p_isSignNow σ131 (40) ∧ (∃ P140 : sg_S → Prop, (((v_isSignNow σ131 (40)) = 0 → P140 σ131) ∧ (¬ (v_isSignNow σ131 (40)) = 0 → V_enter σ131  (fun σ159 => sg_F [30088, 31088, 37088] σ131 σ159 → P140 σ159))) ∧ (∀ (σ141 : sg_S), sg_F [30088, 31088, 37088] σ131 σ141 → P140 σ141 → p_isSignNow σ131 (40) ∧ V_want σ141 ((v_isSignNow σ131 (40))) (fun σ146 => sg_F [8088, 30088, 31088] σ141 σ146 → ((¬ (sg_g σ146 88 29) = 0 → Q σ146) ∧ ((sg_g σ146 88 29) = 0 → V_readList σ146 (q124) (fun σ153 => sg_F [110, 111, 32088] σ146 σ153 → Q σ153))))))) ∧ ((v_actOf ((sg_gl σ 92 ((sg_g σ 88 7))))) = 0 → ((¬ v115 = 0 → p_isSignNow σ131 (40) ∧ (∃ P168 : sg_S → Prop, (((v_isSignNow σ131 (40)) = 0 → P168 σ131) ∧ (¬ (v_isSignNow σ131 (40)) = 0 → V_enter σ131  (fun σ187 => sg_F [30088, 31088, 37088] σ131 σ187 → P168 σ187))) ∧ (∀ (σ169 : sg_S), sg_F [30088, 31088, 37088] σ131 σ169 → P168 σ169 → p_isSignNow σ131 (40) ∧ V_want σ169 ((v_isSignNow σ131 (40))) (fun σ174 => sg_F [8088, 30088, 31088] σ169 σ174 → ((¬ (sg_g σ174 88 29) = 0 → Q σ174) ∧ ((sg_g σ174 88 29) = 0 → V_readList σ174 (q124) (fun σ181 => sg_F [110, 111, 32088] σ174 σ181 → Q σ181))))))) ∧ (v115 = 0 → V_pushed σ131 (q124) (fun σ193 => sg_F [112, 35088] σ131 σ193 → Q σ193)))))))) ∧ ((v_actOf ((sg_gl σ 92 ((sg_g σ 88 7))))) = 0 → p_isName σ  ∧ ((¬ (v_isName σ) = 0 → ∀ v203 : Int, v203 = (if (v_actOf ((sg_gl σ 92 ((sg_g σ 88 7))))) = 0 then (if v115 = 0 then (1 : Int) else (13 : Int)) else (v_actOf ((sg_gl σ 92 ((sg_g σ 88 7)))))) → sg_R v203 → V_newNode σ (v203) (fun q206 σ207 => sg_R q206 → sg_F [93, 94, 95, 96, 98, 9088, 30088, 31088] σ σ207 → V_want σ207 (1) (fun σ213 => sg_F [8088, 30088, 31088] σ207 σ213 → ((¬ (v_actOf ((sg_gl σ 92 ((sg_g σ 88 7))))) = 0 → p_isSignNow σ213 (40) ∧ (∃ P222 : sg_S → Prop, (((v_isSignNow σ213 (40)) = 0 → P222 σ213) ∧ (¬ (v_isSignNow σ213 (40)) = 0 → V_enter σ213  (fun σ241 => sg_F [30088, 31088, 37088] σ213 σ241 → P222 σ241))) ∧ (∀ (σ223 : sg_S), sg_F [30088, 31088, 37088] σ213 σ223 → P222 σ223 → p_isSignNow σ213 (40) ∧ V_want σ223 ((v_isSignNow σ213 (40))) (fun σ228 => sg_F [8088, 30088, 31088] σ223 σ228 → ((¬ (sg_g σ228 88 29) = 0 → Q σ228) ∧ ((sg_g σ228 88 29) = 0 → V_readList σ228 (q206) (fun σ235 => sg_F [110, 111, 32088] σ228 σ235 → Q σ235))))))) ∧ ((v_actOf ((sg_gl σ 92 ((sg_g σ 88 7))))) = 0 → ((¬ v115 = 0 → p_isSignNow σ213 (40) ∧ (∃ P250 : sg_S → Prop, (((v_isSignNow σ213 (40)) = 0 → P250 σ213) ∧ (¬ (v_isSignNow σ213 (40)) = 0 → V_enter σ213  (fun σ269 => sg_F [30088, 31088, 37088] σ213 σ269 → P250 σ269))) ∧ (∀ (σ251 : sg_S), sg_F [30088, 31088, 37088] σ213 σ251 → P250 σ251 → p_isSignNow σ213 (40) ∧ V_want σ251 ((v_isSignNow σ213 (40))) (fun σ256 => sg_F [8088, 30088, 31088] σ251 σ256 → ((¬ (sg_g σ256 88 29) = 0 → Q σ256) ∧ ((sg_g σ256 88 29) = 0 → V_readList σ256 (q206) (fun σ263 => sg_F [110, 111, 32088] σ256 σ263 → Q σ263))))))) ∧ (v115 = 0 → V_pushed σ213 (q206) (fun σ275 => sg_F [112, 35088] σ213 σ275 → Q σ275)))))))) ∧ ((v_isName σ) = 0 → V_want σ (0) (fun σ282 => sg_F [8088, 30088, 31088] σ σ282 → Q σ282)))))))) ∧ ((sg_g σ 90 ((sg_g σ 88 7))) = 1 → V_newNode σ (0) (fun q291 σ292 => sg_R q291 → sg_F [93, 94, 95, 96, 98, 9088, 30088, 31088] σ σ292 → V_pushed σ292 (q291) (fun σ298 => sg_F [112, 35088] σ292 σ298 → V_want σ298 (1) (fun σ304 => sg_F [8088, 30088, 31088] σ298 σ304 → Q σ304)))))
set_option maxHeartbeats 4000000 in
set_option maxRecDepth 8000 in
theorem w_readAtom (z : Value) (σ : sg_S) (Q : sg_S → Prop)  (w : V_readAtom σ  Q) : wx z 6 311 0 [(0, .inr (.inr (.ref 88)))] [] σ (fun v σ' => v = none ∧ sg_F [93, 94, 95, 96, 98, 110, 111, 112, 8088, 9088, 30088, 31088, 32088, 35088, 37088] σ σ' ∧ Q σ') := by
  unfold V_readAtom at w
  refine wk_b tt_311 4 (pc' := 8) (ls' := [(0, .inr (.inr (.ref 88)))]) (st' := [.inl ((sg_g σ 88 7)), .inr (.inr (.ref 90))]) (σ' := σ) rfl ?_
  obtain ⟨c1, w⟩ := w
  refine wk_ia tt_311 rfl rfl c1.1 c1.2 (sg_Rg _ _ _) ?_
  refine wk_b tt_311 1 (pc' := 10) (ls' := [(0, .inr (.inr (.ref 88)))]) (st' := [.inl (1), .inl ((sg_g σ 90 ((sg_g σ 88 7))))]) (σ' := σ) rfl ?_
  refine wk_if2 tt_311 (tgt := 28) rfl rfl (sg_Rg _ _ _) (by decide) (fun (h2 : ¬ (sg_g σ 90 ((sg_g σ 88 7))) = 1) => ?_) (fun (h2 : (sg_g σ 90 ((sg_g σ 88 7))) = 1) => ?_)
  ·
    have w := w.1 h2
    refine wk_b tt_311 4 (pc' := 36) (ls' := [(0, .inr (.inr (.ref 88)))]) (st' := [.inl ((sg_g σ 88 7)), .inr (.inr (.ref 90))]) (σ' := σ) rfl ?_
    refine wk_ia tt_311 rfl rfl c1.1 c1.2 (sg_Rg _ _ _) ?_
    refine wk_b tt_311 1 (pc' := 38) (ls' := [(0, .inr (.inr (.ref 88)))]) (st' := [.inl (2), .inl ((sg_g σ 90 ((sg_g σ 88 7))))]) (σ' := σ) rfl ?_
    refine wk_if2 tt_311 (tgt := 192) rfl rfl (sg_Rg _ _ _) (by decide) (fun (h3 : ¬ (sg_g σ 90 ((sg_g σ 88 7))) = 2) => ?_) (fun (h3 : (sg_g σ 90 ((sg_g σ 88 7))) = 2) => ?_)
    ·
      have w := w.1 h3
      refine wk_b tt_311 2 (pc' := 195) (ls' := [(0, .inr (.inr (.ref 88)))]) (st' := [.inl (40), .inr (.inr (.ref 88))]) (σ' := σ) rfl ?_
      obtain ⟨c4, w⟩ := w
      refine wk_callp tt_311 rfl rfl rfl rfl rfl tt_268 rfl (by decide) (w_isSignNow z σ (40) (by decide) c4) ?_
      refine wk_if tt_311 (tgt := 234) rfl rfl (sg_Rz (vz_isSignNow ..)) (fun (h5 : (v_isSignNow σ (40)) = 0) => ?_) (fun (h5 : ¬ (v_isSignNow σ (40)) = 0) => ?_)
      ·
        have w := w.1 h5
        refine wk_b tt_311 2 (pc' := 237) (ls' := [(0, .inr (.inr (.ref 88)))]) (st' := [.inl (91), .inr (.inr (.ref 88))]) (σ' := σ) rfl ?_
        obtain ⟨c6, w⟩ := w
        refine wk_callp tt_311 rfl rfl rfl rfl rfl tt_268 rfl (by decide) (w_isSignNow z σ (91) (by decide) c6) ?_
        refine wk_if tt_311 (tgt := 267) rfl rfl (sg_Rz (vz_isSignNow ..)) (fun (h7 : (v_isSignNow σ (91)) = 0) => ?_) (fun (h7 : ¬ (v_isSignNow σ (91)) = 0) => ?_)
        ·
          have w := w.1 h7
          refine wk_b tt_311 2 (pc' := 270) (ls' := [(0, .inr (.inr (.ref 88)))]) (st' := [.inl (123), .inr (.inr (.ref 88))]) (σ' := σ) rfl ?_
          obtain ⟨c8, w⟩ := w
          refine wk_callp tt_311 rfl rfl rfl rfl rfl tt_268 rfl (by decide) (w_isSignNow z σ (123) (by decide) c8) ?_
          refine wk_if tt_311 (tgt := 323) rfl rfl (sg_Rz (vz_isSignNow ..)) (fun (h9 : (v_isSignNow σ (123)) = 0) => ?_) (fun (h9 : ¬ (v_isSignNow σ (123)) = 0) => ?_)
          ·
            have w := w.1 h9
            refine wk_b tt_311 2 (pc' := 325) (ls' := [(0, .inr (.inr (.ref 88)))]) (st' := [.inl (0), .inr (.inr (.ref 88))]) (σ' := σ) rfl ?_
            refine wk_call tt_311 rfl rfl rfl rfl rfl tt_334 rfl (by decide) (w_want z σ (0) _ (by decide) w) (fun u15 σ11 hq13 => ?_)
            obtain ⟨rfl, hF12, w⟩ := hq13
            have w := w hF12
            exact wk_rV tt_311 rfl rfl ⟨rfl, (sg_F_t (sg_F_r [93, 94, 95, 96, 98, 110, 111, 112, 8088, 9088, 30088, 31088, 32088, 35088, 37088] σ) (sg_F_m (L := [93, 94, 95, 96, 98, 110, 111, 112, 8088, 9088, 30088, 31088, 32088, 35088, 37088]) hF12 rfl)), w⟩
          ·
            have w := w.2 h9
            refine wk_b tt_311 1 (pc' := 277) (ls' := [(0, .inr (.inr (.ref 88)))]) (st' := [.inr (.inr (.ref 88))]) (σ' := σ) rfl ?_
            refine wk_call tt_311 rfl rfl rfl rfl rfl tt_225 rfl (by decide) (w_enter z σ  _  w) (fun u21 σ17 hq19 => ?_)
            obtain ⟨rfl, hF18, w⟩ := hq19
            have w := w hF18
            refine wk_b tt_311 2 (pc' := 283) (ls' := [(0, .inr (.inr (.ref 88)))]) (st' := [.inl (15), .inr (.inr (.ref 88))]) (σ' := σ17) rfl ?_
            refine wk_call tt_311 rfl rfl rfl rfl rfl tt_294 rfl (by decide) (w_newNode z σ17 (15) _ (by decide) w) (fun u27 σ23 hq25 => ?_)
            obtain ⟨q22, rfl, r26, hF24, w⟩ := hq25
            have w := w r26 hF24
            refine wk_b tt_311 3 (pc' := 289) (ls' := [(1, .inl (q22)), (0, .inr (.inr (.ref 88)))]) (st' := [.inl (1), .inr (.inr (.ref 88))]) (σ' := σ23) rfl ?_
            refine wk_call tt_311 rfl rfl rfl rfl rfl tt_334 rfl (by decide) (w_want z σ23 (1) _ (by decide) w) (fun u33 σ29 hq31 => ?_)
            obtain ⟨rfl, hF30, w⟩ := hq31
            have w := w hF30
            refine wk_b tt_311 3 (pc' := 296) (ls' := [(1, .inl (q22)), (0, .inr (.inr (.ref 88)))]) (st' := [.inl (q22), .inl (16), .inr (.inr (.ref 88))]) (σ' := σ29) rfl ?_
            refine wk_call tt_311 rfl rfl rfl rfl rfl tt_305 rfl (by decide) (w_pile z σ29 (16) (q22) _ (by decide) r26 w) (fun u39 σ35 hq37 => ?_)
            obtain ⟨rfl, hF36, w⟩ := hq37
            have w := w hF36
            refine wk_b tt_311 3 (pc' := 304) (ls' := [(1, .inl (q22)), (0, .inr (.inr (.ref 88)))]) (st' := [.inl (58), .inl (13), .inr (.inr (.ref 88))]) (σ' := σ35) rfl ?_
            refine wk_call tt_311 rfl rfl rfl rfl rfl tt_305 rfl (by decide) (w_pile z σ35 (13) (58) _ (by decide) (by decide) w) (fun u45 σ41 hq43 => ?_)
            obtain ⟨rfl, hF42, w⟩ := hq43
            have w := w hF42
            refine wk_b tt_311 3 (pc' := 311) (ls' := [(1, .inl (q22)), (0, .inr (.inr (.ref 88)))]) (st' := [.inl (q22), .inl (10), .inr (.inr (.ref 88))]) (σ' := σ41) rfl ?_
            refine wk_call tt_311 rfl rfl rfl rfl rfl tt_305 rfl (by decide) (w_pile z σ41 (10) (q22) _ (by decide) r26 w) (fun u51 σ47 hq49 => ?_)
            obtain ⟨rfl, hF48, w⟩ := hq49
            have w := w hF48
            refine wk_b tt_311 3 (pc' := 317) (ls' := [(1, .inl (q22)), (0, .inr (.inr (.ref 88)))]) (st' := [.inl (0), .inl (0), .inr (.inr (.ref 88))]) (σ' := σ47) rfl ?_
            refine wk_call tt_311 rfl rfl rfl rfl rfl tt_305 rfl (by decide) (w_pile z σ47 (0) (0) _ (by decide) (by decide) w) (fun u57 σ53 hq55 => ?_)
            obtain ⟨rfl, hF54, w⟩ := hq55
            have w := w hF54
            refine wk_b tt_311 1 (pc' := 328) (ls' := [(1, .inl (q22)), (0, .inr (.inr (.ref 88)))]) (st' := []) (σ' := σ53) rfl ?_
            exact wk_rV tt_311 rfl rfl ⟨rfl, (sg_F_t (sg_F_t (sg_F_t (sg_F_t (sg_F_t (sg_F_t (sg_F_t (sg_F_r [93, 94, 95, 96, 98, 110, 111, 112, 8088, 9088, 30088, 31088, 32088, 35088, 37088] σ) (sg_F_m (L := [93, 94, 95, 96, 98, 110, 111, 112, 8088, 9088, 30088, 31088, 32088, 35088, 37088]) hF18 rfl)) (sg_F_m (L := [93, 94, 95, 96, 98, 110, 111, 112, 8088, 9088, 30088, 31088, 32088, 35088, 37088]) hF24 rfl)) (sg_F_m (L := [93, 94, 95, 96, 98, 110, 111, 112, 8088, 9088, 30088, 31088, 32088, 35088, 37088]) hF30 rfl)) (sg_F_m (L := [93, 94, 95, 96, 98, 110, 111, 112, 8088, 9088, 30088, 31088, 32088, 35088, 37088]) hF36 rfl)) (sg_F_m (L := [93, 94, 95, 96, 98, 110, 111, 112, 8088, 9088, 30088, 31088, 32088, 35088, 37088]) hF42 rfl)) (sg_F_m (L := [93, 94, 95, 96, 98, 110, 111, 112, 8088, 9088, 30088, 31088, 32088, 35088, 37088]) hF48 rfl)) (sg_F_m (L := [93, 94, 95, 96, 98, 110, 111, 112, 8088, 9088, 30088, 31088, 32088, 35088, 37088]) hF54 rfl)), w⟩
        ·
          have w := w.2 h7
          refine wk_b tt_311 1 (pc' := 244) (ls' := [(0, .inr (.inr (.ref 88)))]) (st' := [.inr (.inr (.ref 88))]) (σ' := σ) rfl ?_
          refine wk_call tt_311 rfl rfl rfl rfl rfl tt_225 rfl (by decide) (w_enter z σ  _  w) (fun u63 σ59 hq61 => ?_)
          obtain ⟨rfl, hF60, w⟩ := hq61
          have w := w hF60
          refine wk_b tt_311 2 (pc' := 250) (ls' := [(0, .inr (.inr (.ref 88)))]) (st' := [.inl (14), .inr (.inr (.ref 88))]) (σ' := σ59) rfl ?_
          refine wk_call tt_311 rfl rfl rfl rfl rfl tt_294 rfl (by decide) (w_newNode z σ59 (14) _ (by decide) w) (fun u69 σ65 hq67 => ?_)
          obtain ⟨q64, rfl, r68, hF66, w⟩ := hq67
          have w := w r68 hF66
          refine wk_b tt_311 3 (pc' := 256) (ls' := [(1, .inl (q64)), (0, .inr (.inr (.ref 88)))]) (st' := [.inl (1), .inr (.inr (.ref 88))]) (σ' := σ65) rfl ?_
          refine wk_call tt_311 rfl rfl rfl rfl rfl tt_334 rfl (by decide) (w_want z σ65 (1) _ (by decide) w) (fun u75 σ71 hq73 => ?_)
          obtain ⟨rfl, hF72, w⟩ := hq73
          have w := w hF72
          refine wk_b tt_311 2 (pc' := 261) (ls' := [(1, .inl (q64)), (0, .inr (.inr (.ref 88)))]) (st' := [.inl (q64), .inr (.inr (.ref 88))]) (σ' := σ71) rfl ?_
          refine wk_call tt_311 rfl rfl rfl rfl rfl tt_317 rfl (by decide) (w_readList z σ71 (q64) _ r68 w) (fun u81 σ77 hq79 => ?_)
          obtain ⟨rfl, hF78, w⟩ := hq79
          have w := w hF78
          refine wk_b tt_311 1 (pc' := 328) (ls' := [(1, .inl (q64)), (0, .inr (.inr (.ref 88)))]) (st' := []) (σ' := σ77) rfl ?_
          exact wk_rV tt_311 rfl rfl ⟨rfl, (sg_F_t (sg_F_t (sg_F_t (sg_F_t (sg_F_r [93, 94, 95, 96, 98, 110, 111, 112, 8088, 9088, 30088, 31088, 32088, 35088, 37088] σ) (sg_F_m (L := [93, 94, 95, 96, 98, 110, 111, 112, 8088, 9088, 30088, 31088, 32088, 35088, 37088]) hF60 rfl)) (sg_F_m (L := [93, 94, 95, 96, 98, 110, 111, 112, 8088, 9088, 30088, 31088, 32088, 35088, 37088]) hF66 rfl)) (sg_F_m (L := [93, 94, 95, 96, 98, 110, 111, 112, 8088, 9088, 30088, 31088, 32088, 35088, 37088]) hF72 rfl)) (sg_F_m (L := [93, 94, 95, 96, 98, 110, 111, 112, 8088, 9088, 30088, 31088, 32088, 35088, 37088]) hF78 rfl)), w⟩
      ·
        have w := w.2 h5
        refine wk_b tt_311 1 (pc' := 202) (ls' := [(0, .inr (.inr (.ref 88)))]) (st' := [.inr (.inr (.ref 88))]) (σ' := σ) rfl ?_
        refine wk_call tt_311 rfl rfl rfl rfl rfl tt_225 rfl (by decide) (w_enter z σ  _  w) (fun u87 σ83 hq85 => ?_)
        obtain ⟨rfl, hF84, w⟩ := hq85
        have w := w hF84
        refine wk_b tt_311 2 (pc' := 207) (ls' := [(0, .inr (.inr (.ref 88)))]) (st' := [.inl (1), .inr (.inr (.ref 88))]) (σ' := σ83) rfl ?_
        refine wk_call tt_311 rfl rfl rfl rfl rfl tt_334 rfl (by decide) (w_want z σ83 (1) _ (by decide) w) (fun u93 σ89 hq91 => ?_)
        obtain ⟨rfl, hF90, w⟩ := hq91
        have w := w hF90
        refine wk_b tt_311 3 (pc' := 214) (ls' := [(0, .inr (.inr (.ref 88)))]) (st' := [.inl (0), .inl (12), .inr (.inr (.ref 88))]) (σ' := σ89) rfl ?_
        refine wk_call tt_311 rfl rfl rfl rfl rfl tt_305 rfl (by decide) (w_pile z σ89 (12) (0) _ (by decide) (by decide) w) (fun u99 σ95 hq97 => ?_)
        obtain ⟨rfl, hF96, w⟩ := hq97
        have w := w hF96
        refine wk_b tt_311 3 (pc' := 222) (ls' := [(0, .inr (.inr (.ref 88)))]) (st' := [.inl (41), .inl (13), .inr (.inr (.ref 88))]) (σ' := σ95) rfl ?_
        refine wk_call tt_311 rfl rfl rfl rfl rfl tt_305 rfl (by decide) (w_pile z σ95 (13) (41) _ (by decide) (by decide) w) (fun u105 σ101 hq103 => ?_)
        obtain ⟨rfl, hF102, w⟩ := hq103
        have w := w hF102
        refine wk_b tt_311 3 (pc' := 228) (ls' := [(0, .inr (.inr (.ref 88)))]) (st' := [.inl (0), .inl (0), .inr (.inr (.ref 88))]) (σ' := σ101) rfl ?_
        refine wk_call tt_311 rfl rfl rfl rfl rfl tt_305 rfl (by decide) (w_pile z σ101 (0) (0) _ (by decide) (by decide) w) (fun u111 σ107 hq109 => ?_)
        obtain ⟨rfl, hF108, w⟩ := hq109
        have w := w hF108
        refine wk_b tt_311 1 (pc' := 328) (ls' := [(0, .inr (.inr (.ref 88)))]) (st' := []) (σ' := σ107) rfl ?_
        exact wk_rV tt_311 rfl rfl ⟨rfl, (sg_F_t (sg_F_t (sg_F_t (sg_F_t (sg_F_t (sg_F_r [93, 94, 95, 96, 98, 110, 111, 112, 8088, 9088, 30088, 31088, 32088, 35088, 37088] σ) (sg_F_m (L := [93, 94, 95, 96, 98, 110, 111, 112, 8088, 9088, 30088, 31088, 32088, 35088, 37088]) hF84 rfl)) (sg_F_m (L := [93, 94, 95, 96, 98, 110, 111, 112, 8088, 9088, 30088, 31088, 32088, 35088, 37088]) hF90 rfl)) (sg_F_m (L := [93, 94, 95, 96, 98, 110, 111, 112, 8088, 9088, 30088, 31088, 32088, 35088, 37088]) hF96 rfl)) (sg_F_m (L := [93, 94, 95, 96, 98, 110, 111, 112, 8088, 9088, 30088, 31088, 32088, 35088, 37088]) hF102 rfl)) (sg_F_m (L := [93, 94, 95, 96, 98, 110, 111, 112, 8088, 9088, 30088, 31088, 32088, 35088, 37088]) hF108 rfl)), w⟩
    ·
      have w := w.2 h3
      refine wk_b tt_311 4 (pc' := 49) (ls' := [(0, .inr (.inr (.ref 88)))]) (st' := [.inl ((sg_g σ 88 7)), .inr (.inr (.ref 92))]) (σ' := σ) rfl ?_
      refine wk_la tt_311 rfl rfl c1.1 c1.2 (sg_Rg _ _ _) ?_
      refine wk_callp tt_311 rfl rfl rfl rfl rfl tt_210 rfl (by decide) (w_actOf z σ ((sg_gl σ 92 ((sg_g σ 88 7)))) (sg_Rgl _ _ _) ) ?_
      have r112 := vr_actOf  ((sg_gl σ 92 ((sg_g σ 88 7)))) (sg_Rgl _ _ _) 
      refine wk_b tt_311 2 (pc' := 55) (ls' := [(1, .inl ((v_actOf ((sg_gl σ 92 ((sg_g σ 88 7))))))), (0, .inr (.inr (.ref 88)))]) (st' := [.inl ((v_actOf ((sg_gl σ 92 ((sg_g σ 88 7))))))]) (σ' := σ) rfl ?_
      obtain ⟨wp, w⟩ := w
      have jn114 : ∀ v115 : Int, v115 = (if ¬ (v_actOf ((sg_gl σ 92 ((sg_g σ 88 7))))) = 0 then (0 : Int) else (if ¬ (sg_g σ 90 (((sg_g σ 88 7) + 1))) = 3 then (0 : Int) else (if ¬ (sg_gl σ 92 (((sg_g σ 88 7) + 1))) = 40 then (0 : Int) else (1 : Int)))) → sg_R v115 → wx z 6 311 96 [(0, .inr (.inr (.ref 88))), (1, .inl ((v_actOf ((sg_gl σ 92 ((sg_g σ 88 7)))))))] [.inl (v115)] σ (fun v σ' => v = none ∧ sg_F [93, 94, 95, 96, 98, 110, 111, 112, 8088, 9088, 30088, 31088, 32088, 35088, 37088] σ σ' ∧ Q σ') := by
        intro v115 e117 r116
        have w := w v115 e117 r116
        refine wk_b tt_311 2 (pc' := 98) (ls' := [(2, .inl (v115)), (0, .inr (.inr (.ref 88))), (1, .inl ((v_actOf ((sg_gl σ 92 ((sg_g σ 88 7)))))))]) (st' := [.inl ((v_actOf ((sg_gl σ 92 ((sg_g σ 88 7))))))]) (σ' := σ) rfl ?_
        refine wk_if tt_311 (tgt := 114) rfl rfl r112 (fun (h118 : ¬ (v_actOf ((sg_gl σ 92 ((sg_g σ 88 7))))) = 0) => ?_) (fun (h118 : (v_actOf ((sg_gl σ 92 ((sg_g σ 88 7))))) = 0) => ?_)
        ·
          have w := w.1 h118
          refine wk_b tt_311 2 (pc' := 116) (ls' := [(2, .inl (v115)), (0, .inr (.inr (.ref 88))), (1, .inl ((v_actOf ((sg_gl σ 92 ((sg_g σ 88 7)))))))]) (st' := [.inl ((v_actOf ((sg_gl σ 92 ((sg_g σ 88 7)))))), .inr (.inr (.ref 88))]) (σ' := σ) rfl ?_
          have jn120 : ∀ v121 : Int, v121 = (if (v_actOf ((sg_gl σ 92 ((sg_g σ 88 7))))) = 0 then (if v115 = 0 then (1 : Int) else (13 : Int)) else (v_actOf ((sg_gl σ 92 ((sg_g σ 88 7)))))) → sg_R v121 → wx z 6 311 133 [(0, .inr (.inr (.ref 88))), (1, .inl ((v_actOf ((sg_gl σ 92 ((sg_g σ 88 7))))))), (2, .inl (v115))] [.inl (v121), .inr (.inr (.ref 88))] σ (fun v σ' => v = none ∧ sg_F [93, 94, 95, 96, 98, 110, 111, 112, 8088, 9088, 30088, 31088, 32088, 35088, 37088] σ σ' ∧ Q σ') := by
            intro v121 e123 r122
            have w := w v121 e123 r122
            refine wk_call tt_311 rfl rfl rfl rfl rfl tt_294 rfl (by decide) (w_newNode z σ (v121) _ r122 w) (fun u129 σ125 hq127 => ?_)
            obtain ⟨q124, rfl, r128, hF126, w⟩ := hq127
            have w := w r128 hF126
            refine wk_b tt_311 3 (pc' := 139) (ls' := [(3, .inl (q124)), (0, .inr (.inr (.ref 88))), (1, .inl ((v_actOf ((sg_gl σ 92 ((sg_g σ 88 7))))))), (2, .inl (v115))]) (st' := [.inl (1), .inr (.inr (.ref 88))]) (σ' := σ125) rfl ?_
            refine wk_call tt_311 rfl rfl rfl rfl rfl tt_334 rfl (by decide) (w_want z σ125 (1) _ (by decide) w) (fun u135 σ131 hq133 => ?_)
            obtain ⟨rfl, hF132, w⟩ := hq133
            have w := w hF132
            refine wk_b tt_311 1 (pc' := 143) (ls' := [(3, .inl (q124)), (0, .inr (.inr (.ref 88))), (1, .inl ((v_actOf ((sg_gl σ 92 ((sg_g σ 88 7))))))), (2, .inl (v115))]) (st' := [.inl ((v_actOf ((sg_gl σ 92 ((sg_g σ 88 7))))))]) (σ' := σ131) rfl ?_
            refine wk_if tt_311 (tgt := 156) rfl rfl r112 (fun (h136 : ¬ (v_actOf ((sg_gl σ 92 ((sg_g σ 88 7))))) = 0) => ?_) (fun (h136 : (v_actOf ((sg_gl σ 92 ((sg_g σ 88 7))))) = 0) => ?_)
            ·
              have w := w.1 h136
              refine wk_b tt_311 2 (pc' := 159) (ls' := [(3, .inl (q124)), (0, .inr (.inr (.ref 88))), (1, .inl ((v_actOf ((sg_gl σ 92 ((sg_g σ 88 7))))))), (2, .inl (v115))]) (st' := [.inl (40), .inr (.inr (.ref 88))]) (σ' := σ131) rfl ?_
              obtain ⟨c137, w⟩ := w
              refine wk_callp tt_311 rfl rfl rfl rfl rfl tt_268 rfl (by decide) (w_isSignNow z σ131 (40) (by decide) c137) ?_
              obtain ⟨P140, w, w143⟩ := w
              have jn139 : ∀ (σ141 : sg_S), sg_F [30088, 31088, 37088] σ131 σ141 → P140 σ141 → wx z 6 311 169 [(0, .inr (.inr (.ref 88))), (3, .inl (q124))] [] σ141 (fun v σ' => v = none ∧ sg_F [93, 94, 95, 96, 98, 110, 111, 112, 8088, 9088, 30088, 31088, 32088, 35088, 37088] σ σ' ∧ Q σ') := by
                intro σ141 hF142 w
                have w := w143 σ141 hF142 w
                refine wk_b tt_311 3 (pc' := 173) (ls' := [(0, .inr (.inr (.ref 88))), (3, .inl (q124))]) (st' := [.inl (40), .inr (.inr (.ref 88)), .inr (.inr (.ref 88))]) (σ' := σ141) rfl ?_
                obtain ⟨c144, w⟩ := w
                have c144 : p_isSignNow σ141 (40) := by
                  rw [pF_isSignNow hF142 rfl rfl rfl]; exact c144
                refine wk_callp tt_311 rfl rfl rfl rfl rfl tt_268 rfl (by decide) (w_isSignNow z σ141 (40) (by decide) c144) ?_
                rw [vF_isSignNow hF142 rfl rfl rfl]
                refine wk_call tt_311 rfl rfl rfl rfl rfl tt_334 rfl (by decide) (w_want z σ141 ((v_isSignNow σ131 (40))) _ (sg_Rz (vz_isSignNow ..)) w) (fun u150 σ146 hq148 => ?_)
                obtain ⟨rfl, hF147, w⟩ := hq148
                have w := w hF147
                refine wk_b tt_311 2 (pc' := 183) (ls' := [(0, .inr (.inr (.ref 88))), (3, .inl (q124))]) (st' := [.inl ((sg_g σ146 88 29))]) (σ' := σ146) rfl ?_
                refine wk_if tt_311 (tgt := 191) rfl rfl (sg_Rg _ _ _) (fun (h151 : ¬ (sg_g σ146 88 29) = 0) => ?_) (fun (h151 : (sg_g σ146 88 29) = 0) => ?_)
                ·
                  have w := w.1 h151
                  exact wk_rV tt_311 rfl rfl ⟨rfl, (sg_F_t (sg_F_t (sg_F_t (sg_F_t (sg_F_r [93, 94, 95, 96, 98, 110, 111, 112, 8088, 9088, 30088, 31088, 32088, 35088, 37088] σ) (sg_F_m (L := [93, 94, 95, 96, 98, 110, 111, 112, 8088, 9088, 30088, 31088, 32088, 35088, 37088]) hF126 rfl)) (sg_F_m (L := [93, 94, 95, 96, 98, 110, 111, 112, 8088, 9088, 30088, 31088, 32088, 35088, 37088]) hF132 rfl)) (sg_F_m (L := [93, 94, 95, 96, 98, 110, 111, 112, 8088, 9088, 30088, 31088, 32088, 35088, 37088]) hF142 rfl)) (sg_F_m (L := [93, 94, 95, 96, 98, 110, 111, 112, 8088, 9088, 30088, 31088, 32088, 35088, 37088]) hF147 rfl)), w⟩
                ·
                  have w := w.2 h151
                  refine wk_b tt_311 2 (pc' := 188) (ls' := [(0, .inr (.inr (.ref 88))), (3, .inl (q124))]) (st' := [.inl (q124), .inr (.inr (.ref 88))]) (σ' := σ146) rfl ?_
                  refine wk_call tt_311 rfl rfl rfl rfl rfl tt_317 rfl (by decide) (w_readList z σ146 (q124) _ r128 w) (fun u157 σ153 hq155 => ?_)
                  obtain ⟨rfl, hF154, w⟩ := hq155
                  have w := w hF154
                  exact wk_rV tt_311 rfl rfl ⟨rfl, (sg_F_t (sg_F_t (sg_F_t (sg_F_t (sg_F_t (sg_F_r [93, 94, 95, 96, 98, 110, 111, 112, 8088, 9088, 30088, 31088, 32088, 35088, 37088] σ) (sg_F_m (L := [93, 94, 95, 96, 98, 110, 111, 112, 8088, 9088, 30088, 31088, 32088, 35088, 37088]) hF126 rfl)) (sg_F_m (L := [93, 94, 95, 96, 98, 110, 111, 112, 8088, 9088, 30088, 31088, 32088, 35088, 37088]) hF132 rfl)) (sg_F_m (L := [93, 94, 95, 96, 98, 110, 111, 112, 8088, 9088, 30088, 31088, 32088, 35088, 37088]) hF142 rfl)) (sg_F_m (L := [93, 94, 95, 96, 98, 110, 111, 112, 8088, 9088, 30088, 31088, 32088, 35088, 37088]) hF147 rfl)) (sg_F_m (L := [93, 94, 95, 96, 98, 110, 111, 112, 8088, 9088, 30088, 31088, 32088, 35088, 37088]) hF154 rfl)), w⟩
              refine wk_if tt_311 (tgt := 169) rfl rfl (sg_Rz (vz_isSignNow ..)) (fun (h138 : (v_isSignNow σ131 (40)) = 0) => ?_) (fun (h138 : ¬ (v_isSignNow σ131 (40)) = 0) => ?_)
              ·
                have w := w.1 h138
                exact wk_ls [(0, .inr (.inr (.ref 88))), (3, .inl (q124))] rfl ⟨rfl, rfl, trivial⟩ (jn139 σ131 (sg_F_r [30088, 31088, 37088] σ131) w)
              ·
                have w := w.2 h138
                refine wk_b tt_311 1 (pc' := 166) (ls' := [(3, .inl (q124)), (0, .inr (.inr (.ref 88))), (1, .inl ((v_actOf ((sg_gl σ 92 ((sg_g σ 88 7))))))), (2, .inl (v115))]) (st' := [.inr (.inr (.ref 88))]) (σ' := σ131) rfl ?_
                refine wk_call tt_311 rfl rfl rfl rfl rfl tt_225 rfl (by decide) (w_enter z σ131  _  w) (fun u163 σ159 hq161 => ?_)
                obtain ⟨rfl, hF160, w⟩ := hq161
                have w := w hF160
                exact wk_ls [(0, .inr (.inr (.ref 88))), (3, .inl (q124))] rfl ⟨rfl, rfl, trivial⟩ (jn139 σ159 (sg_F_t (sg_F_r [30088, 31088, 37088] σ131) (sg_F_m (L := [30088, 31088, 37088]) hF160 rfl)) w)
            ·
              have w := w.2 h136
              refine wk_b tt_311 1 (pc' := 147) (ls' := [(3, .inl (q124)), (0, .inr (.inr (.ref 88))), (1, .inl ((v_actOf ((sg_gl σ 92 ((sg_g σ 88 7))))))), (2, .inl (v115))]) (st' := [.inl (v115)]) (σ' := σ131) rfl ?_
              refine wk_if tt_311 (tgt := 156) rfl rfl r116 (fun (h164 : ¬ v115 = 0) => ?_) (fun (h164 : v115 = 0) => ?_)
              ·
                have w := w.1 h164
                refine wk_b tt_311 2 (pc' := 159) (ls' := [(3, .inl (q124)), (0, .inr (.inr (.ref 88))), (1, .inl ((v_actOf ((sg_gl σ 92 ((sg_g σ 88 7))))))), (2, .inl (v115))]) (st' := [.inl (40), .inr (.inr (.ref 88))]) (σ' := σ131) rfl ?_
                obtain ⟨c165, w⟩ := w
                refine wk_callp tt_311 rfl rfl rfl rfl rfl tt_268 rfl (by decide) (w_isSignNow z σ131 (40) (by decide) c165) ?_
                obtain ⟨P168, w, w171⟩ := w
                have jn167 : ∀ (σ169 : sg_S), sg_F [30088, 31088, 37088] σ131 σ169 → P168 σ169 → wx z 6 311 169 [(0, .inr (.inr (.ref 88))), (3, .inl (q124))] [] σ169 (fun v σ' => v = none ∧ sg_F [93, 94, 95, 96, 98, 110, 111, 112, 8088, 9088, 30088, 31088, 32088, 35088, 37088] σ σ' ∧ Q σ') := by
                  intro σ169 hF170 w
                  have w := w171 σ169 hF170 w
                  refine wk_b tt_311 3 (pc' := 173) (ls' := [(0, .inr (.inr (.ref 88))), (3, .inl (q124))]) (st' := [.inl (40), .inr (.inr (.ref 88)), .inr (.inr (.ref 88))]) (σ' := σ169) rfl ?_
                  obtain ⟨c172, w⟩ := w
                  have c172 : p_isSignNow σ169 (40) := by
                    rw [pF_isSignNow hF170 rfl rfl rfl]; exact c172
                  refine wk_callp tt_311 rfl rfl rfl rfl rfl tt_268 rfl (by decide) (w_isSignNow z σ169 (40) (by decide) c172) ?_
                  rw [vF_isSignNow hF170 rfl rfl rfl]
                  refine wk_call tt_311 rfl rfl rfl rfl rfl tt_334 rfl (by decide) (w_want z σ169 ((v_isSignNow σ131 (40))) _ (sg_Rz (vz_isSignNow ..)) w) (fun u178 σ174 hq176 => ?_)
                  obtain ⟨rfl, hF175, w⟩ := hq176
                  have w := w hF175
                  refine wk_b tt_311 2 (pc' := 183) (ls' := [(0, .inr (.inr (.ref 88))), (3, .inl (q124))]) (st' := [.inl ((sg_g σ174 88 29))]) (σ' := σ174) rfl ?_
                  refine wk_if tt_311 (tgt := 191) rfl rfl (sg_Rg _ _ _) (fun (h179 : ¬ (sg_g σ174 88 29) = 0) => ?_) (fun (h179 : (sg_g σ174 88 29) = 0) => ?_)
                  ·
                    have w := w.1 h179
                    exact wk_rV tt_311 rfl rfl ⟨rfl, (sg_F_t (sg_F_t (sg_F_t (sg_F_t (sg_F_r [93, 94, 95, 96, 98, 110, 111, 112, 8088, 9088, 30088, 31088, 32088, 35088, 37088] σ) (sg_F_m (L := [93, 94, 95, 96, 98, 110, 111, 112, 8088, 9088, 30088, 31088, 32088, 35088, 37088]) hF126 rfl)) (sg_F_m (L := [93, 94, 95, 96, 98, 110, 111, 112, 8088, 9088, 30088, 31088, 32088, 35088, 37088]) hF132 rfl)) (sg_F_m (L := [93, 94, 95, 96, 98, 110, 111, 112, 8088, 9088, 30088, 31088, 32088, 35088, 37088]) hF170 rfl)) (sg_F_m (L := [93, 94, 95, 96, 98, 110, 111, 112, 8088, 9088, 30088, 31088, 32088, 35088, 37088]) hF175 rfl)), w⟩
                  ·
                    have w := w.2 h179
                    refine wk_b tt_311 2 (pc' := 188) (ls' := [(0, .inr (.inr (.ref 88))), (3, .inl (q124))]) (st' := [.inl (q124), .inr (.inr (.ref 88))]) (σ' := σ174) rfl ?_
                    refine wk_call tt_311 rfl rfl rfl rfl rfl tt_317 rfl (by decide) (w_readList z σ174 (q124) _ r128 w) (fun u185 σ181 hq183 => ?_)
                    obtain ⟨rfl, hF182, w⟩ := hq183
                    have w := w hF182
                    exact wk_rV tt_311 rfl rfl ⟨rfl, (sg_F_t (sg_F_t (sg_F_t (sg_F_t (sg_F_t (sg_F_r [93, 94, 95, 96, 98, 110, 111, 112, 8088, 9088, 30088, 31088, 32088, 35088, 37088] σ) (sg_F_m (L := [93, 94, 95, 96, 98, 110, 111, 112, 8088, 9088, 30088, 31088, 32088, 35088, 37088]) hF126 rfl)) (sg_F_m (L := [93, 94, 95, 96, 98, 110, 111, 112, 8088, 9088, 30088, 31088, 32088, 35088, 37088]) hF132 rfl)) (sg_F_m (L := [93, 94, 95, 96, 98, 110, 111, 112, 8088, 9088, 30088, 31088, 32088, 35088, 37088]) hF170 rfl)) (sg_F_m (L := [93, 94, 95, 96, 98, 110, 111, 112, 8088, 9088, 30088, 31088, 32088, 35088, 37088]) hF175 rfl)) (sg_F_m (L := [93, 94, 95, 96, 98, 110, 111, 112, 8088, 9088, 30088, 31088, 32088, 35088, 37088]) hF182 rfl)), w⟩
                refine wk_if tt_311 (tgt := 169) rfl rfl (sg_Rz (vz_isSignNow ..)) (fun (h166 : (v_isSignNow σ131 (40)) = 0) => ?_) (fun (h166 : ¬ (v_isSignNow σ131 (40)) = 0) => ?_)
                ·
                  have w := w.1 h166
                  exact wk_ls [(0, .inr (.inr (.ref 88))), (3, .inl (q124))] rfl ⟨rfl, rfl, trivial⟩ (jn167 σ131 (sg_F_r [30088, 31088, 37088] σ131) w)
                ·
                  have w := w.2 h166
                  refine wk_b tt_311 1 (pc' := 166) (ls' := [(3, .inl (q124)), (0, .inr (.inr (.ref 88))), (1, .inl ((v_actOf ((sg_gl σ 92 ((sg_g σ 88 7))))))), (2, .inl (v115))]) (st' := [.inr (.inr (.ref 88))]) (σ' := σ131) rfl ?_
                  refine wk_call tt_311 rfl rfl rfl rfl rfl tt_225 rfl (by decide) (w_enter z σ131  _  w) (fun u191 σ187 hq189 => ?_)
                  obtain ⟨rfl, hF188, w⟩ := hq189
                  have w := w hF188
                  exact wk_ls [(0, .inr (.inr (.ref 88))), (3, .inl (q124))] rfl ⟨rfl, rfl, trivial⟩ (jn167 σ187 (sg_F_t (sg_F_r [30088, 31088, 37088] σ131) (sg_F_m (L := [30088, 31088, 37088]) hF188 rfl)) w)
              ·
                have w := w.2 h164
                refine wk_b tt_311 2 (pc' := 152) (ls' := [(3, .inl (q124)), (0, .inr (.inr (.ref 88))), (1, .inl ((v_actOf ((sg_gl σ 92 ((sg_g σ 88 7))))))), (2, .inl (v115))]) (st' := [.inl (q124), .inr (.inr (.ref 88))]) (σ' := σ131) rfl ?_
                refine wk_call tt_311 rfl rfl rfl rfl rfl tt_307 rfl (by decide) (w_pushed z σ131 (q124) _ r128 w) (fun u197 σ193 hq195 => ?_)
                obtain ⟨rfl, hF194, w⟩ := hq195
                have w := w hF194
                exact wk_rV tt_311 rfl rfl ⟨rfl, (sg_F_t (sg_F_t (sg_F_t (sg_F_r [93, 94, 95, 96, 98, 110, 111, 112, 8088, 9088, 30088, 31088, 32088, 35088, 37088] σ) (sg_F_m (L := [93, 94, 95, 96, 98, 110, 111, 112, 8088, 9088, 30088, 31088, 32088, 35088, 37088]) hF126 rfl)) (sg_F_m (L := [93, 94, 95, 96, 98, 110, 111, 112, 8088, 9088, 30088, 31088, 32088, 35088, 37088]) hF132 rfl)) (sg_F_m (L := [93, 94, 95, 96, 98, 110, 111, 112, 8088, 9088, 30088, 31088, 32088, 35088, 37088]) hF194 rfl)), w⟩
          refine wk_if tt_311 (tgt := 123) rfl rfl r112 (fun (h119 : (v_actOf ((sg_gl σ 92 ((sg_g σ 88 7))))) = 0) => ?_) (fun (h119 : ¬ (v_actOf ((sg_gl σ 92 ((sg_g σ 88 7))))) = 0) => ?_)
          ·
            clear w
            refine wk_b tt_311 1 (pc' := 124) (ls' := [(2, .inl (v115)), (0, .inr (.inr (.ref 88))), (1, .inl ((v_actOf ((sg_gl σ 92 ((sg_g σ 88 7)))))))]) (st' := [.inl (v115), .inr (.inr (.ref 88))]) (σ' := σ) rfl ?_
            refine wk_if tt_311 (tgt := 132) rfl rfl r116 (fun (h198 : v115 = 0) => ?_) (fun (h198 : ¬ v115 = 0) => ?_)
            ·
              refine wk_b tt_311 1 (pc' := 133) (ls' := [(2, .inl (v115)), (0, .inr (.inr (.ref 88))), (1, .inl ((v_actOf ((sg_gl σ 92 ((sg_g σ 88 7)))))))]) (st' := [.inl (1), .inr (.inr (.ref 88))]) (σ' := σ) rfl ?_
              exact wk_ls [(0, .inr (.inr (.ref 88))), (1, .inl ((v_actOf ((sg_gl σ 92 ((sg_g σ 88 7))))))), (2, .inl (v115))] rfl ⟨rfl, rfl, rfl, trivial⟩ (jn120 (1) (by simp only [if_pos h119, if_pos h198]) (by decide))
            ·
              refine wk_b tt_311 2 (pc' := 133) (ls' := [(2, .inl (v115)), (0, .inr (.inr (.ref 88))), (1, .inl ((v_actOf ((sg_gl σ 92 ((sg_g σ 88 7)))))))]) (st' := [.inl (13), .inr (.inr (.ref 88))]) (σ' := σ) rfl ?_
              exact wk_ls [(0, .inr (.inr (.ref 88))), (1, .inl ((v_actOf ((sg_gl σ 92 ((sg_g σ 88 7))))))), (2, .inl (v115))] rfl ⟨rfl, rfl, rfl, trivial⟩ (jn120 (13) (by simp only [if_pos h119, if_neg (show ¬ (v115 = 0) by omega)]) (by decide))
          ·
            clear w
            refine wk_b tt_311 2 (pc' := 133) (ls' := [(2, .inl (v115)), (0, .inr (.inr (.ref 88))), (1, .inl ((v_actOf ((sg_gl σ 92 ((sg_g σ 88 7)))))))]) (st' := [.inl ((v_actOf ((sg_gl σ 92 ((sg_g σ 88 7)))))), .inr (.inr (.ref 88))]) (σ' := σ) rfl ?_
            exact wk_ls [(0, .inr (.inr (.ref 88))), (1, .inl ((v_actOf ((sg_gl σ 92 ((sg_g σ 88 7))))))), (2, .inl (v115))] rfl ⟨rfl, rfl, rfl, trivial⟩ (jn120 ((v_actOf ((sg_gl σ 92 ((sg_g σ 88 7)))))) (by simp only [if_neg (show ¬ ((v_actOf ((sg_gl σ 92 ((sg_g σ 88 7))))) = 0) by omega)]) r112)
        ·
          have w := w.2 h118
          refine wk_b tt_311 1 (pc' := 102) (ls' := [(2, .inl (v115)), (0, .inr (.inr (.ref 88))), (1, .inl ((v_actOf ((sg_gl σ 92 ((sg_g σ 88 7)))))))]) (st' := [.inr (.inr (.ref 88))]) (σ' := σ) rfl ?_
          obtain ⟨c199, w⟩ := w
          refine wk_callp tt_311 rfl rfl rfl rfl rfl tt_264 rfl (by decide) (w_isName z σ   c199) ?_
          refine wk_if tt_311 (tgt := 114) rfl rfl (sg_Rz (vz_isName ..)) (fun (h200 : ¬ (v_isName σ) = 0) => ?_) (fun (h200 : (v_isName σ) = 0) => ?_)
          ·
            have w := w.1 h200
            refine wk_b tt_311 2 (pc' := 116) (ls' := [(2, .inl (v115)), (0, .inr (.inr (.ref 88))), (1, .inl ((v_actOf ((sg_gl σ 92 ((sg_g σ 88 7)))))))]) (st' := [.inl ((v_actOf ((sg_gl σ 92 ((sg_g σ 88 7)))))), .inr (.inr (.ref 88))]) (σ' := σ) rfl ?_
            have jn202 : ∀ v203 : Int, v203 = (if (v_actOf ((sg_gl σ 92 ((sg_g σ 88 7))))) = 0 then (if v115 = 0 then (1 : Int) else (13 : Int)) else (v_actOf ((sg_gl σ 92 ((sg_g σ 88 7)))))) → sg_R v203 → wx z 6 311 133 [(0, .inr (.inr (.ref 88))), (1, .inl ((v_actOf ((sg_gl σ 92 ((sg_g σ 88 7))))))), (2, .inl (v115))] [.inl (v203), .inr (.inr (.ref 88))] σ (fun v σ' => v = none ∧ sg_F [93, 94, 95, 96, 98, 110, 111, 112, 8088, 9088, 30088, 31088, 32088, 35088, 37088] σ σ' ∧ Q σ') := by
              intro v203 e205 r204
              have w := w v203 e205 r204
              refine wk_call tt_311 rfl rfl rfl rfl rfl tt_294 rfl (by decide) (w_newNode z σ (v203) _ r204 w) (fun u211 σ207 hq209 => ?_)
              obtain ⟨q206, rfl, r210, hF208, w⟩ := hq209
              have w := w r210 hF208
              refine wk_b tt_311 3 (pc' := 139) (ls' := [(3, .inl (q206)), (0, .inr (.inr (.ref 88))), (1, .inl ((v_actOf ((sg_gl σ 92 ((sg_g σ 88 7))))))), (2, .inl (v115))]) (st' := [.inl (1), .inr (.inr (.ref 88))]) (σ' := σ207) rfl ?_
              refine wk_call tt_311 rfl rfl rfl rfl rfl tt_334 rfl (by decide) (w_want z σ207 (1) _ (by decide) w) (fun u217 σ213 hq215 => ?_)
              obtain ⟨rfl, hF214, w⟩ := hq215
              have w := w hF214
              refine wk_b tt_311 1 (pc' := 143) (ls' := [(3, .inl (q206)), (0, .inr (.inr (.ref 88))), (1, .inl ((v_actOf ((sg_gl σ 92 ((sg_g σ 88 7))))))), (2, .inl (v115))]) (st' := [.inl ((v_actOf ((sg_gl σ 92 ((sg_g σ 88 7))))))]) (σ' := σ213) rfl ?_
              refine wk_if tt_311 (tgt := 156) rfl rfl r112 (fun (h218 : ¬ (v_actOf ((sg_gl σ 92 ((sg_g σ 88 7))))) = 0) => ?_) (fun (h218 : (v_actOf ((sg_gl σ 92 ((sg_g σ 88 7))))) = 0) => ?_)
              ·
                have w := w.1 h218
                refine wk_b tt_311 2 (pc' := 159) (ls' := [(3, .inl (q206)), (0, .inr (.inr (.ref 88))), (1, .inl ((v_actOf ((sg_gl σ 92 ((sg_g σ 88 7))))))), (2, .inl (v115))]) (st' := [.inl (40), .inr (.inr (.ref 88))]) (σ' := σ213) rfl ?_
                obtain ⟨c219, w⟩ := w
                refine wk_callp tt_311 rfl rfl rfl rfl rfl tt_268 rfl (by decide) (w_isSignNow z σ213 (40) (by decide) c219) ?_
                obtain ⟨P222, w, w225⟩ := w
                have jn221 : ∀ (σ223 : sg_S), sg_F [30088, 31088, 37088] σ213 σ223 → P222 σ223 → wx z 6 311 169 [(0, .inr (.inr (.ref 88))), (3, .inl (q206))] [] σ223 (fun v σ' => v = none ∧ sg_F [93, 94, 95, 96, 98, 110, 111, 112, 8088, 9088, 30088, 31088, 32088, 35088, 37088] σ σ' ∧ Q σ') := by
                  intro σ223 hF224 w
                  have w := w225 σ223 hF224 w
                  refine wk_b tt_311 3 (pc' := 173) (ls' := [(0, .inr (.inr (.ref 88))), (3, .inl (q206))]) (st' := [.inl (40), .inr (.inr (.ref 88)), .inr (.inr (.ref 88))]) (σ' := σ223) rfl ?_
                  obtain ⟨c226, w⟩ := w
                  have c226 : p_isSignNow σ223 (40) := by
                    rw [pF_isSignNow hF224 rfl rfl rfl]; exact c226
                  refine wk_callp tt_311 rfl rfl rfl rfl rfl tt_268 rfl (by decide) (w_isSignNow z σ223 (40) (by decide) c226) ?_
                  rw [vF_isSignNow hF224 rfl rfl rfl]
                  refine wk_call tt_311 rfl rfl rfl rfl rfl tt_334 rfl (by decide) (w_want z σ223 ((v_isSignNow σ213 (40))) _ (sg_Rz (vz_isSignNow ..)) w) (fun u232 σ228 hq230 => ?_)
                  obtain ⟨rfl, hF229, w⟩ := hq230
                  have w := w hF229
                  refine wk_b tt_311 2 (pc' := 183) (ls' := [(0, .inr (.inr (.ref 88))), (3, .inl (q206))]) (st' := [.inl ((sg_g σ228 88 29))]) (σ' := σ228) rfl ?_
                  refine wk_if tt_311 (tgt := 191) rfl rfl (sg_Rg _ _ _) (fun (h233 : ¬ (sg_g σ228 88 29) = 0) => ?_) (fun (h233 : (sg_g σ228 88 29) = 0) => ?_)
                  ·
                    have w := w.1 h233
                    exact wk_rV tt_311 rfl rfl ⟨rfl, (sg_F_t (sg_F_t (sg_F_t (sg_F_t (sg_F_r [93, 94, 95, 96, 98, 110, 111, 112, 8088, 9088, 30088, 31088, 32088, 35088, 37088] σ) (sg_F_m (L := [93, 94, 95, 96, 98, 110, 111, 112, 8088, 9088, 30088, 31088, 32088, 35088, 37088]) hF208 rfl)) (sg_F_m (L := [93, 94, 95, 96, 98, 110, 111, 112, 8088, 9088, 30088, 31088, 32088, 35088, 37088]) hF214 rfl)) (sg_F_m (L := [93, 94, 95, 96, 98, 110, 111, 112, 8088, 9088, 30088, 31088, 32088, 35088, 37088]) hF224 rfl)) (sg_F_m (L := [93, 94, 95, 96, 98, 110, 111, 112, 8088, 9088, 30088, 31088, 32088, 35088, 37088]) hF229 rfl)), w⟩
                  ·
                    have w := w.2 h233
                    refine wk_b tt_311 2 (pc' := 188) (ls' := [(0, .inr (.inr (.ref 88))), (3, .inl (q206))]) (st' := [.inl (q206), .inr (.inr (.ref 88))]) (σ' := σ228) rfl ?_
                    refine wk_call tt_311 rfl rfl rfl rfl rfl tt_317 rfl (by decide) (w_readList z σ228 (q206) _ r210 w) (fun u239 σ235 hq237 => ?_)
                    obtain ⟨rfl, hF236, w⟩ := hq237
                    have w := w hF236
                    exact wk_rV tt_311 rfl rfl ⟨rfl, (sg_F_t (sg_F_t (sg_F_t (sg_F_t (sg_F_t (sg_F_r [93, 94, 95, 96, 98, 110, 111, 112, 8088, 9088, 30088, 31088, 32088, 35088, 37088] σ) (sg_F_m (L := [93, 94, 95, 96, 98, 110, 111, 112, 8088, 9088, 30088, 31088, 32088, 35088, 37088]) hF208 rfl)) (sg_F_m (L := [93, 94, 95, 96, 98, 110, 111, 112, 8088, 9088, 30088, 31088, 32088, 35088, 37088]) hF214 rfl)) (sg_F_m (L := [93, 94, 95, 96, 98, 110, 111, 112, 8088, 9088, 30088, 31088, 32088, 35088, 37088]) hF224 rfl)) (sg_F_m (L := [93, 94, 95, 96, 98, 110, 111, 112, 8088, 9088, 30088, 31088, 32088, 35088, 37088]) hF229 rfl)) (sg_F_m (L := [93, 94, 95, 96, 98, 110, 111, 112, 8088, 9088, 30088, 31088, 32088, 35088, 37088]) hF236 rfl)), w⟩
                refine wk_if tt_311 (tgt := 169) rfl rfl (sg_Rz (vz_isSignNow ..)) (fun (h220 : (v_isSignNow σ213 (40)) = 0) => ?_) (fun (h220 : ¬ (v_isSignNow σ213 (40)) = 0) => ?_)
                ·
                  have w := w.1 h220
                  exact wk_ls [(0, .inr (.inr (.ref 88))), (3, .inl (q206))] rfl ⟨rfl, rfl, trivial⟩ (jn221 σ213 (sg_F_r [30088, 31088, 37088] σ213) w)
                ·
                  have w := w.2 h220
                  refine wk_b tt_311 1 (pc' := 166) (ls' := [(3, .inl (q206)), (0, .inr (.inr (.ref 88))), (1, .inl ((v_actOf ((sg_gl σ 92 ((sg_g σ 88 7))))))), (2, .inl (v115))]) (st' := [.inr (.inr (.ref 88))]) (σ' := σ213) rfl ?_
                  refine wk_call tt_311 rfl rfl rfl rfl rfl tt_225 rfl (by decide) (w_enter z σ213  _  w) (fun u245 σ241 hq243 => ?_)
                  obtain ⟨rfl, hF242, w⟩ := hq243
                  have w := w hF242
                  exact wk_ls [(0, .inr (.inr (.ref 88))), (3, .inl (q206))] rfl ⟨rfl, rfl, trivial⟩ (jn221 σ241 (sg_F_t (sg_F_r [30088, 31088, 37088] σ213) (sg_F_m (L := [30088, 31088, 37088]) hF242 rfl)) w)
              ·
                have w := w.2 h218
                refine wk_b tt_311 1 (pc' := 147) (ls' := [(3, .inl (q206)), (0, .inr (.inr (.ref 88))), (1, .inl ((v_actOf ((sg_gl σ 92 ((sg_g σ 88 7))))))), (2, .inl (v115))]) (st' := [.inl (v115)]) (σ' := σ213) rfl ?_
                refine wk_if tt_311 (tgt := 156) rfl rfl r116 (fun (h246 : ¬ v115 = 0) => ?_) (fun (h246 : v115 = 0) => ?_)
                ·
                  have w := w.1 h246
                  refine wk_b tt_311 2 (pc' := 159) (ls' := [(3, .inl (q206)), (0, .inr (.inr (.ref 88))), (1, .inl ((v_actOf ((sg_gl σ 92 ((sg_g σ 88 7))))))), (2, .inl (v115))]) (st' := [.inl (40), .inr (.inr (.ref 88))]) (σ' := σ213) rfl ?_
                  obtain ⟨c247, w⟩ := w
                  refine wk_callp tt_311 rfl rfl rfl rfl rfl tt_268 rfl (by decide) (w_isSignNow z σ213 (40) (by decide) c247) ?_
                  obtain ⟨P250, w, w253⟩ := w
                  have jn249 : ∀ (σ251 : sg_S), sg_F [30088, 31088, 37088] σ213 σ251 → P250 σ251 → wx z 6 311 169 [(0, .inr (.inr (.ref 88))), (3, .inl (q206))] [] σ251 (fun v σ' => v = none ∧ sg_F [93, 94, 95, 96, 98, 110, 111, 112, 8088, 9088, 30088, 31088, 32088, 35088, 37088] σ σ' ∧ Q σ') := by
                    intro σ251 hF252 w
                    have w := w253 σ251 hF252 w
                    refine wk_b tt_311 3 (pc' := 173) (ls' := [(0, .inr (.inr (.ref 88))), (3, .inl (q206))]) (st' := [.inl (40), .inr (.inr (.ref 88)), .inr (.inr (.ref 88))]) (σ' := σ251) rfl ?_
                    obtain ⟨c254, w⟩ := w
                    have c254 : p_isSignNow σ251 (40) := by
                      rw [pF_isSignNow hF252 rfl rfl rfl]; exact c254
                    refine wk_callp tt_311 rfl rfl rfl rfl rfl tt_268 rfl (by decide) (w_isSignNow z σ251 (40) (by decide) c254) ?_
                    rw [vF_isSignNow hF252 rfl rfl rfl]
                    refine wk_call tt_311 rfl rfl rfl rfl rfl tt_334 rfl (by decide) (w_want z σ251 ((v_isSignNow σ213 (40))) _ (sg_Rz (vz_isSignNow ..)) w) (fun u260 σ256 hq258 => ?_)
                    obtain ⟨rfl, hF257, w⟩ := hq258
                    have w := w hF257
                    refine wk_b tt_311 2 (pc' := 183) (ls' := [(0, .inr (.inr (.ref 88))), (3, .inl (q206))]) (st' := [.inl ((sg_g σ256 88 29))]) (σ' := σ256) rfl ?_
                    refine wk_if tt_311 (tgt := 191) rfl rfl (sg_Rg _ _ _) (fun (h261 : ¬ (sg_g σ256 88 29) = 0) => ?_) (fun (h261 : (sg_g σ256 88 29) = 0) => ?_)
                    ·
                      have w := w.1 h261
                      exact wk_rV tt_311 rfl rfl ⟨rfl, (sg_F_t (sg_F_t (sg_F_t (sg_F_t (sg_F_r [93, 94, 95, 96, 98, 110, 111, 112, 8088, 9088, 30088, 31088, 32088, 35088, 37088] σ) (sg_F_m (L := [93, 94, 95, 96, 98, 110, 111, 112, 8088, 9088, 30088, 31088, 32088, 35088, 37088]) hF208 rfl)) (sg_F_m (L := [93, 94, 95, 96, 98, 110, 111, 112, 8088, 9088, 30088, 31088, 32088, 35088, 37088]) hF214 rfl)) (sg_F_m (L := [93, 94, 95, 96, 98, 110, 111, 112, 8088, 9088, 30088, 31088, 32088, 35088, 37088]) hF252 rfl)) (sg_F_m (L := [93, 94, 95, 96, 98, 110, 111, 112, 8088, 9088, 30088, 31088, 32088, 35088, 37088]) hF257 rfl)), w⟩
                    ·
                      have w := w.2 h261
                      refine wk_b tt_311 2 (pc' := 188) (ls' := [(0, .inr (.inr (.ref 88))), (3, .inl (q206))]) (st' := [.inl (q206), .inr (.inr (.ref 88))]) (σ' := σ256) rfl ?_
                      refine wk_call tt_311 rfl rfl rfl rfl rfl tt_317 rfl (by decide) (w_readList z σ256 (q206) _ r210 w) (fun u267 σ263 hq265 => ?_)
                      obtain ⟨rfl, hF264, w⟩ := hq265
                      have w := w hF264
                      exact wk_rV tt_311 rfl rfl ⟨rfl, (sg_F_t (sg_F_t (sg_F_t (sg_F_t (sg_F_t (sg_F_r [93, 94, 95, 96, 98, 110, 111, 112, 8088, 9088, 30088, 31088, 32088, 35088, 37088] σ) (sg_F_m (L := [93, 94, 95, 96, 98, 110, 111, 112, 8088, 9088, 30088, 31088, 32088, 35088, 37088]) hF208 rfl)) (sg_F_m (L := [93, 94, 95, 96, 98, 110, 111, 112, 8088, 9088, 30088, 31088, 32088, 35088, 37088]) hF214 rfl)) (sg_F_m (L := [93, 94, 95, 96, 98, 110, 111, 112, 8088, 9088, 30088, 31088, 32088, 35088, 37088]) hF252 rfl)) (sg_F_m (L := [93, 94, 95, 96, 98, 110, 111, 112, 8088, 9088, 30088, 31088, 32088, 35088, 37088]) hF257 rfl)) (sg_F_m (L := [93, 94, 95, 96, 98, 110, 111, 112, 8088, 9088, 30088, 31088, 32088, 35088, 37088]) hF264 rfl)), w⟩
                  refine wk_if tt_311 (tgt := 169) rfl rfl (sg_Rz (vz_isSignNow ..)) (fun (h248 : (v_isSignNow σ213 (40)) = 0) => ?_) (fun (h248 : ¬ (v_isSignNow σ213 (40)) = 0) => ?_)
                  ·
                    have w := w.1 h248
                    exact wk_ls [(0, .inr (.inr (.ref 88))), (3, .inl (q206))] rfl ⟨rfl, rfl, trivial⟩ (jn249 σ213 (sg_F_r [30088, 31088, 37088] σ213) w)
                  ·
                    have w := w.2 h248
                    refine wk_b tt_311 1 (pc' := 166) (ls' := [(3, .inl (q206)), (0, .inr (.inr (.ref 88))), (1, .inl ((v_actOf ((sg_gl σ 92 ((sg_g σ 88 7))))))), (2, .inl (v115))]) (st' := [.inr (.inr (.ref 88))]) (σ' := σ213) rfl ?_
                    refine wk_call tt_311 rfl rfl rfl rfl rfl tt_225 rfl (by decide) (w_enter z σ213  _  w) (fun u273 σ269 hq271 => ?_)
                    obtain ⟨rfl, hF270, w⟩ := hq271
                    have w := w hF270
                    exact wk_ls [(0, .inr (.inr (.ref 88))), (3, .inl (q206))] rfl ⟨rfl, rfl, trivial⟩ (jn249 σ269 (sg_F_t (sg_F_r [30088, 31088, 37088] σ213) (sg_F_m (L := [30088, 31088, 37088]) hF270 rfl)) w)
                ·
                  have w := w.2 h246
                  refine wk_b tt_311 2 (pc' := 152) (ls' := [(3, .inl (q206)), (0, .inr (.inr (.ref 88))), (1, .inl ((v_actOf ((sg_gl σ 92 ((sg_g σ 88 7))))))), (2, .inl (v115))]) (st' := [.inl (q206), .inr (.inr (.ref 88))]) (σ' := σ213) rfl ?_
                  refine wk_call tt_311 rfl rfl rfl rfl rfl tt_307 rfl (by decide) (w_pushed z σ213 (q206) _ r210 w) (fun u279 σ275 hq277 => ?_)
                  obtain ⟨rfl, hF276, w⟩ := hq277
                  have w := w hF276
                  exact wk_rV tt_311 rfl rfl ⟨rfl, (sg_F_t (sg_F_t (sg_F_t (sg_F_r [93, 94, 95, 96, 98, 110, 111, 112, 8088, 9088, 30088, 31088, 32088, 35088, 37088] σ) (sg_F_m (L := [93, 94, 95, 96, 98, 110, 111, 112, 8088, 9088, 30088, 31088, 32088, 35088, 37088]) hF208 rfl)) (sg_F_m (L := [93, 94, 95, 96, 98, 110, 111, 112, 8088, 9088, 30088, 31088, 32088, 35088, 37088]) hF214 rfl)) (sg_F_m (L := [93, 94, 95, 96, 98, 110, 111, 112, 8088, 9088, 30088, 31088, 32088, 35088, 37088]) hF276 rfl)), w⟩
            refine wk_if tt_311 (tgt := 123) rfl rfl r112 (fun (h201 : (v_actOf ((sg_gl σ 92 ((sg_g σ 88 7))))) = 0) => ?_) (fun (h201 : ¬ (v_actOf ((sg_gl σ 92 ((sg_g σ 88 7))))) = 0) => ?_)
            ·
              clear w
              refine wk_b tt_311 1 (pc' := 124) (ls' := [(2, .inl (v115)), (0, .inr (.inr (.ref 88))), (1, .inl ((v_actOf ((sg_gl σ 92 ((sg_g σ 88 7)))))))]) (st' := [.inl (v115), .inr (.inr (.ref 88))]) (σ' := σ) rfl ?_
              refine wk_if tt_311 (tgt := 132) rfl rfl r116 (fun (h280 : v115 = 0) => ?_) (fun (h280 : ¬ v115 = 0) => ?_)
              ·
                refine wk_b tt_311 1 (pc' := 133) (ls' := [(2, .inl (v115)), (0, .inr (.inr (.ref 88))), (1, .inl ((v_actOf ((sg_gl σ 92 ((sg_g σ 88 7)))))))]) (st' := [.inl (1), .inr (.inr (.ref 88))]) (σ' := σ) rfl ?_
                exact wk_ls [(0, .inr (.inr (.ref 88))), (1, .inl ((v_actOf ((sg_gl σ 92 ((sg_g σ 88 7))))))), (2, .inl (v115))] rfl ⟨rfl, rfl, rfl, trivial⟩ (jn202 (1) (by simp only [if_pos h201, if_pos h280]) (by decide))
              ·
                refine wk_b tt_311 2 (pc' := 133) (ls' := [(2, .inl (v115)), (0, .inr (.inr (.ref 88))), (1, .inl ((v_actOf ((sg_gl σ 92 ((sg_g σ 88 7)))))))]) (st' := [.inl (13), .inr (.inr (.ref 88))]) (σ' := σ) rfl ?_
                exact wk_ls [(0, .inr (.inr (.ref 88))), (1, .inl ((v_actOf ((sg_gl σ 92 ((sg_g σ 88 7))))))), (2, .inl (v115))] rfl ⟨rfl, rfl, rfl, trivial⟩ (jn202 (13) (by simp only [if_pos h201, if_neg (show ¬ (v115 = 0) by omega)]) (by decide))
            ·
              clear w
              refine wk_b tt_311 2 (pc' := 133) (ls' := [(2, .inl (v115)), (0, .inr (.inr (.ref 88))), (1, .inl ((v_actOf ((sg_gl σ 92 ((sg_g σ 88 7)))))))]) (st' := [.inl ((v_actOf ((sg_gl σ 92 ((sg_g σ 88 7)))))), .inr (.inr (.ref 88))]) (σ' := σ) rfl ?_
              exact wk_ls [(0, .inr (.inr (.ref 88))), (1, .inl ((v_actOf ((sg_gl σ 92 ((sg_g σ 88 7))))))), (2, .inl (v115))] rfl ⟨rfl, rfl, rfl, trivial⟩ (jn202 ((v_actOf ((sg_gl σ 92 ((sg_g σ 88 7)))))) (by simp only [if_neg (show ¬ ((v_actOf ((sg_gl σ 92 ((sg_g σ 88 7))))) = 0) by omega)]) r112)
          ·
            have w := w.2 h200
            refine wk_b tt_311 2 (pc' := 110) (ls' := [(2, .inl (v115)), (0, .inr (.inr (.ref 88))), (1, .inl ((v_actOf ((sg_gl σ 92 ((sg_g σ 88 7)))))))]) (st' := [.inl (0), .inr (.inr (.ref 88))]) (σ' := σ) rfl ?_
            refine wk_call tt_311 rfl rfl rfl rfl rfl tt_334 rfl (by decide) (w_want z σ (0) _ (by decide) w) (fun u286 σ282 hq284 => ?_)
            obtain ⟨rfl, hF283, w⟩ := hq284
            have w := w hF283
            exact wk_rV tt_311 rfl rfl ⟨rfl, (sg_F_t (sg_F_r [93, 94, 95, 96, 98, 110, 111, 112, 8088, 9088, 30088, 31088, 32088, 35088, 37088] σ) (sg_F_m (L := [93, 94, 95, 96, 98, 110, 111, 112, 8088, 9088, 30088, 31088, 32088, 35088, 37088]) hF283 rfl)), w⟩
      have w := wp
      refine wk_if tt_311 (tgt := 95) rfl rfl r112 (fun (h113 : ¬ (v_actOf ((sg_gl σ 92 ((sg_g σ 88 7))))) = 0) => ?_) (fun (h113 : (v_actOf ((sg_gl σ 92 ((sg_g σ 88 7))))) = 0) => ?_)
      ·
        have w := w.1 h113
        refine wk_b tt_311 1 (pc' := 96) (ls' := [(1, .inl ((v_actOf ((sg_gl σ 92 ((sg_g σ 88 7))))))), (0, .inr (.inr (.ref 88)))]) (st' := [.inl (0)]) (σ' := σ) rfl ?_
        exact wk_ls [(0, .inr (.inr (.ref 88))), (1, .inl ((v_actOf ((sg_gl σ 92 ((sg_g σ 88 7)))))))] rfl ⟨rfl, rfl, trivial⟩ (jn114 (0) (by simp only [if_pos h113]) (by decide))
      ·
        have w := w.2 h113
        obtain ⟨c287, w⟩ := w
        refine wk_b tt_311 6 (pc' := 68) (ls' := [(1, .inl ((v_actOf ((sg_gl σ 92 ((sg_g σ 88 7))))))), (0, .inr (.inr (.ref 88)))]) (st' := [.inl (((sg_g σ 88 7) + 1)), .inr (.inr (.ref 90))]) (σ' := σ) rfl ?_
        obtain ⟨c288, w⟩ := w
        refine wk_ia tt_311 rfl rfl c288.1 c288.2 c287 ?_
        refine wk_b tt_311 1 (pc' := 70) (ls' := [(1, .inl ((v_actOf ((sg_gl σ 92 ((sg_g σ 88 7))))))), (0, .inr (.inr (.ref 88)))]) (st' := [.inl (3), .inl ((sg_g σ 90 (((sg_g σ 88 7) + 1))))]) (σ' := σ) rfl ?_
        refine wk_if2 tt_311 (tgt := 95) rfl rfl (sg_Rg _ _ _) (by decide) (fun (h289 : ¬ (sg_g σ 90 (((sg_g σ 88 7) + 1))) = 3) => ?_) (fun (h289 : (sg_g σ 90 (((sg_g σ 88 7) + 1))) = 3) => ?_)
        ·
          have w := w.1 h289
          refine wk_b tt_311 1 (pc' := 96) (ls' := [(1, .inl ((v_actOf ((sg_gl σ 92 ((sg_g σ 88 7))))))), (0, .inr (.inr (.ref 88)))]) (st' := [.inl (0)]) (σ' := σ) rfl ?_
          exact wk_ls [(0, .inr (.inr (.ref 88))), (1, .inl ((v_actOf ((sg_gl σ 92 ((sg_g σ 88 7)))))))] rfl ⟨rfl, rfl, trivial⟩ (jn114 (0) (by simp only [if_neg (show ¬ (¬ (v_actOf ((sg_gl σ 92 ((sg_g σ 88 7))))) = 0) by omega), if_pos h289]) (by decide))
        ·
          have w := w.2 h289
          refine wk_b tt_311 6 (pc' := 83) (ls' := [(1, .inl ((v_actOf ((sg_gl σ 92 ((sg_g σ 88 7))))))), (0, .inr (.inr (.ref 88)))]) (st' := [.inl (((sg_g σ 88 7) + 1)), .inr (.inr (.ref 92))]) (σ' := σ) rfl ?_
          refine wk_la tt_311 rfl rfl c288.1 c288.2 c287 ?_
          refine wk_b tt_311 1 (pc' := 87) (ls' := [(1, .inl ((v_actOf ((sg_gl σ 92 ((sg_g σ 88 7))))))), (0, .inr (.inr (.ref 88)))]) (st' := [.inr (.inl (40)), .inr (.inl ((sg_gl σ 92 (((sg_g σ 88 7) + 1)))))]) (σ' := σ) rfl ?_
          refine wk_lcif tt_311 (tgt := 95) rfl rfl rfl (sg_Rgl _ _ _) (by decide) (fun (h290 : ¬ (sg_gl σ 92 (((sg_g σ 88 7) + 1))) = 40) => ?_) (fun (h290 : (sg_gl σ 92 (((sg_g σ 88 7) + 1))) = 40) => ?_)
          ·
            have w := w.1 h290
            refine wk_b tt_311 1 (pc' := 96) (ls' := [(1, .inl ((v_actOf ((sg_gl σ 92 ((sg_g σ 88 7))))))), (0, .inr (.inr (.ref 88)))]) (st' := [.inl (0)]) (σ' := σ) rfl ?_
            exact wk_ls [(0, .inr (.inr (.ref 88))), (1, .inl ((v_actOf ((sg_gl σ 92 ((sg_g σ 88 7)))))))] rfl ⟨rfl, rfl, trivial⟩ (jn114 (0) (by simp only [if_neg (show ¬ (¬ (v_actOf ((sg_gl σ 92 ((sg_g σ 88 7))))) = 0) by omega), if_neg (show ¬ (¬ (sg_g σ 90 (((sg_g σ 88 7) + 1))) = 3) by omega), if_pos h290]) (by decide))
          ·
            have w := w.2 h290
            refine wk_b tt_311 2 (pc' := 96) (ls' := [(1, .inl ((v_actOf ((sg_gl σ 92 ((sg_g σ 88 7))))))), (0, .inr (.inr (.ref 88)))]) (st' := [.inl (1)]) (σ' := σ) rfl ?_
            exact wk_ls [(0, .inr (.inr (.ref 88))), (1, .inl ((v_actOf ((sg_gl σ 92 ((sg_g σ 88 7)))))))] rfl ⟨rfl, rfl, trivial⟩ (jn114 (1) (by simp only [if_neg (show ¬ (¬ (v_actOf ((sg_gl σ 92 ((sg_g σ 88 7))))) = 0) by omega), if_neg (show ¬ (¬ (sg_g σ 90 (((sg_g σ 88 7) + 1))) = 3) by omega), if_neg (show ¬ (¬ (sg_gl σ 92 (((sg_g σ 88 7) + 1))) = 40) by omega)]) (by decide))
  ·
    have w := w.2 h2
    refine wk_b tt_311 3 (pc' := 16) (ls' := [(0, .inr (.inr (.ref 88)))]) (st' := [.inl (0), .inr (.inr (.ref 88)), .inr (.inr (.ref 88))]) (σ' := σ) rfl ?_
    refine wk_call tt_311 rfl rfl rfl rfl rfl tt_294 rfl (by decide) (w_newNode z σ (0) _ (by decide) w) (fun u296 σ292 hq294 => ?_)
    obtain ⟨q291, rfl, r295, hF293, w⟩ := hq294
    have w := w r295 hF293
    refine wk_call tt_311 rfl rfl rfl rfl rfl tt_307 rfl (by decide) (w_pushed z σ292 (q291) _ r295 w) (fun u302 σ298 hq300 => ?_)
    obtain ⟨rfl, hF299, w⟩ := hq300
    have w := w hF299
    refine wk_b tt_311 2 (pc' := 24) (ls' := [(0, .inr (.inr (.ref 88)))]) (st' := [.inl (1), .inr (.inr (.ref 88))]) (σ' := σ298) rfl ?_
    refine wk_call tt_311 rfl rfl rfl rfl rfl tt_334 rfl (by decide) (w_want z σ298 (1) _ (by decide) w) (fun u308 σ304 hq306 => ?_)
    obtain ⟨rfl, hF305, w⟩ := hq306
    have w := w hF305
    exact wk_rV tt_311 rfl rfl ⟨rfl, (sg_F_t (sg_F_t (sg_F_t (sg_F_r [93, 94, 95, 96, 98, 110, 111, 112, 8088, 9088, 30088, 31088, 32088, 35088, 37088] σ) (sg_F_m (L := [93, 94, 95, 96, 98, 110, 111, 112, 8088, 9088, 30088, 31088, 32088, 35088, 37088]) hF293 rfl)) (sg_F_m (L := [93, 94, 95, 96, 98, 110, 111, 112, 8088, 9088, 30088, 31088, 32088, 35088, 37088]) hF299 rfl)) (sg_F_m (L := [93, 94, 95, 96, 98, 110, 111, 112, 8088, 9088, 30088, 31088, 32088, 35088, 37088]) hF305 rfl)), w⟩
