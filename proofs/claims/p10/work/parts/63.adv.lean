-- java/lang/String.isLatin1
set_option maxRecDepth 8000 in
theorem js_latin (z : Value) (σ : sg_S)  : wx z 0 346 0 [(0, .inr (.inr (.retAddr 1)))] [] σ (fun v σ' => v = some (.inl 1) ∧ σ' = σ) := by
  refine wk_gi (x := 1) tt_346 rfl rfl ?_
  refine wk_if tt_346 (tgt := 17) rfl rfl (by decide) (fun (h : 1 = 0) => absurd h (by decide)) (fun _ => ?_)
  refine wk_b tt_346 2 (pc' := 10) (ls' := [(0, .inr (.inr (.retAddr 1)))]) (st' := [.inl (0)]) (σ' := σ) rfl ?_
  refine wk_if tt_346 (tgt := 17) rfl rfl (by decide) (fun (h : ¬ 0 = 0) => absurd h (by decide)) (fun _ => ?_)
  refine wk_b tt_346 2 (pc' := 18) (ls' := [(0, .inr (.inr (.retAddr 1)))]) (st' := [.inl (1)]) (σ' := σ) rfl ?_
  refine wk_rZ tt_346 rfl rfl (by decide) ?_
  exact ⟨rfl, rfl⟩
-- java/lang/String.coder
set_option maxRecDepth 8000 in
theorem js_coder (z : Value) (σ : sg_S)  : wx z 0 343 0 [(0, .inr (.inr (.retAddr 1)))] [] σ (fun v σ' => v = some (.inl 0) ∧ σ' = σ) := by
  refine wk_gi (x := 1) tt_343 rfl rfl ?_
  refine wk_if tt_343 (tgt := 13) rfl rfl (by decide) (fun (h : 1 = 0) => absurd h (by decide)) (fun _ => ?_)
  refine wk_b tt_343 3 (pc' := 14) (ls' := [(0, .inr (.inr (.retAddr 1)))]) (st' := [.inl (0)]) (σ' := σ) rfl ?_
  refine wk_rB tt_343 rfl rfl (by decide) ?_
  exact ⟨rfl, rfl⟩
-- java/lang/String.length
set_option maxRecDepth 8000 in
theorem js_length (z : Value) (σ : sg_S)  : wx z 1 347 0 [(0, .inr (.inr (.retAddr 1)))] [] σ (fun v σ' => v = some (.inl 18) ∧ σ' = σ) := by
  refine wk_b tt_347 4 (pc' := 6) (ls' := [(0, .inr (.inr (.retAddr 1)))]) (st' := [.inr (.inr (.retAddr 1)), .inl (18)]) (σ' := σ) rfl ?_
  refine wk_callp tt_347 rfl rfl rfl rfl rfl tt_343 rfl (by decide) (js_coder z σ) ?_
  refine wk_b tt_347 1 (pc' := 10) (ls' := [(0, .inr (.inr (.retAddr 1)))]) (st' := [.inl (((sg_i (18) >>> (sg_i (0) &&& 31)).toInt))]) (σ' := σ) rfl ?_
  rw [show ((sg_i (18) >>> (sg_i (0) &&& 31)).toInt) = 18 from by decide]
  refine wk_rI tt_347 rfl rfl ?_
  exact ⟨rfl, rfl⟩
-- java/lang/StringLatin1.canEncode
set_option maxRecDepth 8000 in
theorem js_can (z : Value) (σ : sg_S) (a0 : Int) (ra : sg_R a0) : wx z 0 348 0 [(0, .inl (a0))] [] σ (fun v σ' => σ' = σ ∧ (v = some (.inl 1) ∧ (0 ≤ a0 ∧ a0 ≤ 255) ∨ v = some (.inl 0) ∧ ¬ (0 ≤ a0 ∧ a0 ≤ 255))) := by
  refine wk_b tt_348 1 (pc' := 1) (ls' := [(0, .inl (a0))]) (st' := [.inl (a0)]) (σ' := σ) rfl ?_
  refine wk_if tt_348 (tgt := 15) rfl rfl (by omega) (fun (h1 : a0 < 0) => ?_) (fun (h1 : 0 ≤ a0) => ?_)
  ·
    refine wk_b tt_348 1 (pc' := 16) (ls' := [(0, .inl (a0))]) (st' := [.inl (0)]) (σ' := σ) rfl ?_
    refine wk_rZ tt_348 rfl rfl (by decide) ?_
    first | exact ⟨rfl, Or.inl ⟨rfl, by omega⟩⟩ | exact ⟨rfl, Or.inr ⟨rfl, by omega⟩⟩
  ·
    refine wk_b tt_348 2 (pc' := 8) (ls' := [(0, .inl (a0))]) (st' := [.inl (255), .inl (a0)]) (σ' := σ) rfl ?_
    refine wk_if2 tt_348 (tgt := 15) rfl rfl (by omega) (by decide) (fun (h2 : 255 < a0) => ?_) (fun (h2 : a0 ≤ 255) => ?_)
    ·
      refine wk_b tt_348 1 (pc' := 16) (ls' := [(0, .inl (a0))]) (st' := [.inl (0)]) (σ' := σ) rfl ?_
      refine wk_rZ tt_348 rfl rfl (by decide) ?_
      first | exact ⟨rfl, Or.inl ⟨rfl, by omega⟩⟩ | exact ⟨rfl, Or.inr ⟨rfl, by omega⟩⟩
    ·
      refine wk_b tt_348 2 (pc' := 16) (ls' := [(0, .inl (a0))]) (st' := [.inl (1)]) (σ' := σ) rfl ?_
      refine wk_rZ tt_348 rfl rfl (by decide) ?_
      first | exact ⟨rfl, Or.inl ⟨rfl, by omega⟩⟩ | exact ⟨rfl, Or.inr ⟨rfl, by omega⟩⟩
-- java/lang/StringLatin1.indexOfChar
set_option maxRecDepth 8000 in
theorem js_char (z : Value) (σ : sg_S) (a1 : Int) (g0 : 0 ≤ a1) (g1 : a1 ≤ 255) : wx z 0 351 0 [(0, .inr (.inr (.retAddr 1001))), (1, .inl (a1)), (2, .inl (0)), (3, .inl (18))] [] σ (fun v σ' => ∃ q, v = some (.inl q) ∧ sg_F [] σ σ' ∧ (0 ≤ q ∧ q ≤ 200 ∧ lx_s a1 = true ∨ q = -1 ∧ lx_s a1 = false)) := by
  refine wk_b tt_351 7 (pc' := 10) (ls' := [(5, .inl (0)), (4, .inl ((((sg_i (a1)).toInt8.toInt32).toInt))), (0, .inr (.inr (.retAddr 1001))), (1, .inl (a1)), (2, .inl (0)), (3, .inl (18))]) (st' := [.inl (18), .inl (0)]) (σ' := σ) rfl ?_
  have hb := lx_i2b g0 g1
  generalize ((sg_i (a1)).toInt8.toInt32).toInt = b at hb ⊢
  refine wk_if2 tt_351 (tgt := 31) rfl rfl (by decide) (by decide) (fun (h : 18 ≤ 0) => absurd h (by decide)) (fun _ => ?_)
  refine wk_b tt_351 2 (pc' := 16) (ls' := [(5, .inl (0)), (4, .inl (b)), (0, .inr (.inr (.retAddr 1001))), (1, .inl (a1)), (2, .inl (0)), (3, .inl (18))]) (st' := [.inl (0), .inr (.inr (.retAddr 1001))]) (σ' := σ) rfl ?_
  refine wk_bf (k := 1) (i := 0) (x := 40) tt_351 rfl rfl rfl rfl rfl ?_
  refine wk_b tt_351 1 (pc' := 19) (ls' := [(5, .inl (0)), (4, .inl (b)), (0, .inr (.inr (.retAddr 1001))), (1, .inl (a1)), (2, .inl (0)), (3, .inl (18))]) (st' := [.inl (b), .inl (40)]) (σ' := σ) rfl ?_
  refine wk_if2 tt_351 (tgt := 25) rfl rfl (by decide) (by omega) (fun (h2 : ¬ 40 = b) => ?_) (fun (h2 : 40 = b) => ?_)
  ·
    refine wk_b tt_351 4 (pc' := 10) (ls' := [(5, .inl (1)), (4, .inl (b)), (0, .inr (.inr (.retAddr 1001))), (1, .inl (a1)), (2, .inl (0)), (3, .inl (18))]) (st' := [.inl (18), .inl (1)]) (σ' := σ) rfl ?_
    refine wk_if2 tt_351 (tgt := 31) rfl rfl (by decide) (by decide) (fun (h : 18 ≤ 1) => absurd h (by decide)) (fun _ => ?_)
    refine wk_b tt_351 2 (pc' := 16) (ls' := [(5, .inl (1)), (4, .inl (b)), (0, .inr (.inr (.retAddr 1001))), (1, .inl (a1)), (2, .inl (0)), (3, .inl (18))]) (st' := [.inl (1), .inr (.inr (.retAddr 1001))]) (σ' := σ) rfl ?_
    refine wk_bf (k := 1) (i := 1) (x := 41) tt_351 rfl rfl rfl rfl rfl ?_
    refine wk_b tt_351 1 (pc' := 19) (ls' := [(5, .inl (1)), (4, .inl (b)), (0, .inr (.inr (.retAddr 1001))), (1, .inl (a1)), (2, .inl (0)), (3, .inl (18))]) (st' := [.inl (b), .inl (41)]) (σ' := σ) rfl ?_
    refine wk_if2 tt_351 (tgt := 25) rfl rfl (by decide) (by omega) (fun (h4 : ¬ 41 = b) => ?_) (fun (h4 : 41 = b) => ?_)
    ·
      refine wk_b tt_351 4 (pc' := 10) (ls' := [(5, .inl (2)), (4, .inl (b)), (0, .inr (.inr (.retAddr 1001))), (1, .inl (a1)), (2, .inl (0)), (3, .inl (18))]) (st' := [.inl (18), .inl (2)]) (σ' := σ) rfl ?_
      refine wk_if2 tt_351 (tgt := 31) rfl rfl (by decide) (by decide) (fun (h : 18 ≤ 2) => absurd h (by decide)) (fun _ => ?_)
      refine wk_b tt_351 2 (pc' := 16) (ls' := [(5, .inl (2)), (4, .inl (b)), (0, .inr (.inr (.retAddr 1001))), (1, .inl (a1)), (2, .inl (0)), (3, .inl (18))]) (st' := [.inl (2), .inr (.inr (.retAddr 1001))]) (σ' := σ) rfl ?_
      refine wk_bf (k := 1) (i := 2) (x := 123) tt_351 rfl rfl rfl rfl rfl ?_
      refine wk_b tt_351 1 (pc' := 19) (ls' := [(5, .inl (2)), (4, .inl (b)), (0, .inr (.inr (.retAddr 1001))), (1, .inl (a1)), (2, .inl (0)), (3, .inl (18))]) (st' := [.inl (b), .inl (123)]) (σ' := σ) rfl ?_
      refine wk_if2 tt_351 (tgt := 25) rfl rfl (by decide) (by omega) (fun (h6 : ¬ 123 = b) => ?_) (fun (h6 : 123 = b) => ?_)
      ·
        refine wk_b tt_351 4 (pc' := 10) (ls' := [(5, .inl (3)), (4, .inl (b)), (0, .inr (.inr (.retAddr 1001))), (1, .inl (a1)), (2, .inl (0)), (3, .inl (18))]) (st' := [.inl (18), .inl (3)]) (σ' := σ) rfl ?_
        refine wk_if2 tt_351 (tgt := 31) rfl rfl (by decide) (by decide) (fun (h : 18 ≤ 3) => absurd h (by decide)) (fun _ => ?_)
        refine wk_b tt_351 2 (pc' := 16) (ls' := [(5, .inl (3)), (4, .inl (b)), (0, .inr (.inr (.retAddr 1001))), (1, .inl (a1)), (2, .inl (0)), (3, .inl (18))]) (st' := [.inl (3), .inr (.inr (.retAddr 1001))]) (σ' := σ) rfl ?_
        refine wk_bf (k := 1) (i := 3) (x := 125) tt_351 rfl rfl rfl rfl rfl ?_
        refine wk_b tt_351 1 (pc' := 19) (ls' := [(5, .inl (3)), (4, .inl (b)), (0, .inr (.inr (.retAddr 1001))), (1, .inl (a1)), (2, .inl (0)), (3, .inl (18))]) (st' := [.inl (b), .inl (125)]) (σ' := σ) rfl ?_
        refine wk_if2 tt_351 (tgt := 25) rfl rfl (by decide) (by omega) (fun (h8 : ¬ 125 = b) => ?_) (fun (h8 : 125 = b) => ?_)
        ·
          refine wk_b tt_351 4 (pc' := 10) (ls' := [(5, .inl (4)), (4, .inl (b)), (0, .inr (.inr (.retAddr 1001))), (1, .inl (a1)), (2, .inl (0)), (3, .inl (18))]) (st' := [.inl (18), .inl (4)]) (σ' := σ) rfl ?_
          refine wk_if2 tt_351 (tgt := 31) rfl rfl (by decide) (by decide) (fun (h : 18 ≤ 4) => absurd h (by decide)) (fun _ => ?_)
          refine wk_b tt_351 2 (pc' := 16) (ls' := [(5, .inl (4)), (4, .inl (b)), (0, .inr (.inr (.retAddr 1001))), (1, .inl (a1)), (2, .inl (0)), (3, .inl (18))]) (st' := [.inl (4), .inr (.inr (.retAddr 1001))]) (σ' := σ) rfl ?_
          refine wk_bf (k := 1) (i := 4) (x := 91) tt_351 rfl rfl rfl rfl rfl ?_
          refine wk_b tt_351 1 (pc' := 19) (ls' := [(5, .inl (4)), (4, .inl (b)), (0, .inr (.inr (.retAddr 1001))), (1, .inl (a1)), (2, .inl (0)), (3, .inl (18))]) (st' := [.inl (b), .inl (91)]) (σ' := σ) rfl ?_
          refine wk_if2 tt_351 (tgt := 25) rfl rfl (by decide) (by omega) (fun (h10 : ¬ 91 = b) => ?_) (fun (h10 : 91 = b) => ?_)
          ·
            refine wk_b tt_351 4 (pc' := 10) (ls' := [(5, .inl (5)), (4, .inl (b)), (0, .inr (.inr (.retAddr 1001))), (1, .inl (a1)), (2, .inl (0)), (3, .inl (18))]) (st' := [.inl (18), .inl (5)]) (σ' := σ) rfl ?_
            refine wk_if2 tt_351 (tgt := 31) rfl rfl (by decide) (by decide) (fun (h : 18 ≤ 5) => absurd h (by decide)) (fun _ => ?_)
            refine wk_b tt_351 2 (pc' := 16) (ls' := [(5, .inl (5)), (4, .inl (b)), (0, .inr (.inr (.retAddr 1001))), (1, .inl (a1)), (2, .inl (0)), (3, .inl (18))]) (st' := [.inl (5), .inr (.inr (.retAddr 1001))]) (σ' := σ) rfl ?_
            refine wk_bf (k := 1) (i := 5) (x := 93) tt_351 rfl rfl rfl rfl rfl ?_
            refine wk_b tt_351 1 (pc' := 19) (ls' := [(5, .inl (5)), (4, .inl (b)), (0, .inr (.inr (.retAddr 1001))), (1, .inl (a1)), (2, .inl (0)), (3, .inl (18))]) (st' := [.inl (b), .inl (93)]) (σ' := σ) rfl ?_
            refine wk_if2 tt_351 (tgt := 25) rfl rfl (by decide) (by omega) (fun (h12 : ¬ 93 = b) => ?_) (fun (h12 : 93 = b) => ?_)
            ·
              refine wk_b tt_351 4 (pc' := 10) (ls' := [(5, .inl (6)), (4, .inl (b)), (0, .inr (.inr (.retAddr 1001))), (1, .inl (a1)), (2, .inl (0)), (3, .inl (18))]) (st' := [.inl (18), .inl (6)]) (σ' := σ) rfl ?_
              refine wk_if2 tt_351 (tgt := 31) rfl rfl (by decide) (by decide) (fun (h : 18 ≤ 6) => absurd h (by decide)) (fun _ => ?_)
              refine wk_b tt_351 2 (pc' := 16) (ls' := [(5, .inl (6)), (4, .inl (b)), (0, .inr (.inr (.retAddr 1001))), (1, .inl (a1)), (2, .inl (0)), (3, .inl (18))]) (st' := [.inl (6), .inr (.inr (.retAddr 1001))]) (σ' := σ) rfl ?_
              refine wk_bf (k := 1) (i := 6) (x := 44) tt_351 rfl rfl rfl rfl rfl ?_
              refine wk_b tt_351 1 (pc' := 19) (ls' := [(5, .inl (6)), (4, .inl (b)), (0, .inr (.inr (.retAddr 1001))), (1, .inl (a1)), (2, .inl (0)), (3, .inl (18))]) (st' := [.inl (b), .inl (44)]) (σ' := σ) rfl ?_
              refine wk_if2 tt_351 (tgt := 25) rfl rfl (by decide) (by omega) (fun (h14 : ¬ 44 = b) => ?_) (fun (h14 : 44 = b) => ?_)
              ·
                refine wk_b tt_351 4 (pc' := 10) (ls' := [(5, .inl (7)), (4, .inl (b)), (0, .inr (.inr (.retAddr 1001))), (1, .inl (a1)), (2, .inl (0)), (3, .inl (18))]) (st' := [.inl (18), .inl (7)]) (σ' := σ) rfl ?_
                refine wk_if2 tt_351 (tgt := 31) rfl rfl (by decide) (by decide) (fun (h : 18 ≤ 7) => absurd h (by decide)) (fun _ => ?_)
                refine wk_b tt_351 2 (pc' := 16) (ls' := [(5, .inl (7)), (4, .inl (b)), (0, .inr (.inr (.retAddr 1001))), (1, .inl (a1)), (2, .inl (0)), (3, .inl (18))]) (st' := [.inl (7), .inr (.inr (.retAddr 1001))]) (σ' := σ) rfl ?_
                refine wk_bf (k := 1) (i := 7) (x := 58) tt_351 rfl rfl rfl rfl rfl ?_
                refine wk_b tt_351 1 (pc' := 19) (ls' := [(5, .inl (7)), (4, .inl (b)), (0, .inr (.inr (.retAddr 1001))), (1, .inl (a1)), (2, .inl (0)), (3, .inl (18))]) (st' := [.inl (b), .inl (58)]) (σ' := σ) rfl ?_
                refine wk_if2 tt_351 (tgt := 25) rfl rfl (by decide) (by omega) (fun (h16 : ¬ 58 = b) => ?_) (fun (h16 : 58 = b) => ?_)
                ·
                  refine wk_b tt_351 4 (pc' := 10) (ls' := [(5, .inl (8)), (4, .inl (b)), (0, .inr (.inr (.retAddr 1001))), (1, .inl (a1)), (2, .inl (0)), (3, .inl (18))]) (st' := [.inl (18), .inl (8)]) (σ' := σ) rfl ?_
                  refine wk_if2 tt_351 (tgt := 31) rfl rfl (by decide) (by decide) (fun (h : 18 ≤ 8) => absurd h (by decide)) (fun _ => ?_)
                  refine wk_b tt_351 2 (pc' := 16) (ls' := [(5, .inl (8)), (4, .inl (b)), (0, .inr (.inr (.retAddr 1001))), (1, .inl (a1)), (2, .inl (0)), (3, .inl (18))]) (st' := [.inl (8), .inr (.inr (.retAddr 1001))]) (σ' := σ) rfl ?_
                  refine wk_bf (k := 1) (i := 8) (x := 59) tt_351 rfl rfl rfl rfl rfl ?_
                  refine wk_b tt_351 1 (pc' := 19) (ls' := [(5, .inl (8)), (4, .inl (b)), (0, .inr (.inr (.retAddr 1001))), (1, .inl (a1)), (2, .inl (0)), (3, .inl (18))]) (st' := [.inl (b), .inl (59)]) (σ' := σ) rfl ?_
                  refine wk_if2 tt_351 (tgt := 25) rfl rfl (by decide) (by omega) (fun (h18 : ¬ 59 = b) => ?_) (fun (h18 : 59 = b) => ?_)
                  ·
                    refine wk_b tt_351 4 (pc' := 10) (ls' := [(5, .inl (9)), (4, .inl (b)), (0, .inr (.inr (.retAddr 1001))), (1, .inl (a1)), (2, .inl (0)), (3, .inl (18))]) (st' := [.inl (18), .inl (9)]) (σ' := σ) rfl ?_
                    refine wk_if2 tt_351 (tgt := 31) rfl rfl (by decide) (by decide) (fun (h : 18 ≤ 9) => absurd h (by decide)) (fun _ => ?_)
                    refine wk_b tt_351 2 (pc' := 16) (ls' := [(5, .inl (9)), (4, .inl (b)), (0, .inr (.inr (.retAddr 1001))), (1, .inl (a1)), (2, .inl (0)), (3, .inl (18))]) (st' := [.inl (9), .inr (.inr (.retAddr 1001))]) (σ' := σ) rfl ?_
                    refine wk_bf (k := 1) (i := 9) (x := 124) tt_351 rfl rfl rfl rfl rfl ?_
                    refine wk_b tt_351 1 (pc' := 19) (ls' := [(5, .inl (9)), (4, .inl (b)), (0, .inr (.inr (.retAddr 1001))), (1, .inl (a1)), (2, .inl (0)), (3, .inl (18))]) (st' := [.inl (b), .inl (124)]) (σ' := σ) rfl ?_
                    refine wk_if2 tt_351 (tgt := 25) rfl rfl (by decide) (by omega) (fun (h20 : ¬ 124 = b) => ?_) (fun (h20 : 124 = b) => ?_)
                    ·
                      refine wk_b tt_351 4 (pc' := 10) (ls' := [(5, .inl (10)), (4, .inl (b)), (0, .inr (.inr (.retAddr 1001))), (1, .inl (a1)), (2, .inl (0)), (3, .inl (18))]) (st' := [.inl (18), .inl (10)]) (σ' := σ) rfl ?_
                      refine wk_if2 tt_351 (tgt := 31) rfl rfl (by decide) (by decide) (fun (h : 18 ≤ 10) => absurd h (by decide)) (fun _ => ?_)
                      refine wk_b tt_351 2 (pc' := 16) (ls' := [(5, .inl (10)), (4, .inl (b)), (0, .inr (.inr (.retAddr 1001))), (1, .inl (a1)), (2, .inl (0)), (3, .inl (18))]) (st' := [.inl (10), .inr (.inr (.retAddr 1001))]) (σ' := σ) rfl ?_
                      refine wk_bf (k := 1) (i := 10) (x := 61) tt_351 rfl rfl rfl rfl rfl ?_
                      refine wk_b tt_351 1 (pc' := 19) (ls' := [(5, .inl (10)), (4, .inl (b)), (0, .inr (.inr (.retAddr 1001))), (1, .inl (a1)), (2, .inl (0)), (3, .inl (18))]) (st' := [.inl (b), .inl (61)]) (σ' := σ) rfl ?_
                      refine wk_if2 tt_351 (tgt := 25) rfl rfl (by decide) (by omega) (fun (h22 : ¬ 61 = b) => ?_) (fun (h22 : 61 = b) => ?_)
                      ·
                        refine wk_b tt_351 4 (pc' := 10) (ls' := [(5, .inl (11)), (4, .inl (b)), (0, .inr (.inr (.retAddr 1001))), (1, .inl (a1)), (2, .inl (0)), (3, .inl (18))]) (st' := [.inl (18), .inl (11)]) (σ' := σ) rfl ?_
                        refine wk_if2 tt_351 (tgt := 31) rfl rfl (by decide) (by decide) (fun (h : 18 ≤ 11) => absurd h (by decide)) (fun _ => ?_)
                        refine wk_b tt_351 2 (pc' := 16) (ls' := [(5, .inl (11)), (4, .inl (b)), (0, .inr (.inr (.retAddr 1001))), (1, .inl (a1)), (2, .inl (0)), (3, .inl (18))]) (st' := [.inl (11), .inr (.inr (.retAddr 1001))]) (σ' := σ) rfl ?_
                        refine wk_bf (k := 1) (i := 11) (x := 60) tt_351 rfl rfl rfl rfl rfl ?_
                        refine wk_b tt_351 1 (pc' := 19) (ls' := [(5, .inl (11)), (4, .inl (b)), (0, .inr (.inr (.retAddr 1001))), (1, .inl (a1)), (2, .inl (0)), (3, .inl (18))]) (st' := [.inl (b), .inl (60)]) (σ' := σ) rfl ?_
                        refine wk_if2 tt_351 (tgt := 25) rfl rfl (by decide) (by omega) (fun (h24 : ¬ 60 = b) => ?_) (fun (h24 : 60 = b) => ?_)
                        ·
                          refine wk_b tt_351 4 (pc' := 10) (ls' := [(5, .inl (12)), (4, .inl (b)), (0, .inr (.inr (.retAddr 1001))), (1, .inl (a1)), (2, .inl (0)), (3, .inl (18))]) (st' := [.inl (18), .inl (12)]) (σ' := σ) rfl ?_
                          refine wk_if2 tt_351 (tgt := 31) rfl rfl (by decide) (by decide) (fun (h : 18 ≤ 12) => absurd h (by decide)) (fun _ => ?_)
                          refine wk_b tt_351 2 (pc' := 16) (ls' := [(5, .inl (12)), (4, .inl (b)), (0, .inr (.inr (.retAddr 1001))), (1, .inl (a1)), (2, .inl (0)), (3, .inl (18))]) (st' := [.inl (12), .inr (.inr (.retAddr 1001))]) (σ' := σ) rfl ?_
                          refine wk_bf (k := 1) (i := 12) (x := 43) tt_351 rfl rfl rfl rfl rfl ?_
                          refine wk_b tt_351 1 (pc' := 19) (ls' := [(5, .inl (12)), (4, .inl (b)), (0, .inr (.inr (.retAddr 1001))), (1, .inl (a1)), (2, .inl (0)), (3, .inl (18))]) (st' := [.inl (b), .inl (43)]) (σ' := σ) rfl ?_
                          refine wk_if2 tt_351 (tgt := 25) rfl rfl (by decide) (by omega) (fun (h26 : ¬ 43 = b) => ?_) (fun (h26 : 43 = b) => ?_)
                          ·
                            refine wk_b tt_351 4 (pc' := 10) (ls' := [(5, .inl (13)), (4, .inl (b)), (0, .inr (.inr (.retAddr 1001))), (1, .inl (a1)), (2, .inl (0)), (3, .inl (18))]) (st' := [.inl (18), .inl (13)]) (σ' := σ) rfl ?_
                            refine wk_if2 tt_351 (tgt := 31) rfl rfl (by decide) (by decide) (fun (h : 18 ≤ 13) => absurd h (by decide)) (fun _ => ?_)
                            refine wk_b tt_351 2 (pc' := 16) (ls' := [(5, .inl (13)), (4, .inl (b)), (0, .inr (.inr (.retAddr 1001))), (1, .inl (a1)), (2, .inl (0)), (3, .inl (18))]) (st' := [.inl (13), .inr (.inr (.retAddr 1001))]) (σ' := σ) rfl ?_
                            refine wk_bf (k := 1) (i := 13) (x := 45) tt_351 rfl rfl rfl rfl rfl ?_
                            refine wk_b tt_351 1 (pc' := 19) (ls' := [(5, .inl (13)), (4, .inl (b)), (0, .inr (.inr (.retAddr 1001))), (1, .inl (a1)), (2, .inl (0)), (3, .inl (18))]) (st' := [.inl (b), .inl (45)]) (σ' := σ) rfl ?_
                            refine wk_if2 tt_351 (tgt := 25) rfl rfl (by decide) (by omega) (fun (h28 : ¬ 45 = b) => ?_) (fun (h28 : 45 = b) => ?_)
                            ·
                              refine wk_b tt_351 4 (pc' := 10) (ls' := [(5, .inl (14)), (4, .inl (b)), (0, .inr (.inr (.retAddr 1001))), (1, .inl (a1)), (2, .inl (0)), (3, .inl (18))]) (st' := [.inl (18), .inl (14)]) (σ' := σ) rfl ?_
                              refine wk_if2 tt_351 (tgt := 31) rfl rfl (by decide) (by decide) (fun (h : 18 ≤ 14) => absurd h (by decide)) (fun _ => ?_)
                              refine wk_b tt_351 2 (pc' := 16) (ls' := [(5, .inl (14)), (4, .inl (b)), (0, .inr (.inr (.retAddr 1001))), (1, .inl (a1)), (2, .inl (0)), (3, .inl (18))]) (st' := [.inl (14), .inr (.inr (.retAddr 1001))]) (σ' := σ) rfl ?_
                              refine wk_bf (k := 1) (i := 14) (x := 42) tt_351 rfl rfl rfl rfl rfl ?_
                              refine wk_b tt_351 1 (pc' := 19) (ls' := [(5, .inl (14)), (4, .inl (b)), (0, .inr (.inr (.retAddr 1001))), (1, .inl (a1)), (2, .inl (0)), (3, .inl (18))]) (st' := [.inl (b), .inl (42)]) (σ' := σ) rfl ?_
                              refine wk_if2 tt_351 (tgt := 25) rfl rfl (by decide) (by omega) (fun (h30 : ¬ 42 = b) => ?_) (fun (h30 : 42 = b) => ?_)
                              ·
                                refine wk_b tt_351 4 (pc' := 10) (ls' := [(5, .inl (15)), (4, .inl (b)), (0, .inr (.inr (.retAddr 1001))), (1, .inl (a1)), (2, .inl (0)), (3, .inl (18))]) (st' := [.inl (18), .inl (15)]) (σ' := σ) rfl ?_
                                refine wk_if2 tt_351 (tgt := 31) rfl rfl (by decide) (by decide) (fun (h : 18 ≤ 15) => absurd h (by decide)) (fun _ => ?_)
                                refine wk_b tt_351 2 (pc' := 16) (ls' := [(5, .inl (15)), (4, .inl (b)), (0, .inr (.inr (.retAddr 1001))), (1, .inl (a1)), (2, .inl (0)), (3, .inl (18))]) (st' := [.inl (15), .inr (.inr (.retAddr 1001))]) (σ' := σ) rfl ?_
                                refine wk_bf (k := 1) (i := 15) (x := 47) tt_351 rfl rfl rfl rfl rfl ?_
                                refine wk_b tt_351 1 (pc' := 19) (ls' := [(5, .inl (15)), (4, .inl (b)), (0, .inr (.inr (.retAddr 1001))), (1, .inl (a1)), (2, .inl (0)), (3, .inl (18))]) (st' := [.inl (b), .inl (47)]) (σ' := σ) rfl ?_
                                refine wk_if2 tt_351 (tgt := 25) rfl rfl (by decide) (by omega) (fun (h32 : ¬ 47 = b) => ?_) (fun (h32 : 47 = b) => ?_)
                                ·
                                  refine wk_b tt_351 4 (pc' := 10) (ls' := [(5, .inl (16)), (4, .inl (b)), (0, .inr (.inr (.retAddr 1001))), (1, .inl (a1)), (2, .inl (0)), (3, .inl (18))]) (st' := [.inl (18), .inl (16)]) (σ' := σ) rfl ?_
                                  refine wk_if2 tt_351 (tgt := 31) rfl rfl (by decide) (by decide) (fun (h : 18 ≤ 16) => absurd h (by decide)) (fun _ => ?_)
                                  refine wk_b tt_351 2 (pc' := 16) (ls' := [(5, .inl (16)), (4, .inl (b)), (0, .inr (.inr (.retAddr 1001))), (1, .inl (a1)), (2, .inl (0)), (3, .inl (18))]) (st' := [.inl (16), .inr (.inr (.retAddr 1001))]) (σ' := σ) rfl ?_
                                  refine wk_bf (k := 1) (i := 16) (x := 37) tt_351 rfl rfl rfl rfl rfl ?_
                                  refine wk_b tt_351 1 (pc' := 19) (ls' := [(5, .inl (16)), (4, .inl (b)), (0, .inr (.inr (.retAddr 1001))), (1, .inl (a1)), (2, .inl (0)), (3, .inl (18))]) (st' := [.inl (b), .inl (37)]) (σ' := σ) rfl ?_
                                  refine wk_if2 tt_351 (tgt := 25) rfl rfl (by decide) (by omega) (fun (h34 : ¬ 37 = b) => ?_) (fun (h34 : 37 = b) => ?_)
                                  ·
                                    refine wk_b tt_351 4 (pc' := 10) (ls' := [(5, .inl (17)), (4, .inl (b)), (0, .inr (.inr (.retAddr 1001))), (1, .inl (a1)), (2, .inl (0)), (3, .inl (18))]) (st' := [.inl (18), .inl (17)]) (σ' := σ) rfl ?_
                                    refine wk_if2 tt_351 (tgt := 31) rfl rfl (by decide) (by decide) (fun (h : 18 ≤ 17) => absurd h (by decide)) (fun _ => ?_)
                                    refine wk_b tt_351 2 (pc' := 16) (ls' := [(5, .inl (17)), (4, .inl (b)), (0, .inr (.inr (.retAddr 1001))), (1, .inl (a1)), (2, .inl (0)), (3, .inl (18))]) (st' := [.inl (17), .inr (.inr (.retAddr 1001))]) (σ' := σ) rfl ?_
                                    refine wk_bf (k := 1) (i := 17) (x := 35) tt_351 rfl rfl rfl rfl rfl ?_
                                    refine wk_b tt_351 1 (pc' := 19) (ls' := [(5, .inl (17)), (4, .inl (b)), (0, .inr (.inr (.retAddr 1001))), (1, .inl (a1)), (2, .inl (0)), (3, .inl (18))]) (st' := [.inl (b), .inl (35)]) (σ' := σ) rfl ?_
                                    refine wk_if2 tt_351 (tgt := 25) rfl rfl (by decide) (by omega) (fun (h36 : ¬ 35 = b) => ?_) (fun (h36 : 35 = b) => ?_)
                                    ·
                                      refine wk_b tt_351 4 (pc' := 10) (ls' := [(5, .inl (18)), (4, .inl (b)), (0, .inr (.inr (.retAddr 1001))), (1, .inl (a1)), (2, .inl (0)), (3, .inl (18))]) (st' := [.inl (18), .inl (18)]) (σ' := σ) rfl ?_
                                      refine wk_if2 tt_351 (tgt := 31) rfl rfl (by decide) (by decide) (fun _ => ?_) (fun (h : 18 < 18) => absurd h (by decide))
                                      refine wk_b tt_351 1 (pc' := 32) (ls' := [(5, .inl (18)), (4, .inl (b)), (0, .inr (.inr (.retAddr 1001))), (1, .inl (a1)), (2, .inl (0)), (3, .inl (18))]) (st' := [.inl ((-1))]) (σ' := σ) rfl ?_
                                      refine wk_rI tt_351 rfl rfl ?_
                                      first | exact ⟨_, rfl, sg_F_r _ _, Or.inl ⟨by decide, by decide, decide_eq_true (by omega)⟩⟩ | exact ⟨_, rfl, sg_F_r _ _, Or.inr ⟨rfl, decide_eq_false (by omega)⟩⟩
                                    ·
                                      refine wk_b tt_351 1 (pc' := 24) (ls' := [(5, .inl (17)), (4, .inl (b)), (0, .inr (.inr (.retAddr 1001))), (1, .inl (a1)), (2, .inl (0)), (3, .inl (18))]) (st' := [.inl (17)]) (σ' := σ) rfl ?_
                                      refine wk_rI tt_351 rfl rfl ?_
                                      first | exact ⟨_, rfl, sg_F_r _ _, Or.inl ⟨by decide, by decide, decide_eq_true (by omega)⟩⟩ | exact ⟨_, rfl, sg_F_r _ _, Or.inr ⟨rfl, decide_eq_false (by omega)⟩⟩
                                  ·
                                    refine wk_b tt_351 1 (pc' := 24) (ls' := [(5, .inl (16)), (4, .inl (b)), (0, .inr (.inr (.retAddr 1001))), (1, .inl (a1)), (2, .inl (0)), (3, .inl (18))]) (st' := [.inl (16)]) (σ' := σ) rfl ?_
                                    refine wk_rI tt_351 rfl rfl ?_
                                    first | exact ⟨_, rfl, sg_F_r _ _, Or.inl ⟨by decide, by decide, decide_eq_true (by omega)⟩⟩ | exact ⟨_, rfl, sg_F_r _ _, Or.inr ⟨rfl, decide_eq_false (by omega)⟩⟩
                                ·
                                  refine wk_b tt_351 1 (pc' := 24) (ls' := [(5, .inl (15)), (4, .inl (b)), (0, .inr (.inr (.retAddr 1001))), (1, .inl (a1)), (2, .inl (0)), (3, .inl (18))]) (st' := [.inl (15)]) (σ' := σ) rfl ?_
                                  refine wk_rI tt_351 rfl rfl ?_
                                  first | exact ⟨_, rfl, sg_F_r _ _, Or.inl ⟨by decide, by decide, decide_eq_true (by omega)⟩⟩ | exact ⟨_, rfl, sg_F_r _ _, Or.inr ⟨rfl, decide_eq_false (by omega)⟩⟩
                              ·
                                refine wk_b tt_351 1 (pc' := 24) (ls' := [(5, .inl (14)), (4, .inl (b)), (0, .inr (.inr (.retAddr 1001))), (1, .inl (a1)), (2, .inl (0)), (3, .inl (18))]) (st' := [.inl (14)]) (σ' := σ) rfl ?_
                                refine wk_rI tt_351 rfl rfl ?_
                                first | exact ⟨_, rfl, sg_F_r _ _, Or.inl ⟨by decide, by decide, decide_eq_true (by omega)⟩⟩ | exact ⟨_, rfl, sg_F_r _ _, Or.inr ⟨rfl, decide_eq_false (by omega)⟩⟩
                            ·
                              refine wk_b tt_351 1 (pc' := 24) (ls' := [(5, .inl (13)), (4, .inl (b)), (0, .inr (.inr (.retAddr 1001))), (1, .inl (a1)), (2, .inl (0)), (3, .inl (18))]) (st' := [.inl (13)]) (σ' := σ) rfl ?_
                              refine wk_rI tt_351 rfl rfl ?_
                              first | exact ⟨_, rfl, sg_F_r _ _, Or.inl ⟨by decide, by decide, decide_eq_true (by omega)⟩⟩ | exact ⟨_, rfl, sg_F_r _ _, Or.inr ⟨rfl, decide_eq_false (by omega)⟩⟩
                          ·
                            refine wk_b tt_351 1 (pc' := 24) (ls' := [(5, .inl (12)), (4, .inl (b)), (0, .inr (.inr (.retAddr 1001))), (1, .inl (a1)), (2, .inl (0)), (3, .inl (18))]) (st' := [.inl (12)]) (σ' := σ) rfl ?_
                            refine wk_rI tt_351 rfl rfl ?_
                            first | exact ⟨_, rfl, sg_F_r _ _, Or.inl ⟨by decide, by decide, decide_eq_true (by omega)⟩⟩ | exact ⟨_, rfl, sg_F_r _ _, Or.inr ⟨rfl, decide_eq_false (by omega)⟩⟩
                        ·
                          refine wk_b tt_351 1 (pc' := 24) (ls' := [(5, .inl (11)), (4, .inl (b)), (0, .inr (.inr (.retAddr 1001))), (1, .inl (a1)), (2, .inl (0)), (3, .inl (18))]) (st' := [.inl (11)]) (σ' := σ) rfl ?_
                          refine wk_rI tt_351 rfl rfl ?_
                          first | exact ⟨_, rfl, sg_F_r _ _, Or.inl ⟨by decide, by decide, decide_eq_true (by omega)⟩⟩ | exact ⟨_, rfl, sg_F_r _ _, Or.inr ⟨rfl, decide_eq_false (by omega)⟩⟩
                      ·
                        refine wk_b tt_351 1 (pc' := 24) (ls' := [(5, .inl (10)), (4, .inl (b)), (0, .inr (.inr (.retAddr 1001))), (1, .inl (a1)), (2, .inl (0)), (3, .inl (18))]) (st' := [.inl (10)]) (σ' := σ) rfl ?_
                        refine wk_rI tt_351 rfl rfl ?_
                        first | exact ⟨_, rfl, sg_F_r _ _, Or.inl ⟨by decide, by decide, decide_eq_true (by omega)⟩⟩ | exact ⟨_, rfl, sg_F_r _ _, Or.inr ⟨rfl, decide_eq_false (by omega)⟩⟩
                    ·
                      refine wk_b tt_351 1 (pc' := 24) (ls' := [(5, .inl (9)), (4, .inl (b)), (0, .inr (.inr (.retAddr 1001))), (1, .inl (a1)), (2, .inl (0)), (3, .inl (18))]) (st' := [.inl (9)]) (σ' := σ) rfl ?_
                      refine wk_rI tt_351 rfl rfl ?_
                      first | exact ⟨_, rfl, sg_F_r _ _, Or.inl ⟨by decide, by decide, decide_eq_true (by omega)⟩⟩ | exact ⟨_, rfl, sg_F_r _ _, Or.inr ⟨rfl, decide_eq_false (by omega)⟩⟩
                  ·
                    refine wk_b tt_351 1 (pc' := 24) (ls' := [(5, .inl (8)), (4, .inl (b)), (0, .inr (.inr (.retAddr 1001))), (1, .inl (a1)), (2, .inl (0)), (3, .inl (18))]) (st' := [.inl (8)]) (σ' := σ) rfl ?_
                    refine wk_rI tt_351 rfl rfl ?_
                    first | exact ⟨_, rfl, sg_F_r _ _, Or.inl ⟨by decide, by decide, decide_eq_true (by omega)⟩⟩ | exact ⟨_, rfl, sg_F_r _ _, Or.inr ⟨rfl, decide_eq_false (by omega)⟩⟩
                ·
                  refine wk_b tt_351 1 (pc' := 24) (ls' := [(5, .inl (7)), (4, .inl (b)), (0, .inr (.inr (.retAddr 1001))), (1, .inl (a1)), (2, .inl (0)), (3, .inl (18))]) (st' := [.inl (7)]) (σ' := σ) rfl ?_
                  refine wk_rI tt_351 rfl rfl ?_
                  first | exact ⟨_, rfl, sg_F_r _ _, Or.inl ⟨by decide, by decide, decide_eq_true (by omega)⟩⟩ | exact ⟨_, rfl, sg_F_r _ _, Or.inr ⟨rfl, decide_eq_false (by omega)⟩⟩
              ·
                refine wk_b tt_351 1 (pc' := 24) (ls' := [(5, .inl (6)), (4, .inl (b)), (0, .inr (.inr (.retAddr 1001))), (1, .inl (a1)), (2, .inl (0)), (3, .inl (18))]) (st' := [.inl (6)]) (σ' := σ) rfl ?_
                refine wk_rI tt_351 rfl rfl ?_
                first | exact ⟨_, rfl, sg_F_r _ _, Or.inl ⟨by decide, by decide, decide_eq_true (by omega)⟩⟩ | exact ⟨_, rfl, sg_F_r _ _, Or.inr ⟨rfl, decide_eq_false (by omega)⟩⟩
            ·
              refine wk_b tt_351 1 (pc' := 24) (ls' := [(5, .inl (5)), (4, .inl (b)), (0, .inr (.inr (.retAddr 1001))), (1, .inl (a1)), (2, .inl (0)), (3, .inl (18))]) (st' := [.inl (5)]) (σ' := σ) rfl ?_
              refine wk_rI tt_351 rfl rfl ?_
              first | exact ⟨_, rfl, sg_F_r _ _, Or.inl ⟨by decide, by decide, decide_eq_true (by omega)⟩⟩ | exact ⟨_, rfl, sg_F_r _ _, Or.inr ⟨rfl, decide_eq_false (by omega)⟩⟩
          ·
            refine wk_b tt_351 1 (pc' := 24) (ls' := [(5, .inl (4)), (4, .inl (b)), (0, .inr (.inr (.retAddr 1001))), (1, .inl (a1)), (2, .inl (0)), (3, .inl (18))]) (st' := [.inl (4)]) (σ' := σ) rfl ?_
            refine wk_rI tt_351 rfl rfl ?_
            first | exact ⟨_, rfl, sg_F_r _ _, Or.inl ⟨by decide, by decide, decide_eq_true (by omega)⟩⟩ | exact ⟨_, rfl, sg_F_r _ _, Or.inr ⟨rfl, decide_eq_false (by omega)⟩⟩
        ·
          refine wk_b tt_351 1 (pc' := 24) (ls' := [(5, .inl (3)), (4, .inl (b)), (0, .inr (.inr (.retAddr 1001))), (1, .inl (a1)), (2, .inl (0)), (3, .inl (18))]) (st' := [.inl (3)]) (σ' := σ) rfl ?_
          refine wk_rI tt_351 rfl rfl ?_
          first | exact ⟨_, rfl, sg_F_r _ _, Or.inl ⟨by decide, by decide, decide_eq_true (by omega)⟩⟩ | exact ⟨_, rfl, sg_F_r _ _, Or.inr ⟨rfl, decide_eq_false (by omega)⟩⟩
      ·
        refine wk_b tt_351 1 (pc' := 24) (ls' := [(5, .inl (2)), (4, .inl (b)), (0, .inr (.inr (.retAddr 1001))), (1, .inl (a1)), (2, .inl (0)), (3, .inl (18))]) (st' := [.inl (2)]) (σ' := σ) rfl ?_
        refine wk_rI tt_351 rfl rfl ?_
        first | exact ⟨_, rfl, sg_F_r _ _, Or.inl ⟨by decide, by decide, decide_eq_true (by omega)⟩⟩ | exact ⟨_, rfl, sg_F_r _ _, Or.inr ⟨rfl, decide_eq_false (by omega)⟩⟩
    ·
      refine wk_b tt_351 1 (pc' := 24) (ls' := [(5, .inl (1)), (4, .inl (b)), (0, .inr (.inr (.retAddr 1001))), (1, .inl (a1)), (2, .inl (0)), (3, .inl (18))]) (st' := [.inl (1)]) (σ' := σ) rfl ?_
      refine wk_rI tt_351 rfl rfl ?_
      first | exact ⟨_, rfl, sg_F_r _ _, Or.inl ⟨by decide, by decide, decide_eq_true (by omega)⟩⟩ | exact ⟨_, rfl, sg_F_r _ _, Or.inr ⟨rfl, decide_eq_false (by omega)⟩⟩
  ·
    refine wk_b tt_351 1 (pc' := 24) (ls' := [(5, .inl (0)), (4, .inl (b)), (0, .inr (.inr (.retAddr 1001))), (1, .inl (a1)), (2, .inl (0)), (3, .inl (18))]) (st' := [.inl (0)]) (σ' := σ) rfl ?_
    refine wk_rI tt_351 rfl rfl ?_
    first | exact ⟨_, rfl, sg_F_r _ _, Or.inl ⟨by decide, by decide, decide_eq_true (by omega)⟩⟩ | exact ⟨_, rfl, sg_F_r _ _, Or.inr ⟨rfl, decide_eq_false (by omega)⟩⟩
-- java/lang/StringLatin1.indexOf
set_option maxRecDepth 8000 in
theorem js_idx4 (z : Value) (σ : sg_S) (a1 : Int) (g0 : 0 ≤ a1) (g1 : a1 ≤ 255) : wx z 1 350 0 [(0, .inr (.inr (.retAddr 1001))), (1, .inl (a1)), (2, .inl (0)), (3, .inl (18))] [] σ (fun v σ' => ∃ q, v = some (.inl q) ∧ sg_F [] σ σ' ∧ (0 ≤ q ∧ q ≤ 200 ∧ lx_s a1 = true ∨ q = -1 ∧ lx_s a1 = false)) := by
  refine wk_b tt_350 1 (pc' := 1) (ls' := [(0, .inr (.inr (.retAddr 1001))), (1, .inl (a1)), (2, .inl (0)), (3, .inl (18))]) (st' := [.inl (a1)]) (σ' := σ) rfl ?_
  refine wk_callb tt_350 rfl rfl rfl rfl rfl tt_348 rfl (by decide) (js_can z σ (a1) (by omega)) (fun (h1 : 0 ≤ a1 ∧ a1 ≤ 255) => ?_) (fun (h1 : ¬ (0 ≤ a1 ∧ a1 ≤ 255)) => ?_)
  ·
    refine wk_if tt_350 (tgt := 9) rfl rfl (by decide) (fun _ => ?_) (fun (h : 1 = 0) => absurd h (by decide))
    refine wk_b tt_350 2 (pc' := 11) (ls' := [(0, .inr (.inr (.retAddr 1001))), (1, .inl (a1)), (2, .inl (0)), (3, .inl (18))]) (st' := [.inl (0), .inl (0)]) (σ' := σ) rfl ?_
    refine wk_max (k0 := 0) tt_350 rfl (by decide) (by decide) rfl ?_
    rw [show (if (0 : Int) < 0 then (0 : Int) else 0) = 0 from by decide]
    refine wk_b tt_350 4 (pc' := 18) (ls' := [(2, .inl (0)), (0, .inr (.inr (.retAddr 1001))), (1, .inl (a1)), (3, .inl (18))]) (st' := [.inl (18), .inl (18)]) (σ' := σ) rfl ?_
    refine wk_min (k0 := 0) tt_350 rfl (by decide) (by decide) rfl ?_
    rw [show (if (18 : Int) < 18 then (18 : Int) else 18) = 18 from by decide]
    refine wk_b tt_350 3 (pc' := 24) (ls' := [(3, .inl (18)), (2, .inl (0)), (0, .inr (.inr (.retAddr 1001))), (1, .inl (a1))]) (st' := [.inl (18), .inl (0)]) (σ' := σ) rfl ?_
    refine wk_if2 tt_350 (tgt := 29) rfl rfl (by decide) (by decide) (fun _ => ?_) (fun (h : 18 ≤ 0) => absurd h (by decide))
    refine wk_b tt_350 4 (pc' := 33) (ls' := [(3, .inl (18)), (2, .inl (0)), (0, .inr (.inr (.retAddr 1001))), (1, .inl (a1))]) (st' := [.inl (18), .inl (0), .inl (a1), .inr (.inr (.retAddr 1001))]) (σ' := σ) rfl ?_
    refine wk_call tt_350 rfl rfl rfl rfl rfl tt_351 rfl (by decide) (js_char z σ (a1) (by omega) (by omega)) (fun w4 σ5 hq6 => ?_)
    obtain ⟨q8, rfl, hF7, p9⟩ := hq6
    refine wk_rI tt_350 rfl rfl ?_
    exact ⟨_, rfl, hF7, p9⟩
  ·
    refine wk_if tt_350 (tgt := 9) rfl rfl (by decide) (fun (h : ¬ 0 = 0) => absurd h (by decide)) (fun _ => ?_)
    refine wk_b tt_350 1 (pc' := 8) (ls' := [(0, .inr (.inr (.retAddr 1001))), (1, .inl (a1)), (2, .inl (0)), (3, .inl (18))]) (st' := [.inl ((-1))]) (σ' := σ) rfl ?_
    refine wk_rI tt_350 rfl rfl ?_
    exfalso; omega
-- java/lang/String.indexOf
set_option maxRecDepth 8000 in
theorem js_idx2 (z : Value) (σ : sg_S) (a1 : Int) (g0 : 0 ≤ a1) (g1 : a1 ≤ 255) : wx z 2 345 0 [(0, .inr (.inr (.retAddr 1))), (1, .inl (a1)), (2, .inl (0))] [] σ (fun v σ' => ∃ q, v = some (.inl q) ∧ sg_F [] σ σ' ∧ (0 ≤ q ∧ q ≤ 200 ∧ lx_s a1 = true ∨ q = -1 ∧ lx_s a1 = false)) := by
  refine wk_b tt_345 1 (pc' := 1) (ls' := [(0, .inr (.inr (.retAddr 1))), (1, .inl (a1)), (2, .inl (0))]) (st' := [.inr (.inr (.retAddr 1))]) (σ' := σ) rfl ?_
  refine wk_callp tt_345 rfl rfl rfl rfl rfl tt_346 rfl (by decide) (js_latin z σ) ?_
  refine wk_if tt_345 (tgt := 23) rfl rfl (by decide) (fun (h : 1 = 0) => absurd h (by decide)) (fun _ => ?_)
  refine wk_b tt_345 5 (pc' := 14) (ls' := [(0, .inr (.inr (.retAddr 1))), (1, .inl (a1)), (2, .inl (0))]) (st' := [.inr (.inr (.retAddr 1)), .inl (0), .inl (a1), .inr (.inr (.retAddr 1001))]) (σ' := σ) rfl ?_
  refine wk_callp tt_345 rfl rfl rfl rfl rfl tt_347 rfl (by decide) (js_length z σ) ?_
  refine wk_call tt_345 rfl rfl rfl rfl rfl tt_350 rfl (by decide) (js_idx4 z σ (a1) (by omega) (by omega)) (fun w2 σ3 hq4 => ?_)
  obtain ⟨q6, rfl, hF5, p7⟩ := hq4
  refine wk_b tt_345 1 (pc' := 36) (ls' := [(0, .inr (.inr (.retAddr 1))), (1, .inl (a1)), (2, .inl (0))]) (st' := [.inl (q6)]) (σ' := σ3) rfl ?_
  refine wk_rI tt_345 rfl rfl ?_
  exact ⟨_, rfl, hF5, p7⟩
-- java/lang/String.indexOf
set_option maxRecDepth 8000 in
theorem js_idx (z : Value) (σ : sg_S) (a1 : Int) (g0 : 0 ≤ a1) (g1 : a1 ≤ 255) : wx z 3 344 0 [(0, .inr (.inr (.retAddr 1))), (1, .inl (a1))] [] σ (fun v σ' => ∃ q, v = some (.inl q) ∧ sg_F [] σ σ' ∧ (0 ≤ q ∧ q ≤ 200 ∧ lx_s a1 = true ∨ q = -1 ∧ lx_s a1 = false)) := by
  refine wk_b tt_344 3 (pc' := 3) (ls' := [(0, .inr (.inr (.retAddr 1))), (1, .inl (a1))]) (st' := [.inl (0), .inl (a1), .inr (.inr (.retAddr 1))]) (σ' := σ) rfl ?_
  refine wk_call tt_344 rfl rfl rfl rfl rfl tt_345 rfl (by decide) (js_idx2 z σ (a1) (by omega) (by omega)) (fun w1 σ2 hq3 => ?_)
  obtain ⟨q5, rfl, hF4, p6⟩ := hq3
  refine wk_rI tt_344 rfl rfl ?_
  exact ⟨_, rfl, hF4, p6⟩
-- NestedVectors$Tokens.advance
set_option maxRecDepth 8000 in
theorem tk_adv (z : Value) (σ : sg_S) (h0 : 0 ≤ sg_g σ 36 3) (h1 : sg_g σ 36 2 ≤ 1200) (h2 : sg_g σ 36 3 ≤ sg_g σ 36 2) (hk : ¬ sg_g σ 36 4 = 260) : wx z 4 195 0 [(0, .inr (.inr (.ref 36)))] [] σ (fun v σ' => v = none ∧ sg_F [4036, 5036, 6036, 7036, 8036] σ σ' ∧ sg_g σ' 36 5 = lx_end (tb σ) (sg_g σ 36 2) lx_b (sg_g σ 36 3) ∧ sg_g σ' 36 4 = lx_kind (tb σ) (sg_g σ 36 2) (sg_gl σ 37) (lx_end (tb σ) (sg_g σ 36 2) lx_b (sg_g σ 36 3)) ∧ sg_g σ' 36 3 = lx_next (tb σ) (sg_g σ 36 2) (lx_end (tb σ) (sg_g σ 36 2) lx_b (sg_g σ 36 3)) ∧ (lx_end (tb σ) (sg_g σ 36 2) lx_b (sg_g σ 36 3) < sg_g σ 36 2 → lx_l (tb σ (lx_end (tb σ) (sg_g σ 36 2) lx_b (sg_g σ 36 3))) = true → lx_end (tb σ) (sg_g σ 36 2) lx_a (lx_end (tb σ) (sg_g σ 36 2) lx_b (sg_g σ 36 3)) - (lx_end (tb σ) (sg_g σ 36 2) lx_b (sg_g σ 36 3)) ≤ 8 → sg_gl σ' 36 7 = lx_pk (tb σ) (lx_end (tb σ) (sg_g σ 36 2) lx_b (sg_g σ 36 3)) (lx_end (tb σ) (sg_g σ 36 2) lx_a (lx_end (tb σ) (sg_g σ 36 2) lx_b (sg_g σ 36 3)) - (lx_end (tb σ) (sg_g σ 36 2) lx_b (sg_g σ 36 3))).toNat) ∧ (¬ (lx_end (tb σ) (sg_g σ 36 2) lx_b (sg_g σ 36 3) < sg_g σ 36 2 ∧ lx_l (tb σ (lx_end (tb σ) (sg_g σ 36 2) lx_b (sg_g σ 36 3))) = true) → sg_gl σ' 36 7 = sg_gl σ 36 7) ∧ sg_g σ' 36 6 = lx_num (tb σ) (sg_g σ 36 2) (lx_end (tb σ) (sg_g σ 36 2) lx_b (sg_g σ 36 3)) (sg_g σ 36 6)) := by
  refine wk_b tt_195 3 (pc' := 7) (ls' := [(0, .inr (.inr (.ref 36)))]) (st' := [.inl (260), .inl ((sg_g σ 36 4))]) (σ' := σ) rfl ?_
  have r1 := sg_Rg σ 36 4
  refine wk_if2 tt_195 (tgt := 11) rfl rfl (by omega) (by decide) (fun (h2 : ¬ (sg_g σ 36 4) = 260) => ?_) (fun (h : (sg_g σ 36 4) = 260) => absurd h (by omega))
  have lp7 : ∀ (m6 : Nat) (σ3 : sg_S), sg_F [4036, 5036, 6036, 7036, 8036] σ σ3 → (sg_g σ 36 3 ≤ sg_g σ3 36 3 ∧ sg_g σ3 36 3 ≤ sg_g σ 36 2 ∧ (∀ t, sg_g σ 36 3 ≤ t → t < sg_g σ3 36 3 → t < sg_g σ 36 2 ∧ lx_b (tb σ t) = true) ∧ sg_gl σ3 36 7 = sg_gl σ 36 7 ∧ sg_g σ3 36 6 = sg_g σ 36 6) → (sg_g σ 36 2 - sg_g σ3 36 3).toNat = m6 → wx z 4 195 11 [(0, .inr (.inr (.ref 36)))] [] σ3 (fun v σ' => v = none ∧ sg_F [4036, 5036, 6036, 7036, 8036] σ σ' ∧ sg_g σ' 36 5 = lx_end (tb σ) (sg_g σ 36 2) lx_b (sg_g σ 36 3) ∧ sg_g σ' 36 4 = lx_kind (tb σ) (sg_g σ 36 2) (sg_gl σ 37) (lx_end (tb σ) (sg_g σ 36 2) lx_b (sg_g σ 36 3)) ∧ sg_g σ' 36 3 = lx_next (tb σ) (sg_g σ 36 2) (lx_end (tb σ) (sg_g σ 36 2) lx_b (sg_g σ 36 3)) ∧ (lx_end (tb σ) (sg_g σ 36 2) lx_b (sg_g σ 36 3) < sg_g σ 36 2 → lx_l (tb σ (lx_end (tb σ) (sg_g σ 36 2) lx_b (sg_g σ 36 3))) = true → lx_end (tb σ) (sg_g σ 36 2) lx_a (lx_end (tb σ) (sg_g σ 36 2) lx_b (sg_g σ 36 3)) - (lx_end (tb σ) (sg_g σ 36 2) lx_b (sg_g σ 36 3)) ≤ 8 → sg_gl σ' 36 7 = lx_pk (tb σ) (lx_end (tb σ) (sg_g σ 36 2) lx_b (sg_g σ 36 3)) (lx_end (tb σ) (sg_g σ 36 2) lx_a (lx_end (tb σ) (sg_g σ 36 2) lx_b (sg_g σ 36 3)) - (lx_end (tb σ) (sg_g σ 36 2) lx_b (sg_g σ 36 3))).toNat) ∧ (¬ (lx_end (tb σ) (sg_g σ 36 2) lx_b (sg_g σ 36 3) < sg_g σ 36 2 ∧ lx_l (tb σ (lx_end (tb σ) (sg_g σ 36 2) lx_b (sg_g σ 36 3))) = true) → sg_gl σ' 36 7 = sg_gl σ 36 7) ∧ sg_g σ' 36 6 = lx_num (tb σ) (sg_g σ 36 2) (lx_end (tb σ) (sg_g σ 36 2) lx_b (sg_g σ 36 3)) (sg_g σ 36 6)) := by
    intro m6
    induction m6 using Nat.strongRecOn with
    | _ m6 ih5 =>
      intro σ3 hF4 hI8 hm9
      obtain ⟨i1, i2, i3, i4, i5⟩ := hI8
      refine wk_b tt_195 4 (pc' := 19) (ls' := [(0, .inr (.inr (.ref 36)))]) (st' := [.inl ((sg_g σ3 36 2)), .inl ((sg_g σ3 36 3))]) (σ' := σ3) rfl ?_
      have r10 := sg_Rg σ3 36 3
      have r11 := sg_Rg σ 36 2
      rw [show (sg_g σ3 36 2) = (sg_g σ 36 2) from by rw [sg_F_g hF4 rfl]]
      refine wk_if2 tt_195 (tgt := 53) rfl rfl (by omega) (by omega) (fun (h12 : (sg_g σ 36 2) ≤ (sg_g σ3 36 3)) => ?_) (fun (h12 : (sg_g σ3 36 3) < (sg_g σ 36 2)) => ?_)
      ·
        refine wk_b tt_195 5 (pc' := 62) (ls' := [(0, .inr (.inr (.ref 36)))]) (st' := [.inr (.inr (.ref 36))]) (σ' := (sg_w σ3 36 5 ((sg_g σ3 36 3)))) rfl ?_
        refine wk_callp tt_195 rfl rfl rfl rfl rfl tt_196 rfl (by decide) (tk_ah z (sg_w σ3 36 5 ((sg_g σ3 36 3))) (by rw [sg_gw_k _ _ _ _ _ _ (by decide)] <;> omega) (by rw [sg_gw_k _ _ _ _ _ _ (by decide), sg_F_g hF4 rfl] <;> omega)) ?_
        have hc14 : (sg_g σ3 36 3) < (sg_g σ 36 2) → (tk_av (sg_w σ3 36 5 ((sg_g σ3 36 3)))) = tb σ (sg_g σ3 36 3) := fun q => tk_av_in (by rw [sg_gw_k _ _ _ _ _ _ (by decide)]) (by rw [sg_gw_k _ _ _ _ _ _ (by decide), sg_F_g hF4 rfl]) (fun q => by rw [sg_gw_c _ _ _ _ _ _ (by decide), sg_F_ga hF4 rfl]) q
        have rc15 := tk_avR (sg_w σ3 36 5 ((sg_g σ3 36 3)))
        generalize (tk_av (sg_w σ3 36 5 ((sg_g σ3 36 3)))) = c13 at hc14 rc15 ⊢
        refine wk_b tt_195 5 (pc' := 74) (ls' := [(1, .inl (c13)), (0, .inr (.inr (.ref 36)))]) (st' := [.inl ((sg_g (sg_w σ3 36 5 ((sg_g σ3 36 3))) 36 2)), .inl ((sg_g (sg_w σ3 36 5 ((sg_g σ3 36 3))) 36 3))]) (σ' := (sg_w σ3 36 5 ((sg_g σ3 36 3)))) rfl ?_
        rw [show (sg_g (sg_w σ3 36 5 ((sg_g σ3 36 3))) 36 3) = (sg_g σ3 36 3) from by rw [sg_gw_k _ _ _ _ _ _ (by decide)]]
        rw [show (sg_g (sg_w σ3 36 5 ((sg_g σ3 36 3))) 36 2) = (sg_g σ 36 2) from by rw [sg_gw_k _ _ _ _ _ _ (by decide), sg_F_g hF4 rfl]]
        refine wk_if2 tt_195 (tgt := 87) rfl rfl (by omega) (by omega) (fun (h16 : (sg_g σ3 36 3) < (sg_g σ 36 2)) => ?_) (fun (h16 : (sg_g σ 36 2) ≤ (sg_g σ3 36 3)) => ?_)
        ·
          refine wk_b tt_195 1 (pc' := 88) (ls' := [(1, .inl (c13)), (0, .inr (.inr (.ref 36)))]) (st' := [.inl (c13)]) (σ' := (sg_w σ3 36 5 ((sg_g σ3 36 3)))) rfl ?_
          refine wk_callb tt_195 rfl rfl rfl rfl rfl tt_197 rfl (by decide) (tk_isDigit z (sg_w σ3 36 5 ((sg_g σ3 36 3))) (c13) (by omega)) (fun (h17 : 48 ≤ c13 ∧ c13 ≤ 57) => ?_) (fun (h17 : ¬ (48 ≤ c13 ∧ c13 ≤ 57)) => ?_)
          ·
            refine wk_if tt_195 (tgt := 101) rfl rfl (by decide) (fun (h : 1 = 0) => absurd h (by decide)) (fun _ => ?_)
            refine wk_b tt_195 1 (pc' := 95) (ls' := [(1, .inl (c13)), (0, .inr (.inr (.ref 36)))]) (st' := [.inr (.inr (.ref 36))]) (σ' := (sg_w σ3 36 5 ((sg_g σ3 36 3)))) rfl ?_
            refine wk_call tt_195 rfl rfl rfl rfl rfl tt_201 rfl (by decide) (tk_num z (sg_w σ3 36 5 ((sg_g σ3 36 3))) (by rw [show sg_g (sg_w σ3 36 5 ((sg_g σ3 36 3))) 36 3 = (sg_g σ3 36 3) from by rw [sg_gw_k _ _ _ _ _ _ (by decide)]] <;> omega) (by rw [show sg_g (sg_w σ3 36 5 ((sg_g σ3 36 3))) 36 2 = (sg_g σ 36 2) from by rw [sg_gw_k _ _ _ _ _ _ (by decide), sg_F_g hF4 rfl]] <;> omega) (by rw [show sg_g (sg_w σ3 36 5 ((sg_g σ3 36 3))) 36 3 = (sg_g σ3 36 3) from by rw [sg_gw_k _ _ _ _ _ _ (by decide)], show sg_g (sg_w σ3 36 5 ((sg_g σ3 36 3))) 36 2 = (sg_g σ 36 2) from by rw [sg_gw_k _ _ _ _ _ _ (by decide), sg_F_g hF4 rfl]] <;> omega) (by rw [show sg_g (sg_w σ3 36 5 ((sg_g σ3 36 3))) 36 5 = (sg_g σ3 36 3) from by rw [sg_gw_e _ _ _ _ (by omega)], show sg_g (sg_w σ3 36 5 ((sg_g σ3 36 3))) 36 3 = (sg_g σ3 36 3) from by rw [sg_gw_k _ _ _ _ _ _ (by decide)]] <;> omega)) (fun w19 σ20 hq21 => ?_)
            obtain ⟨rfl, hF22, p23, p24, pN⟩ := hq21
            refine wk_b tt_195 1 (pc' := 150) (ls' := [(1, .inl (c13)), (0, .inr (.inr (.ref 36)))]) (st' := []) (σ' := σ20) rfl ?_
            refine wk_rV tt_195 rfl rfl ?_
            first
            | (exfalso; omega)
            | (
              have nn : ¬ (sg_g σ 36 2 ≤ sg_g σ3 36 3) ∨ sg_g σ 36 2 ≤ sg_g σ3 36 3 := by omega
              have ee : lx_end (tb σ) (sg_g σ 36 2) lx_b (sg_g σ 36 3) = sg_g σ3 36 3 := lx_end_eq i1 i3 (by first | exact Or.inl (by omega) | exact Or.inr (decide_eq_false (by omega)))
              have tt1 : tb (sg_w σ3 36 5 ((sg_g σ3 36 3))) = tb σ := tb_eq (fun q => by rw [sg_gw_c _ _ _ _ _ _ (by decide), sg_F_ga hF4 rfl])
              have hcc := hc14 (by omega)
              rw [tt1, show sg_g (sg_w σ3 36 5 ((sg_g σ3 36 3))) 36 2 = (sg_g σ 36 2) from by rw [sg_gw_k _ _ _ _ _ _ (by decide), sg_F_g hF4 rfl], show sg_g (sg_w σ3 36 5 ((sg_g σ3 36 3))) 36 3 = (sg_g σ3 36 3) from by rw [sg_gw_k _ _ _ _ _ _ (by decide)]] at p23 p24 pN
              have dd : lx_d (tb σ (sg_g σ3 36 3)) = true := decide_eq_true (by omega)
              refine ⟨rfl, (sg_F_t (sg_F_w hF4 rfl _) (sg_F_m (L := [4036, 5036, 6036, 7036, 8036]) hF22 rfl)), ?_, ?_, ?_, fun z1 z2 z3 => ?_, fun z4 => ?_, ?_⟩
              · rw [ee, sg_F_g hF22 rfl, sg_gw_e _ _ _ _ (by omega)]
              · rw [ee, p24]; unfold lx_kind; rw [if_neg (show ¬ sg_g σ 36 2 ≤ sg_g σ3 36 3 by omega), if_pos dd]
              · rw [ee, p23]; unfold lx_next; rw [if_neg (show ¬ sg_g σ 36 2 ≤ sg_g σ3 36 3 by omega), if_pos dd]
              · rw [ee] at z2; unfold lx_l at z2; have := of_decide_eq_true z2; exfalso; omega
              · rw [sg_F_gl hF22 rfl, sg_gw', i4]
              · rw [ee]; unfold lx_num; rw [if_pos ⟨by omega, dd⟩]; exact pN)
          ·
            refine wk_if tt_195 (tgt := 101) rfl rfl (by decide) (fun _ => ?_) (fun (h : ¬ 0 = 0) => absurd h (by decide))
            refine wk_b tt_195 1 (pc' := 102) (ls' := [(1, .inl (c13)), (0, .inr (.inr (.ref 36)))]) (st' := [.inl (c13)]) (σ' := (sg_w σ3 36 5 ((sg_g σ3 36 3)))) rfl ?_
            refine wk_callb tt_195 rfl rfl rfl rfl rfl tt_198 rfl (by decide) (tk_isLetter z (sg_w σ3 36 5 ((sg_g σ3 36 3))) (c13) (by omega)) (fun (h26 : 97 ≤ c13 ∧ c13 ≤ 122) => ?_) (fun (h26 : ¬ (97 ≤ c13 ∧ c13 ≤ 122)) => ?_)
            ·
              refine wk_if tt_195 (tgt := 115) rfl rfl (by decide) (fun (h : 1 = 0) => absurd h (by decide)) (fun _ => ?_)
              refine wk_b tt_195 1 (pc' := 109) (ls' := [(1, .inl (c13)), (0, .inr (.inr (.ref 36)))]) (st' := [.inr (.inr (.ref 36))]) (σ' := (sg_w σ3 36 5 ((sg_g σ3 36 3)))) rfl ?_
              refine wk_call tt_195 rfl rfl rfl rfl rfl tt_202 rfl (by decide) (tk_wrd z (sg_w σ3 36 5 ((sg_g σ3 36 3))) (by rw [show sg_g (sg_w σ3 36 5 ((sg_g σ3 36 3))) 36 3 = (sg_g σ3 36 3) from by rw [sg_gw_k _ _ _ _ _ _ (by decide)]] <;> omega) (by rw [show sg_g (sg_w σ3 36 5 ((sg_g σ3 36 3))) 36 2 = (sg_g σ 36 2) from by rw [sg_gw_k _ _ _ _ _ _ (by decide), sg_F_g hF4 rfl]] <;> omega) (by rw [show sg_g (sg_w σ3 36 5 ((sg_g σ3 36 3))) 36 3 = (sg_g σ3 36 3) from by rw [sg_gw_k _ _ _ _ _ _ (by decide)], show sg_g (sg_w σ3 36 5 ((sg_g σ3 36 3))) 36 2 = (sg_g σ 36 2) from by rw [sg_gw_k _ _ _ _ _ _ (by decide), sg_F_g hF4 rfl]] <;> omega) (by rw [show sg_g (sg_w σ3 36 5 ((sg_g σ3 36 3))) 36 5 = (sg_g σ3 36 3) from by rw [sg_gw_e _ _ _ _ (by omega)], show sg_g (sg_w σ3 36 5 ((sg_g σ3 36 3))) 36 3 = (sg_g σ3 36 3) from by rw [sg_gw_k _ _ _ _ _ _ (by decide)]] <;> omega)) (fun w28 σ29 hq30 => ?_)
              obtain ⟨rfl, hF31, p32, p33, p34⟩ := hq30
              refine wk_b tt_195 1 (pc' := 150) (ls' := [(1, .inl (c13)), (0, .inr (.inr (.ref 36)))]) (st' := []) (σ' := σ29) rfl ?_
              refine wk_rV tt_195 rfl rfl ?_
              first
              | (exfalso; omega)
              | (
                have nn : ¬ (sg_g σ 36 2 ≤ sg_g σ3 36 3) ∨ sg_g σ 36 2 ≤ sg_g σ3 36 3 := by omega
                have ee : lx_end (tb σ) (sg_g σ 36 2) lx_b (sg_g σ 36 3) = sg_g σ3 36 3 := lx_end_eq i1 i3 (by first | exact Or.inl (by omega) | exact Or.inr (decide_eq_false (by omega)))
                have tt1 : tb (sg_w σ3 36 5 ((sg_g σ3 36 3))) = tb σ := tb_eq (fun q => by rw [sg_gw_c _ _ _ _ _ _ (by decide), sg_F_ga hF4 rfl])
                have hcc := hc14 (by omega)
                have tt2 : sg_gl (sg_w σ3 36 5 ((sg_g σ3 36 3))) 37 = sg_gl σ 37 := funext (fun q => by rw [sg_gw', sg_F_gal hF4 rfl])
                rw [tt1, show sg_g (sg_w σ3 36 5 ((sg_g σ3 36 3))) 36 2 = (sg_g σ 36 2) from by rw [sg_gw_k _ _ _ _ _ _ (by decide), sg_F_g hF4 rfl], show sg_g (sg_w σ3 36 5 ((sg_g σ3 36 3))) 36 3 = (sg_g σ3 36 3) from by rw [sg_gw_k _ _ _ _ _ _ (by decide)], tt2] at p33
                rw [tt1, show sg_g (sg_w σ3 36 5 ((sg_g σ3 36 3))) 36 2 = (sg_g σ 36 2) from by rw [sg_gw_k _ _ _ _ _ _ (by decide), sg_F_g hF4 rfl], show sg_g (sg_w σ3 36 5 ((sg_g σ3 36 3))) 36 3 = (sg_g σ3 36 3) from by rw [sg_gw_k _ _ _ _ _ _ (by decide)]] at p32
                rw [tt1, show sg_g (sg_w σ3 36 5 ((sg_g σ3 36 3))) 36 2 = (sg_g σ 36 2) from by rw [sg_gw_k _ _ _ _ _ _ (by decide), sg_F_g hF4 rfl], show sg_g (sg_w σ3 36 5 ((sg_g σ3 36 3))) 36 3 = (sg_g σ3 36 3) from by rw [sg_gw_k _ _ _ _ _ _ (by decide)]] at p34
                have dd : ¬ lx_d (tb σ (sg_g σ3 36 3)) = true := fun q => by unfold lx_d at q; have := of_decide_eq_true q; omega
                have ll : lx_l (tb σ (sg_g σ3 36 3)) = true := decide_eq_true (by omega)
                refine ⟨rfl, (sg_F_t (sg_F_w hF4 rfl _) (sg_F_m (L := [4036, 5036, 6036, 7036, 8036]) hF31 rfl)), ?_, ?_, ?_, fun z1 z2 z3 => ?_, fun z4 => ?_, ?_⟩
                · rw [ee, sg_F_g hF31 rfl, sg_gw_e _ _ _ _ (by omega)]
                · rw [ee, p33]; unfold lx_kind; rw [if_neg (show ¬ sg_g σ 36 2 ≤ sg_g σ3 36 3 by omega), if_neg dd, if_pos ll]
                · rw [ee, p32]; unfold lx_next; rw [if_neg (show ¬ sg_g σ 36 2 ≤ sg_g σ3 36 3 by omega), if_neg dd, if_pos ll]
                · rw [ee] at z3 ⊢; exact p34 z3
                · rw [ee] at z4; exact absurd ⟨by omega, ll⟩ z4
                · rw [ee]; unfold lx_num; rw [if_neg (fun q => dd q.2), sg_F_g hF31 rfl, sg_gw_k _ _ _ _ _ _ (by decide), i5])
            ·
              refine wk_if tt_195 (tgt := 115) rfl rfl (by decide) (fun _ => ?_) (fun (h : ¬ 0 = 0) => absurd h (by decide))
              refine wk_b tt_195 3 (pc' := 119) (ls' := [(1, .inl (c13)), (0, .inr (.inr (.ref 36)))]) (st' := [.inl (((((sg_i (c13)).toUInt32 % 65536).toInt32).toInt)), .inr (.inr (.retAddr 1))]) (σ' := (sg_w σ3 36 5 ((sg_g σ3 36 3)))) rfl ?_
              rw [lx_i2c (x := c13) (by omega) (by omega)]
              refine wk_call tt_195 rfl rfl rfl rfl rfl tt_344 rfl (by decide) (js_idx z (sg_w σ3 36 5 ((sg_g σ3 36 3))) (c13) (by omega) (by omega)) (fun w36 σ37 hq38 => ?_)
              obtain ⟨q40, rfl, hF39, p41⟩ := hq38
              refine wk_if tt_195 (tgt := 143) rfl rfl (by omega) (fun (h42 : q40 < 0) => ?_) (fun (h42 : 0 ≤ q40) => ?_)
              ·
                refine wk_b tt_195 3 (pc' := 150) (ls' := [(1, .inl (c13)), (0, .inr (.inr (.ref 36)))]) (st' := []) (σ' := (sg_w σ37 36 4 (259))) rfl ?_
                refine wk_rV tt_195 rfl rfl ?_
                first
                | (exfalso; omega)
                | (
                  have nn : ¬ (sg_g σ 36 2 ≤ sg_g σ3 36 3) ∨ sg_g σ 36 2 ≤ sg_g σ3 36 3 := by omega
                  have hcc := hc14 (by omega)
                  have dd : ¬ lx_d (tb σ (sg_g σ3 36 3)) = true := fun q => by unfold lx_d at q; have := of_decide_eq_true q; omega
                  have ll : ¬ lx_l (tb σ (sg_g σ3 36 3)) = true := fun q => by unfold lx_l at q; have := of_decide_eq_true q; omega
                  have ss : ¬ lx_s (tb σ (sg_g σ3 36 3)) = true := by rw [← hcc]; rcases p41 with ⟨u1, u2, u3⟩ | ⟨u1, u2⟩; (exfalso; omega); (rw [u2]; decide)
                  have ee : lx_end (tb σ) (sg_g σ 36 2) lx_b (sg_g σ 36 3) = sg_g σ3 36 3 := lx_end_eq i1 i3 (by first | exact Or.inl (by omega) | exact Or.inr (decide_eq_false (by omega)))
                  refine ⟨rfl, (sg_F_w (sg_F_t (sg_F_w hF4 rfl _) (sg_F_m (L := [4036, 5036, 6036, 7036, 8036]) hF39 rfl)) rfl _), ?_, ?_, ?_, fun z1 z2 z3 => ?_, fun z4 => ?_, ?_⟩
                  · rw [ee, sg_gw_k _ _ _ _ _ _ (by decide), sg_F_ga hF39 rfl, sg_gw_e _ _ _ _ (by omega)]
                  · rw [ee, sg_gw_e _ _ _ _ (by decide)]; unfold lx_kind; rw [if_neg (show ¬ sg_g σ 36 2 ≤ sg_g σ3 36 3 by omega), if_neg dd, if_neg ll, if_neg ss]
                  · rw [ee, sg_gw_k _ _ _ _ _ _ (by decide), sg_F_ga hF39 rfl, sg_gw_k _ _ _ _ _ _ (by decide)]; unfold lx_next; rw [if_neg (show ¬ sg_g σ 36 2 ≤ sg_g σ3 36 3 by omega), if_neg dd, if_neg ll, if_neg ss]
                  · rw [ee] at z2; exact absurd z2 ll
                  · rw [sg_gw', sg_F_gal hF39 rfl, sg_gw', i4]
                  · rw [ee]; unfold lx_num; rw [if_neg (fun q => dd q.2), sg_gw_k _ _ _ _ _ _ (by decide), sg_F_g hF39 rfl, sg_gw_k _ _ _ _ _ _ (by decide), i5])
              ·
                refine wk_b tt_195 10 (pc' := 150) (ls' := [(1, .inl (c13)), (0, .inr (.inr (.ref 36)))]) (st' := []) (σ' := (sg_w (sg_w σ37 36 4 (c13)) 36 3 (((sg_g (sg_w σ37 36 4 (c13)) 36 3) + 1)))) rfl ?_
                rw [show (sg_g (sg_w σ37 36 4 (c13)) 36 3) = (sg_g σ3 36 3) from by rw [sg_gw_k _ _ _ _ _ _ (by decide), sg_F_ga hF39 rfl, sg_gw_k _ _ _ _ _ _ (by decide)]]
                refine wk_rV tt_195 rfl rfl ?_
                first
                | (exfalso; omega)
                | (
                  have nn : ¬ (sg_g σ 36 2 ≤ sg_g σ3 36 3) ∨ sg_g σ 36 2 ≤ sg_g σ3 36 3 := by omega
                  have hcc := hc14 (by omega)
                  have dd : ¬ lx_d (tb σ (sg_g σ3 36 3)) = true := fun q => by unfold lx_d at q; have := of_decide_eq_true q; omega
                  have ll : ¬ lx_l (tb σ (sg_g σ3 36 3)) = true := fun q => by unfold lx_l at q; have := of_decide_eq_true q; omega
                  have ss : lx_s (tb σ (sg_g σ3 36 3)) = true := by rw [← hcc]; rcases p41 with ⟨u1, u2, u3⟩ | ⟨u1, u2⟩; exact u3; (exfalso; omega)
                  have ee : lx_end (tb σ) (sg_g σ 36 2) lx_b (sg_g σ 36 3) = sg_g σ3 36 3 := lx_end_eq i1 i3 (by first | exact Or.inl (by omega) | exact Or.inr (decide_eq_false (by omega)))
                  refine ⟨rfl, (sg_F_w (sg_F_w (sg_F_t (sg_F_w hF4 rfl _) (sg_F_m (L := [4036, 5036, 6036, 7036, 8036]) hF39 rfl)) rfl _) rfl _), ?_, ?_, ?_, fun z1 z2 z3 => ?_, fun z4 => ?_, ?_⟩
                  · rw [ee, sg_gw_k _ _ _ _ _ _ (by decide), sg_gw_k _ _ _ _ _ _ (by decide), sg_F_ga hF39 rfl, sg_gw_e _ _ _ _ (by omega)]
                  · rw [ee, sg_gw_k _ _ _ _ _ _ (by decide), sg_gw_e _ _ _ _ (by omega)]; unfold lx_kind; rw [if_neg (show ¬ sg_g σ 36 2 ≤ sg_g σ3 36 3 by omega), if_neg dd, if_neg ll, if_pos ss]; exact hcc
                  · rw [ee, sg_gw_e _ _ _ _ (by omega)]; unfold lx_next; rw [if_neg (show ¬ sg_g σ 36 2 ≤ sg_g σ3 36 3 by omega), if_neg dd, if_neg ll, if_pos ss]
                  · rw [ee] at z2; exact absurd z2 ll
                  · rw [sg_gw', sg_gw', sg_F_gal hF39 rfl, sg_gw', i4]
                  · rw [ee]; unfold lx_num; rw [if_neg (fun q => dd q.2), sg_gw_k _ _ _ _ _ _ (by decide), sg_gw_k _ _ _ _ _ _ (by decide), sg_F_g hF39 rfl, sg_gw_k _ _ _ _ _ _ (by decide), i5])
        ·
          refine wk_b tt_195 4 (pc' := 150) (ls' := [(1, .inl (c13)), (0, .inr (.inr (.ref 36)))]) (st' := []) (σ' := (sg_w (sg_w σ3 36 5 ((sg_g σ3 36 3))) 36 4 (256))) rfl ?_
          refine wk_rV tt_195 rfl rfl ?_
          first
          | (exfalso; omega)
          | (
            have nn : ¬ (sg_g σ 36 2 ≤ sg_g σ3 36 3) ∨ sg_g σ 36 2 ≤ sg_g σ3 36 3 := by omega
            have ee : lx_end (tb σ) (sg_g σ 36 2) lx_b (sg_g σ 36 3) = sg_g σ3 36 3 := lx_end_eq i1 i3 (by first | exact Or.inl (by omega) | exact Or.inr (decide_eq_false (by omega)))
            refine ⟨rfl, (sg_F_w (sg_F_w hF4 rfl _) rfl _), ?_, ?_, ?_, fun z1 z2 z3 => ?_, fun z4 => ?_, ?_⟩
            · rw [ee, sg_gw_k _ _ _ _ _ _ (by decide), sg_gw_e _ _ _ _ (by omega)]
            · rw [ee, sg_gw_e _ _ _ _ (by decide)]; unfold lx_kind; rw [if_pos (show sg_g σ 36 2 ≤ sg_g σ3 36 3 by omega)]
            · rw [ee, sg_gw_k _ _ _ _ _ _ (by decide), sg_gw_k _ _ _ _ _ _ (by decide)]; unfold lx_next; rw [if_pos (show sg_g σ 36 2 ≤ sg_g σ3 36 3 by omega)]
            · rw [ee] at z1; exfalso; omega
            · rw [sg_gw', sg_gw', i4]
            · rw [ee]; unfold lx_num; rw [if_neg (fun q => by omega), sg_gw_k _ _ _ _ _ _ (by decide), sg_gw_k _ _ _ _ _ _ (by decide), i5])
      ·
        refine wk_b tt_195 1 (pc' := 23) (ls' := [(0, .inr (.inr (.ref 36)))]) (st' := [.inr (.inr (.ref 36))]) (σ' := σ3) rfl ?_
        refine wk_callp tt_195 rfl rfl rfl rfl rfl tt_196 rfl (by decide) (tk_ah z σ3 (by omega) (by rw [sg_F_g hF4 rfl] <;> omega)) ?_
        rw [tk_av_in (σ := σ) (p := (sg_g σ3 36 3)) (n := (sg_g σ 36 2)) rfl (by rw [sg_F_g hF4 rfl]) (fun q => by rw [sg_F_ga hF4 rfl]) (by omega)]
        have b43 := tb_r σ (sg_g σ3 36 3)
        refine wk_b tt_195 1 (pc' := 28) (ls' := [(0, .inr (.inr (.ref 36)))]) (st' := [.inl (32), .inl ((tb σ (sg_g σ3 36 3)))]) (σ' := σ3) rfl ?_
        refine wk_if2 tt_195 (tgt := 40) rfl rfl (by omega) (by decide) (fun (h44 : (tb σ (sg_g σ3 36 3)) = 32) => ?_) (fun (h44 : ¬ (tb σ (sg_g σ3 36 3)) = 32) => ?_)
        ·
          refine wk_b tt_195 7 (pc' := 11) (ls' := [(0, .inr (.inr (.ref 36)))]) (st' := []) (σ' := (sg_w σ3 36 3 (((sg_g σ3 36 3) + 1)))) rfl ?_
          have e_36_3 : sg_g (sg_w σ3 36 3 (((sg_g σ3 36 3) + 1))) 36 3 = ((sg_g σ3 36 3) + 1) := by rw [sg_gw_e _ _ _ _ (by omega)]
          refine wk_ls [(0, .inr (.inr (.ref 36)))] rfl ⟨rfl, trivial⟩ (ih5 _ ?_ (sg_w σ3 36 3 (((sg_g σ3 36 3) + 1))) (sg_F_w hF4 rfl _) ?_ rfl)
          · omega
          · refine ⟨by omega, by omega, fun t ht1 ht2 => ?_, by rw [sg_gw']; exact i4, by rw [sg_gw_k _ _ _ _ _ _ (by decide)]; exact i5⟩
            by_cases et : t < sg_g σ3 36 3
            · exact i3 t ht1 et
            · have et2 : t = sg_g σ3 36 3 := by omega
              subst et2
              exact ⟨by omega, decide_eq_true (by omega)⟩
        ·
          refine wk_b tt_195 1 (pc' := 32) (ls' := [(0, .inr (.inr (.ref 36)))]) (st' := [.inr (.inr (.ref 36))]) (σ' := σ3) rfl ?_
          refine wk_callp tt_195 rfl rfl rfl rfl rfl tt_196 rfl (by decide) (tk_ah z σ3 (by omega) (by rw [sg_F_g hF4 rfl] <;> omega)) ?_
          rw [tk_av_in (σ := σ) (p := (sg_g σ3 36 3)) (n := (sg_g σ 36 2)) rfl (by rw [sg_F_g hF4 rfl]) (fun q => by rw [sg_F_ga hF4 rfl]) (by omega)]
          have b45 := tb_r σ (sg_g σ3 36 3)
          refine wk_b tt_195 1 (pc' := 37) (ls' := [(0, .inr (.inr (.ref 36)))]) (st' := [.inl (10), .inl ((tb σ (sg_g σ3 36 3)))]) (σ' := σ3) rfl ?_
          refine wk_if2 tt_195 (tgt := 53) rfl rfl (by omega) (by decide) (fun (h46 : ¬ (tb σ (sg_g σ3 36 3)) = 10) => ?_) (fun (h46 : (tb σ (sg_g σ3 36 3)) = 10) => ?_)
          ·
            refine wk_b tt_195 5 (pc' := 62) (ls' := [(0, .inr (.inr (.ref 36)))]) (st' := [.inr (.inr (.ref 36))]) (σ' := (sg_w σ3 36 5 ((sg_g σ3 36 3)))) rfl ?_
            refine wk_callp tt_195 rfl rfl rfl rfl rfl tt_196 rfl (by decide) (tk_ah z (sg_w σ3 36 5 ((sg_g σ3 36 3))) (by rw [sg_gw_k _ _ _ _ _ _ (by decide)] <;> omega) (by rw [sg_gw_k _ _ _ _ _ _ (by decide), sg_F_g hF4 rfl] <;> omega)) ?_
            have hc48 : (sg_g σ3 36 3) < (sg_g σ 36 2) → (tk_av (sg_w σ3 36 5 ((sg_g σ3 36 3)))) = tb σ (sg_g σ3 36 3) := fun q => tk_av_in (by rw [sg_gw_k _ _ _ _ _ _ (by decide)]) (by rw [sg_gw_k _ _ _ _ _ _ (by decide), sg_F_g hF4 rfl]) (fun q => by rw [sg_gw_c _ _ _ _ _ _ (by decide), sg_F_ga hF4 rfl]) q
            have rc49 := tk_avR (sg_w σ3 36 5 ((sg_g σ3 36 3)))
            generalize (tk_av (sg_w σ3 36 5 ((sg_g σ3 36 3)))) = c47 at hc48 rc49 ⊢
            refine wk_b tt_195 5 (pc' := 74) (ls' := [(1, .inl (c47)), (0, .inr (.inr (.ref 36)))]) (st' := [.inl ((sg_g (sg_w σ3 36 5 ((sg_g σ3 36 3))) 36 2)), .inl ((sg_g (sg_w σ3 36 5 ((sg_g σ3 36 3))) 36 3))]) (σ' := (sg_w σ3 36 5 ((sg_g σ3 36 3)))) rfl ?_
            rw [show (sg_g (sg_w σ3 36 5 ((sg_g σ3 36 3))) 36 3) = (sg_g σ3 36 3) from by rw [sg_gw_k _ _ _ _ _ _ (by decide)]]
            rw [show (sg_g (sg_w σ3 36 5 ((sg_g σ3 36 3))) 36 2) = (sg_g σ 36 2) from by rw [sg_gw_k _ _ _ _ _ _ (by decide), sg_F_g hF4 rfl]]
            refine wk_if2 tt_195 (tgt := 87) rfl rfl (by omega) (by omega) (fun (h50 : (sg_g σ3 36 3) < (sg_g σ 36 2)) => ?_) (fun (h50 : (sg_g σ 36 2) ≤ (sg_g σ3 36 3)) => ?_)
            ·
              refine wk_b tt_195 1 (pc' := 88) (ls' := [(1, .inl (c47)), (0, .inr (.inr (.ref 36)))]) (st' := [.inl (c47)]) (σ' := (sg_w σ3 36 5 ((sg_g σ3 36 3)))) rfl ?_
              refine wk_callb tt_195 rfl rfl rfl rfl rfl tt_197 rfl (by decide) (tk_isDigit z (sg_w σ3 36 5 ((sg_g σ3 36 3))) (c47) (by omega)) (fun (h51 : 48 ≤ c47 ∧ c47 ≤ 57) => ?_) (fun (h51 : ¬ (48 ≤ c47 ∧ c47 ≤ 57)) => ?_)
              ·
                refine wk_if tt_195 (tgt := 101) rfl rfl (by decide) (fun (h : 1 = 0) => absurd h (by decide)) (fun _ => ?_)
                refine wk_b tt_195 1 (pc' := 95) (ls' := [(1, .inl (c47)), (0, .inr (.inr (.ref 36)))]) (st' := [.inr (.inr (.ref 36))]) (σ' := (sg_w σ3 36 5 ((sg_g σ3 36 3)))) rfl ?_
                refine wk_call tt_195 rfl rfl rfl rfl rfl tt_201 rfl (by decide) (tk_num z (sg_w σ3 36 5 ((sg_g σ3 36 3))) (by rw [show sg_g (sg_w σ3 36 5 ((sg_g σ3 36 3))) 36 3 = (sg_g σ3 36 3) from by rw [sg_gw_k _ _ _ _ _ _ (by decide)]] <;> omega) (by rw [show sg_g (sg_w σ3 36 5 ((sg_g σ3 36 3))) 36 2 = (sg_g σ 36 2) from by rw [sg_gw_k _ _ _ _ _ _ (by decide), sg_F_g hF4 rfl]] <;> omega) (by rw [show sg_g (sg_w σ3 36 5 ((sg_g σ3 36 3))) 36 3 = (sg_g σ3 36 3) from by rw [sg_gw_k _ _ _ _ _ _ (by decide)], show sg_g (sg_w σ3 36 5 ((sg_g σ3 36 3))) 36 2 = (sg_g σ 36 2) from by rw [sg_gw_k _ _ _ _ _ _ (by decide), sg_F_g hF4 rfl]] <;> omega) (by rw [show sg_g (sg_w σ3 36 5 ((sg_g σ3 36 3))) 36 5 = (sg_g σ3 36 3) from by rw [sg_gw_e _ _ _ _ (by omega)], show sg_g (sg_w σ3 36 5 ((sg_g σ3 36 3))) 36 3 = (sg_g σ3 36 3) from by rw [sg_gw_k _ _ _ _ _ _ (by decide)]] <;> omega)) (fun w53 σ54 hq55 => ?_)
                obtain ⟨rfl, hF56, p57, p58, pN⟩ := hq55
                refine wk_b tt_195 1 (pc' := 150) (ls' := [(1, .inl (c47)), (0, .inr (.inr (.ref 36)))]) (st' := []) (σ' := σ54) rfl ?_
                refine wk_rV tt_195 rfl rfl ?_
                first
                | (exfalso; omega)
                | (
                  have nn : ¬ (sg_g σ 36 2 ≤ sg_g σ3 36 3) ∨ sg_g σ 36 2 ≤ sg_g σ3 36 3 := by omega
                  have ee : lx_end (tb σ) (sg_g σ 36 2) lx_b (sg_g σ 36 3) = sg_g σ3 36 3 := lx_end_eq i1 i3 (by first | exact Or.inl (by omega) | exact Or.inr (decide_eq_false (by omega)))
                  have tt1 : tb (sg_w σ3 36 5 ((sg_g σ3 36 3))) = tb σ := tb_eq (fun q => by rw [sg_gw_c _ _ _ _ _ _ (by decide), sg_F_ga hF4 rfl])
                  have hcc := hc48 (by omega)
                  rw [tt1, show sg_g (sg_w σ3 36 5 ((sg_g σ3 36 3))) 36 2 = (sg_g σ 36 2) from by rw [sg_gw_k _ _ _ _ _ _ (by decide), sg_F_g hF4 rfl], show sg_g (sg_w σ3 36 5 ((sg_g σ3 36 3))) 36 3 = (sg_g σ3 36 3) from by rw [sg_gw_k _ _ _ _ _ _ (by decide)]] at p57 p58 pN
                  have dd : lx_d (tb σ (sg_g σ3 36 3)) = true := decide_eq_true (by omega)
                  refine ⟨rfl, (sg_F_t (sg_F_w hF4 rfl _) (sg_F_m (L := [4036, 5036, 6036, 7036, 8036]) hF56 rfl)), ?_, ?_, ?_, fun z1 z2 z3 => ?_, fun z4 => ?_, ?_⟩
                  · rw [ee, sg_F_g hF56 rfl, sg_gw_e _ _ _ _ (by omega)]
                  · rw [ee, p58]; unfold lx_kind; rw [if_neg (show ¬ sg_g σ 36 2 ≤ sg_g σ3 36 3 by omega), if_pos dd]
                  · rw [ee, p57]; unfold lx_next; rw [if_neg (show ¬ sg_g σ 36 2 ≤ sg_g σ3 36 3 by omega), if_pos dd]
                  · rw [ee] at z2; unfold lx_l at z2; have := of_decide_eq_true z2; exfalso; omega
                  · rw [sg_F_gl hF56 rfl, sg_gw', i4]
                  · rw [ee]; unfold lx_num; rw [if_pos ⟨by omega, dd⟩]; exact pN)
              ·
                refine wk_if tt_195 (tgt := 101) rfl rfl (by decide) (fun _ => ?_) (fun (h : ¬ 0 = 0) => absurd h (by decide))
                refine wk_b tt_195 1 (pc' := 102) (ls' := [(1, .inl (c47)), (0, .inr (.inr (.ref 36)))]) (st' := [.inl (c47)]) (σ' := (sg_w σ3 36 5 ((sg_g σ3 36 3)))) rfl ?_
                refine wk_callb tt_195 rfl rfl rfl rfl rfl tt_198 rfl (by decide) (tk_isLetter z (sg_w σ3 36 5 ((sg_g σ3 36 3))) (c47) (by omega)) (fun (h60 : 97 ≤ c47 ∧ c47 ≤ 122) => ?_) (fun (h60 : ¬ (97 ≤ c47 ∧ c47 ≤ 122)) => ?_)
                ·
                  refine wk_if tt_195 (tgt := 115) rfl rfl (by decide) (fun (h : 1 = 0) => absurd h (by decide)) (fun _ => ?_)
                  refine wk_b tt_195 1 (pc' := 109) (ls' := [(1, .inl (c47)), (0, .inr (.inr (.ref 36)))]) (st' := [.inr (.inr (.ref 36))]) (σ' := (sg_w σ3 36 5 ((sg_g σ3 36 3)))) rfl ?_
                  refine wk_call tt_195 rfl rfl rfl rfl rfl tt_202 rfl (by decide) (tk_wrd z (sg_w σ3 36 5 ((sg_g σ3 36 3))) (by rw [show sg_g (sg_w σ3 36 5 ((sg_g σ3 36 3))) 36 3 = (sg_g σ3 36 3) from by rw [sg_gw_k _ _ _ _ _ _ (by decide)]] <;> omega) (by rw [show sg_g (sg_w σ3 36 5 ((sg_g σ3 36 3))) 36 2 = (sg_g σ 36 2) from by rw [sg_gw_k _ _ _ _ _ _ (by decide), sg_F_g hF4 rfl]] <;> omega) (by rw [show sg_g (sg_w σ3 36 5 ((sg_g σ3 36 3))) 36 3 = (sg_g σ3 36 3) from by rw [sg_gw_k _ _ _ _ _ _ (by decide)], show sg_g (sg_w σ3 36 5 ((sg_g σ3 36 3))) 36 2 = (sg_g σ 36 2) from by rw [sg_gw_k _ _ _ _ _ _ (by decide), sg_F_g hF4 rfl]] <;> omega) (by rw [show sg_g (sg_w σ3 36 5 ((sg_g σ3 36 3))) 36 5 = (sg_g σ3 36 3) from by rw [sg_gw_e _ _ _ _ (by omega)], show sg_g (sg_w σ3 36 5 ((sg_g σ3 36 3))) 36 3 = (sg_g σ3 36 3) from by rw [sg_gw_k _ _ _ _ _ _ (by decide)]] <;> omega)) (fun w62 σ63 hq64 => ?_)
                  obtain ⟨rfl, hF65, p66, p67, p68⟩ := hq64
                  refine wk_b tt_195 1 (pc' := 150) (ls' := [(1, .inl (c47)), (0, .inr (.inr (.ref 36)))]) (st' := []) (σ' := σ63) rfl ?_
                  refine wk_rV tt_195 rfl rfl ?_
                  first
                  | (exfalso; omega)
                  | (
                    have nn : ¬ (sg_g σ 36 2 ≤ sg_g σ3 36 3) ∨ sg_g σ 36 2 ≤ sg_g σ3 36 3 := by omega
                    have ee : lx_end (tb σ) (sg_g σ 36 2) lx_b (sg_g σ 36 3) = sg_g σ3 36 3 := lx_end_eq i1 i3 (by first | exact Or.inl (by omega) | exact Or.inr (decide_eq_false (by omega)))
                    have tt1 : tb (sg_w σ3 36 5 ((sg_g σ3 36 3))) = tb σ := tb_eq (fun q => by rw [sg_gw_c _ _ _ _ _ _ (by decide), sg_F_ga hF4 rfl])
                    have hcc := hc48 (by omega)
                    have tt2 : sg_gl (sg_w σ3 36 5 ((sg_g σ3 36 3))) 37 = sg_gl σ 37 := funext (fun q => by rw [sg_gw', sg_F_gal hF4 rfl])
                    rw [tt1, show sg_g (sg_w σ3 36 5 ((sg_g σ3 36 3))) 36 2 = (sg_g σ 36 2) from by rw [sg_gw_k _ _ _ _ _ _ (by decide), sg_F_g hF4 rfl], show sg_g (sg_w σ3 36 5 ((sg_g σ3 36 3))) 36 3 = (sg_g σ3 36 3) from by rw [sg_gw_k _ _ _ _ _ _ (by decide)], tt2] at p67
                    rw [tt1, show sg_g (sg_w σ3 36 5 ((sg_g σ3 36 3))) 36 2 = (sg_g σ 36 2) from by rw [sg_gw_k _ _ _ _ _ _ (by decide), sg_F_g hF4 rfl], show sg_g (sg_w σ3 36 5 ((sg_g σ3 36 3))) 36 3 = (sg_g σ3 36 3) from by rw [sg_gw_k _ _ _ _ _ _ (by decide)]] at p66
                    rw [tt1, show sg_g (sg_w σ3 36 5 ((sg_g σ3 36 3))) 36 2 = (sg_g σ 36 2) from by rw [sg_gw_k _ _ _ _ _ _ (by decide), sg_F_g hF4 rfl], show sg_g (sg_w σ3 36 5 ((sg_g σ3 36 3))) 36 3 = (sg_g σ3 36 3) from by rw [sg_gw_k _ _ _ _ _ _ (by decide)]] at p68
                    have dd : ¬ lx_d (tb σ (sg_g σ3 36 3)) = true := fun q => by unfold lx_d at q; have := of_decide_eq_true q; omega
                    have ll : lx_l (tb σ (sg_g σ3 36 3)) = true := decide_eq_true (by omega)
                    refine ⟨rfl, (sg_F_t (sg_F_w hF4 rfl _) (sg_F_m (L := [4036, 5036, 6036, 7036, 8036]) hF65 rfl)), ?_, ?_, ?_, fun z1 z2 z3 => ?_, fun z4 => ?_, ?_⟩
                    · rw [ee, sg_F_g hF65 rfl, sg_gw_e _ _ _ _ (by omega)]
                    · rw [ee, p67]; unfold lx_kind; rw [if_neg (show ¬ sg_g σ 36 2 ≤ sg_g σ3 36 3 by omega), if_neg dd, if_pos ll]
                    · rw [ee, p66]; unfold lx_next; rw [if_neg (show ¬ sg_g σ 36 2 ≤ sg_g σ3 36 3 by omega), if_neg dd, if_pos ll]
                    · rw [ee] at z3 ⊢; exact p68 z3
                    · rw [ee] at z4; exact absurd ⟨by omega, ll⟩ z4
                    · rw [ee]; unfold lx_num; rw [if_neg (fun q => dd q.2), sg_F_g hF65 rfl, sg_gw_k _ _ _ _ _ _ (by decide), i5])
                ·
                  refine wk_if tt_195 (tgt := 115) rfl rfl (by decide) (fun _ => ?_) (fun (h : ¬ 0 = 0) => absurd h (by decide))
                  refine wk_b tt_195 3 (pc' := 119) (ls' := [(1, .inl (c47)), (0, .inr (.inr (.ref 36)))]) (st' := [.inl (((((sg_i (c47)).toUInt32 % 65536).toInt32).toInt)), .inr (.inr (.retAddr 1))]) (σ' := (sg_w σ3 36 5 ((sg_g σ3 36 3)))) rfl ?_
                  rw [lx_i2c (x := c47) (by omega) (by omega)]
                  refine wk_call tt_195 rfl rfl rfl rfl rfl tt_344 rfl (by decide) (js_idx z (sg_w σ3 36 5 ((sg_g σ3 36 3))) (c47) (by omega) (by omega)) (fun w70 σ71 hq72 => ?_)
                  obtain ⟨q74, rfl, hF73, p75⟩ := hq72
                  refine wk_if tt_195 (tgt := 143) rfl rfl (by omega) (fun (h76 : q74 < 0) => ?_) (fun (h76 : 0 ≤ q74) => ?_)
                  ·
                    refine wk_b tt_195 3 (pc' := 150) (ls' := [(1, .inl (c47)), (0, .inr (.inr (.ref 36)))]) (st' := []) (σ' := (sg_w σ71 36 4 (259))) rfl ?_
                    refine wk_rV tt_195 rfl rfl ?_
                    first
                    | (exfalso; omega)
                    | (
                      have nn : ¬ (sg_g σ 36 2 ≤ sg_g σ3 36 3) ∨ sg_g σ 36 2 ≤ sg_g σ3 36 3 := by omega
                      have hcc := hc48 (by omega)
                      have dd : ¬ lx_d (tb σ (sg_g σ3 36 3)) = true := fun q => by unfold lx_d at q; have := of_decide_eq_true q; omega
                      have ll : ¬ lx_l (tb σ (sg_g σ3 36 3)) = true := fun q => by unfold lx_l at q; have := of_decide_eq_true q; omega
                      have ss : ¬ lx_s (tb σ (sg_g σ3 36 3)) = true := by rw [← hcc]; rcases p75 with ⟨u1, u2, u3⟩ | ⟨u1, u2⟩; (exfalso; omega); (rw [u2]; decide)
                      have ee : lx_end (tb σ) (sg_g σ 36 2) lx_b (sg_g σ 36 3) = sg_g σ3 36 3 := lx_end_eq i1 i3 (by first | exact Or.inl (by omega) | exact Or.inr (decide_eq_false (by omega)))
                      refine ⟨rfl, (sg_F_w (sg_F_t (sg_F_w hF4 rfl _) (sg_F_m (L := [4036, 5036, 6036, 7036, 8036]) hF73 rfl)) rfl _), ?_, ?_, ?_, fun z1 z2 z3 => ?_, fun z4 => ?_, ?_⟩
                      · rw [ee, sg_gw_k _ _ _ _ _ _ (by decide), sg_F_ga hF73 rfl, sg_gw_e _ _ _ _ (by omega)]
                      · rw [ee, sg_gw_e _ _ _ _ (by decide)]; unfold lx_kind; rw [if_neg (show ¬ sg_g σ 36 2 ≤ sg_g σ3 36 3 by omega), if_neg dd, if_neg ll, if_neg ss]
                      · rw [ee, sg_gw_k _ _ _ _ _ _ (by decide), sg_F_ga hF73 rfl, sg_gw_k _ _ _ _ _ _ (by decide)]; unfold lx_next; rw [if_neg (show ¬ sg_g σ 36 2 ≤ sg_g σ3 36 3 by omega), if_neg dd, if_neg ll, if_neg ss]
                      · rw [ee] at z2; exact absurd z2 ll
                      · rw [sg_gw', sg_F_gal hF73 rfl, sg_gw', i4]
                      · rw [ee]; unfold lx_num; rw [if_neg (fun q => dd q.2), sg_gw_k _ _ _ _ _ _ (by decide), sg_F_g hF73 rfl, sg_gw_k _ _ _ _ _ _ (by decide), i5])
                  ·
                    refine wk_b tt_195 10 (pc' := 150) (ls' := [(1, .inl (c47)), (0, .inr (.inr (.ref 36)))]) (st' := []) (σ' := (sg_w (sg_w σ71 36 4 (c47)) 36 3 (((sg_g (sg_w σ71 36 4 (c47)) 36 3) + 1)))) rfl ?_
                    rw [show (sg_g (sg_w σ71 36 4 (c47)) 36 3) = (sg_g σ3 36 3) from by rw [sg_gw_k _ _ _ _ _ _ (by decide), sg_F_ga hF73 rfl, sg_gw_k _ _ _ _ _ _ (by decide)]]
                    refine wk_rV tt_195 rfl rfl ?_
                    first
                    | (exfalso; omega)
                    | (
                      have nn : ¬ (sg_g σ 36 2 ≤ sg_g σ3 36 3) ∨ sg_g σ 36 2 ≤ sg_g σ3 36 3 := by omega
                      have hcc := hc48 (by omega)
                      have dd : ¬ lx_d (tb σ (sg_g σ3 36 3)) = true := fun q => by unfold lx_d at q; have := of_decide_eq_true q; omega
                      have ll : ¬ lx_l (tb σ (sg_g σ3 36 3)) = true := fun q => by unfold lx_l at q; have := of_decide_eq_true q; omega
                      have ss : lx_s (tb σ (sg_g σ3 36 3)) = true := by rw [← hcc]; rcases p75 with ⟨u1, u2, u3⟩ | ⟨u1, u2⟩; exact u3; (exfalso; omega)
                      have ee : lx_end (tb σ) (sg_g σ 36 2) lx_b (sg_g σ 36 3) = sg_g σ3 36 3 := lx_end_eq i1 i3 (by first | exact Or.inl (by omega) | exact Or.inr (decide_eq_false (by omega)))
                      refine ⟨rfl, (sg_F_w (sg_F_w (sg_F_t (sg_F_w hF4 rfl _) (sg_F_m (L := [4036, 5036, 6036, 7036, 8036]) hF73 rfl)) rfl _) rfl _), ?_, ?_, ?_, fun z1 z2 z3 => ?_, fun z4 => ?_, ?_⟩
                      · rw [ee, sg_gw_k _ _ _ _ _ _ (by decide), sg_gw_k _ _ _ _ _ _ (by decide), sg_F_ga hF73 rfl, sg_gw_e _ _ _ _ (by omega)]
                      · rw [ee, sg_gw_k _ _ _ _ _ _ (by decide), sg_gw_e _ _ _ _ (by omega)]; unfold lx_kind; rw [if_neg (show ¬ sg_g σ 36 2 ≤ sg_g σ3 36 3 by omega), if_neg dd, if_neg ll, if_pos ss]; exact hcc
                      · rw [ee, sg_gw_e _ _ _ _ (by omega)]; unfold lx_next; rw [if_neg (show ¬ sg_g σ 36 2 ≤ sg_g σ3 36 3 by omega), if_neg dd, if_neg ll, if_pos ss]
                      · rw [ee] at z2; exact absurd z2 ll
                      · rw [sg_gw', sg_gw', sg_F_gal hF73 rfl, sg_gw', i4]
                      · rw [ee]; unfold lx_num; rw [if_neg (fun q => dd q.2), sg_gw_k _ _ _ _ _ _ (by decide), sg_gw_k _ _ _ _ _ _ (by decide), sg_F_g hF73 rfl, sg_gw_k _ _ _ _ _ _ (by decide), i5])
            ·
              refine wk_b tt_195 4 (pc' := 150) (ls' := [(1, .inl (c47)), (0, .inr (.inr (.ref 36)))]) (st' := []) (σ' := (sg_w (sg_w σ3 36 5 ((sg_g σ3 36 3))) 36 4 (256))) rfl ?_
              refine wk_rV tt_195 rfl rfl ?_
              first
              | (exfalso; omega)
              | (
                have nn : ¬ (sg_g σ 36 2 ≤ sg_g σ3 36 3) ∨ sg_g σ 36 2 ≤ sg_g σ3 36 3 := by omega
                have ee : lx_end (tb σ) (sg_g σ 36 2) lx_b (sg_g σ 36 3) = sg_g σ3 36 3 := lx_end_eq i1 i3 (by first | exact Or.inl (by omega) | exact Or.inr (decide_eq_false (by omega)))
                refine ⟨rfl, (sg_F_w (sg_F_w hF4 rfl _) rfl _), ?_, ?_, ?_, fun z1 z2 z3 => ?_, fun z4 => ?_, ?_⟩
                · rw [ee, sg_gw_k _ _ _ _ _ _ (by decide), sg_gw_e _ _ _ _ (by omega)]
                · rw [ee, sg_gw_e _ _ _ _ (by decide)]; unfold lx_kind; rw [if_pos (show sg_g σ 36 2 ≤ sg_g σ3 36 3 by omega)]
                · rw [ee, sg_gw_k _ _ _ _ _ _ (by decide), sg_gw_k _ _ _ _ _ _ (by decide)]; unfold lx_next; rw [if_pos (show sg_g σ 36 2 ≤ sg_g σ3 36 3 by omega)]
                · rw [ee] at z1; exfalso; omega
                · rw [sg_gw', sg_gw', i4]
                · rw [ee]; unfold lx_num; rw [if_neg (fun q => by omega), sg_gw_k _ _ _ _ _ _ (by decide), sg_gw_k _ _ _ _ _ _ (by decide), i5])
          ·
            refine wk_b tt_195 7 (pc' := 11) (ls' := [(0, .inr (.inr (.ref 36)))]) (st' := []) (σ' := (sg_w σ3 36 3 (((sg_g σ3 36 3) + 1)))) rfl ?_
            have e_36_3 : sg_g (sg_w σ3 36 3 (((sg_g σ3 36 3) + 1))) 36 3 = ((sg_g σ3 36 3) + 1) := by rw [sg_gw_e _ _ _ _ (by omega)]
            refine wk_ls [(0, .inr (.inr (.ref 36)))] rfl ⟨rfl, trivial⟩ (ih5 _ ?_ (sg_w σ3 36 3 (((sg_g σ3 36 3) + 1))) (sg_F_w hF4 rfl _) ?_ rfl)
            · omega
            · refine ⟨by omega, by omega, fun t ht1 ht2 => ?_, by rw [sg_gw']; exact i4, by rw [sg_gw_k _ _ _ _ _ _ (by decide)]; exact i5⟩
              by_cases et : t < sg_g σ3 36 3
              · exact i3 t ht1 et
              · have et2 : t = sg_g σ3 36 3 := by omega
                subst et2
                exact ⟨by omega, decide_eq_true (by omega)⟩
  have e_36_3 : sg_g σ 36 3 = (sg_g σ 36 3) := rfl
  refine wk_ls [(0, .inr (.inr (.ref 36)))] rfl ⟨rfl, trivial⟩ (lp7 _ σ (sg_F_r [4036, 5036, 6036, 7036, 8036] σ) ?_ rfl)
  exact ⟨by omega, by omega, fun t ht1 ht2 => by omega, rfl, rfl⟩
