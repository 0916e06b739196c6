/-! THE CLASS DRAWS what a flat run came to, exactly. -/
set_option maxRecDepth 8000 in
theorem dLn0 (z : Value) (σ : sg_S) (l : List vaF) (v i : Int) (n : Nat) (hG : yG σ) (hy : yX σ 0 v l) (hn : n < l.length) (hi : i = n) (h2 : 0 ≤ sg_g σ 65 2 ∧ sg_g σ 65 2 + (imF 0 (l.getD n (nmF 0))).length ≤ 6001) : wx z 2 62 0 [(0, .inr (.inr (.ref 61))), (1, .inl (v)), (2, .inl (i)), (3, .inl (0))] [] σ (fun w σ' => w = none ∧ sg_F [3065, 68] σ σ' ∧ aIm 65 68 σ σ' (imF 0 (l.getD n (nmF 0)))) := by
  have yr := (yX_c hy).1
  obtain ⟨y1, y2, y3, y4, y5⟩ := yr
  have g1 := hG.1
  have g2 := hG.2.1
  have rv : sg_R v := ⟨by omega, by omega⟩
  have ri : sg_R i := ⟨by omega, by omega⟩
  have l1 := imF_1 0 (l.getD n (nmF 0))
  obtain ⟨c1, c2⟩ := yX_cell hG hy hn
  rw [← hi] at c1 c2
  refine wk_b tt_62 4 (pc' := 6) (ls' := [(0, .inr (.inr (.ref 61))), (1, .inl (v)), (2, .inl (i)), (3, .inl (0))]) (st' := [.inl (i), .inl (v), .inr (.inr (.ref 77))]) (σ' := σ) rfl ?_
  refine wk_callp tt_62 rfl rfl rfl rfl rfl tt_100 rfl (by decide) (w_lCell z σ v i rv ri c2) ?_
  have rq : sg_R (v_lCell σ v i) := vr_lCell σ v i rv ri c2
  generalize e5 : v_lCell σ v i = q5 at rq
  rw [e5] at c1
  refine wk_b tt_62 4 (pc' := 17) (ls' := [(4, .inl (q5)), (0, .inr (.inr (.ref 61))), (1, .inl (v)), (2, .inl (i)), (3, .inl (0))]) (st' := [.inl (q5), .inr (.inr (.ref 65))]) (σ' := σ) rfl ?_
  refine wk_call tt_62 rfl rfl rfl rfl rfl tt_91 rfl (by decide) (i65_add z σ (q5) rq ⟨by omega, by omega⟩) (fun w7 σ8 hq9 => ?_)
  obtain ⟨rfl, f8, t8⟩ := hq9
  refine wk_b tt_62 1 (pc' := 21) (ls' := [(4, .inl (q5)), (0, .inr (.inr (.ref 61))), (1, .inl (v)), (2, .inl (i)), (3, .inl (0))]) (st' := [.inl (0)]) (σ' := σ8) rfl ?_
  refine wk_if tt_62 (tgt := 75) rfl rfl (by decide) (fun h12 => ?_) (fun h12 => ?_)
  · refine wk_rV tt_62 rfl rfl ⟨rfl, f8, ?_⟩
    rw [c1] at t8
    exact t8
  · simp only [sg_c, sg_nc] at h12
    exfalso; omega
set_option maxRecDepth 8000 in
theorem dLn1 (z : Value) (σ : sg_S) (l : List vaF) (v i : Int) (n : Nat) (hG : yG σ) (hy : yX σ 1 v l) (hn : n < l.length) (hi : i = n) (h2 : 0 ≤ sg_g σ 65 2 ∧ sg_g σ 65 2 + (imF 1 (l.getD n (nmF 0))).length ≤ 6001) : wx z 3 62 0 [(0, .inr (.inr (.ref 61))), (1, .inl (v)), (2, .inl (i)), (3, .inl (1))] [] σ (fun w σ' => w = none ∧ sg_F [3065, 68] σ σ' ∧ aIm 65 68 σ σ' (imF 1 (l.getD n (nmF 0)))) := by
  have yr := (yX_c hy).1
  obtain ⟨y1, y2, y3, y4, y5⟩ := yr
  have g1 := hG.1
  have g2 := hG.2.1
  have rv : sg_R v := ⟨by omega, by omega⟩
  have ri : sg_R i := ⟨by omega, by omega⟩
  have l1 := imF_1 1 (l.getD n (nmF 0))
  obtain ⟨c1, c2⟩ := yX_cell hG hy hn
  rw [← hi] at c1 c2
  refine wk_b tt_62 4 (pc' := 6) (ls' := [(0, .inr (.inr (.ref 61))), (1, .inl (v)), (2, .inl (i)), (3, .inl (1))]) (st' := [.inl (i), .inl (v), .inr (.inr (.ref 77))]) (σ' := σ) rfl ?_
  refine wk_callp tt_62 rfl rfl rfl rfl rfl tt_100 rfl (by decide) (w_lCell z σ v i rv ri c2) ?_
  have rq : sg_R (v_lCell σ v i) := vr_lCell σ v i rv ri c2
  generalize e5 : v_lCell σ v i = q5 at rq
  rw [e5] at c1
  refine wk_b tt_62 4 (pc' := 17) (ls' := [(4, .inl (q5)), (0, .inr (.inr (.ref 61))), (1, .inl (v)), (2, .inl (i)), (3, .inl (1))]) (st' := [.inl (q5), .inr (.inr (.ref 65))]) (σ' := σ) rfl ?_
  refine wk_call tt_62 rfl rfl rfl rfl rfl tt_91 rfl (by decide) (i65_add z σ (q5) rq ⟨by omega, by omega⟩) (fun w7 σ8 hq9 => ?_)
  obtain ⟨rfl, f8, t8⟩ := hq9
  refine wk_b tt_62 1 (pc' := 21) (ls' := [(4, .inl (q5)), (0, .inr (.inr (.ref 61))), (1, .inl (v)), (2, .inl (i)), (3, .inl (1))]) (st' := [.inl (1)]) (σ' := σ8) rfl ?_
  refine wk_if tt_62 (tgt := 75) rfl rfl (by decide) (fun h12 => ?_) (fun h12 => ?_)
  · simp only [sg_c, sg_nc] at h12
    exfalso; omega
  · obtain ⟨it, hit⟩ : ∃ it, it = itF (l.getD n (nmF 0)) := ⟨_, rfl⟩
    have ci : q5 = (it.length : Int) := by
      rw [c1, hit, itF_l]
      have := (hy.2.1 n hn).2.1
      omega
    have i200 : it.length ≤ 200 := by
      have := (hy.2.1 n hn).2.2
      rw [← c1, ci] at this
      omega
    obtain ⟨s1, s2, -⟩ := yX_st hG hy hn
    rw [← hi] at s1 s2
    have pI : p_lItems σ v := ⟨fun _ => trivial, fun _ => ⟨fun _ => trivial, fun _ => ⟨⟨by omega, by omega⟩, trivial⟩⟩⟩
    have eI := y_items hG (yX_c hy).1
    have yI : yX σ 0 (v_lItems σ v) (flF l) := by rw [eI]; exact hy.2.2.2
    have eim : imF 1 (l.getD n (nmF 0)) = [q5] ++ imL (imF 0) it := by
      rw [ci, hit]
      simp only [imF, List.cons_append, List.nil_append]
    have aB := ahF_b hn
    rw [← hit] at aB
    have yrI := (yX_c yI).1
    have l8 : (imL (imF 0) it).length + 1 = (imF 1 (l.getD n (nmF 0))).length := by rw [eim, List.length_append]; simp only [List.length_cons, List.length_nil]; omega
    refine wk_b tt_62 2 (pc' := 27) (ls' := [(5, .inl (0)), (4, .inl (q5)), (0, .inr (.inr (.ref 61))), (1, .inl (v)), (2, .inl (i)), (3, .inl (1))]) (st' := []) (σ' := σ8) rfl ?_
    have lp : ∀ (r dn : List vaF) (x : Int) (σ14 : sg_S), dn ++ r = it → x = dn.length → sg_F [3065, 68] σ σ14 → aIm 65 68 σ σ14 ([q5] ++ imL (imF 0) dn) → wx z 3 62 27 [(0, .inr (.inr (.ref 61))), (1, .inl (v)), (2, .inl (i)), (3, .inl (1)), (4, .inl (q5)), (5, .inl (x))] [] σ14 (fun w σ' => w = none ∧ sg_F [3065, 68] σ σ' ∧ aIm 65 68 σ σ' (imF 1 (l.getD n (nmF 0)))) := fun r => by
      induction r with
      | nil =>
        intro dn x σ14 ed ex F14 T14
        rw [List.append_nil] at ed
        rw [ed] at T14 ex
        refine wk_b tt_62 2 (pc' := 31) (ls' := [(0, .inr (.inr (.ref 61))), (1, .inl (v)), (2, .inl (i)), (3, .inl (1)), (4, .inl (q5)), (5, .inl (x))]) (st' := [.inl (q5), .inl (x)]) (σ' := σ14) rfl ?_
        refine wk_if2 tt_62 (tgt := 75) rfl rfl ⟨by omega, by omega⟩ rq (fun h22 => ?_) (fun h22 => ?_)
        · refine wk_rV tt_62 rfl rfl ⟨rfl, F14, ?_⟩
          rw [eim]
          exact T14
        · simp only [sg_c, sg_nc] at h22
          exfalso; omega
      | cons w r ih =>
        intro dn x σ14 ed ex F14 T14
        have ew : (dn ++ [w]) ++ r = it := by rw [List.append_assoc]; exact ed
        have lb : dn.length + 1 + r.length = it.length := by rw [← ed, List.length_append, List.length_cons]; omega
        have gw : it[dn.length]? = some w := by rw [← ed, List.getElem?_append_right (Nat.le_refl _), Nat.sub_self]; rfl
        have hw : (flF l).getD (ahF l n + dn.length) (nmF 0) = w := by
          rw [List.getD_eq_getElem?_getD, fl_g hn (by rw [← hit]; omega), ← hit, gw]; rfl
        have ebl : (imL (imF 0) it).length = (imL (imF 0) dn).length + (imF 0 w).length + (imL (imF 0) r).length := by rw [← ed, imL_a, List.length_append]; simp only [imL, List.length_append]; omega
        have G14 : yG σ14 := yG_F hG F14 rfl
        have Y14 : yX σ14 0 (v_lItems σ v) (flF l) := yX_up (yEx_F F14 rfl) yI
        have l14 := T14.1
        simp only [List.length_append, List.length_cons, List.length_nil] at l14
        refine wk_b tt_62 2 (pc' := 31) (ls' := [(0, .inr (.inr (.ref 61))), (1, .inl (v)), (2, .inl (i)), (3, .inl (1)), (4, .inl (q5)), (5, .inl (x))]) (st' := [.inl (q5), .inl (x)]) (σ' := σ14) rfl ?_
        refine wk_if2 tt_62 (tgt := 75) rfl rfl ⟨by omega, by omega⟩ rq (fun h22 => ?_) (fun h22 => ?_)
        · simp only [sg_c, sg_nc] at h22
          exfalso; omega
        · refine wk_b tt_62 2 (pc' := 39) (ls' := [(0, .inr (.inr (.ref 61))), (1, .inl (v)), (2, .inl (i)), (3, .inl (1)), (4, .inl (q5)), (5, .inl (x))]) (st' := [.inl (200), .inl (x)]) (σ' := σ14) rfl ?_
          refine wk_if2 tt_62 (tgt := 75) rfl rfl ⟨by omega, by omega⟩ (by decide) (fun h23 => ?_) (fun h23 => ?_)
          · simp only [sg_c, sg_nc] at h23
            exfalso; omega
          · refine wk_b tt_62 4 (pc' := 48) (ls' := [(0, .inr (.inr (.ref 61))), (1, .inl (v)), (2, .inl (i)), (3, .inl (1)), (4, .inl (q5)), (5, .inl (x))]) (st' := [.inl (v), .inr (.inr (.ref 77)), .inr (.inr (.ref 61))]) (σ' := σ14) rfl ?_
            have e28 : v_lItems σ14 v = v_lItems σ v := vF_lItems F14 rfl
            refine wk_callp tt_62 rfl rfl rfl rfl rfl tt_106 rfl (by decide) (w_lItems z σ14 v rv pI) ?_
            rw [e28]
            have r28 : sg_R (v_lItems σ v) := vr_lItems σ v rv pI
            generalize v_lItems σ v = q28 at *
            refine wk_b tt_62 4 (pc' := 57) (ls' := [(0, .inr (.inr (.ref 61))), (1, .inl (v)), (2, .inl (i)), (3, .inl (1)), (4, .inl (q5)), (5, .inl (x))]) (st' := [.inl (i), .inl (v), .inr (.inr (.ref 77)), .inl (q28), .inr (.inr (.ref 61))]) (σ' := σ14) rfl ?_
            have e34 : v_lStart σ14 v i = (ahF l n : Int) := by rw [vF_lStart F14 rfl rfl]; exact s1
            refine wk_callp tt_62 rfl rfl rfl rfl rfl tt_114 rfl (by decide) (w_lStart z σ14 v i rv ri (by rw [pF_lStart F14 rfl rfl]; exact s2)) ?_
            rw [e34]
            refine wk_b tt_62 5 (pc' := 66) (ls' := [(0, .inr (.inr (.ref 61))), (1, .inl (v)), (2, .inl (i)), (3, .inl (1)), (4, .inl (q5)), (5, .inl (x))]) (st' := [.inl (((1 : Int) - 1)), .inl (((ahF l n : Int) + x)), .inl (q28), .inr (.inr (.ref 61))]) (σ' := σ14) rfl ?_
            rw [show ((1 : Int) - 1) = 0 from rfl]
            refine wk_call tt_62 rfl rfl rfl rfl rfl tt_62 rfl (by decide) (dLn0 z σ14 (flF l) q28 ((ahF l n : Int) + x) (ahF l n + dn.length) G14 Y14 (by omega) (by omega) (by rw [hw]; omega)) (fun w36 σ37 hq38 => ?_)
            obtain ⟨rfl, f37, t37⟩ := hq38
            rw [hw] at t37
            refine wk_b tt_62 2 (pc' := 27) (ls' := [(5, .inl ((x + 1))), (0, .inr (.inr (.ref 61))), (1, .inl (v)), (2, .inl (i)), (3, .inl (1)), (4, .inl (q5))]) (st' := []) (σ' := σ37) rfl ?_
            refine wk_ls [(0, .inr (.inr (.ref 61))), (1, .inl (v)), (2, .inl (i)), (3, .inl (1)), (4, .inl (q5)), (5, .inl ((x + 1)))] rfl ⟨rfl, rfl, rfl, rfl, rfl, rfl, trivial⟩ ?_
            refine ih (dn ++ [w]) (x + 1) σ37 ew (by rw [List.length_append, List.length_cons, List.length_nil]; omega) (sg_F_t F14 f37) ?_
            have := aIm_t T14 t37
            rw [List.append_assoc, ← imL_s] at this
            exact this
    refine wk_ls [(0, .inr (.inr (.ref 61))), (1, .inl (v)), (2, .inl (i)), (3, .inl (1)), (4, .inl (q5)), (5, .inl (0))] rfl ⟨rfl, rfl, rfl, rfl, rfl, rfl, trivial⟩ ?_
    exact lp it [] 0 σ8 rfl rfl f8 t8
set_option maxRecDepth 8000 in
theorem dLn2 (z : Value) (σ : sg_S) (l : List vaF) (v i : Int) (n : Nat) (hG : yG σ) (hy : yX σ 2 v l) (hn : n < l.length) (hi : i = n) (h2 : 0 ≤ sg_g σ 65 2 ∧ sg_g σ 65 2 + (imF 2 (l.getD n (nmF 0))).length ≤ 6001) : wx z 4 62 0 [(0, .inr (.inr (.ref 61))), (1, .inl (v)), (2, .inl (i)), (3, .inl (2))] [] σ (fun w σ' => w = none ∧ sg_F [3065, 68] σ σ' ∧ aIm 65 68 σ σ' (imF 2 (l.getD n (nmF 0)))) := by
  have yr := (yX_c hy).1
  obtain ⟨y1, y2, y3, y4, y5⟩ := yr
  have g1 := hG.1
  have g2 := hG.2.1
  have rv : sg_R v := ⟨by omega, by omega⟩
  have ri : sg_R i := ⟨by omega, by omega⟩
  have l1 := imF_1 2 (l.getD n (nmF 0))
  obtain ⟨c1, c2⟩ := yX_cell hG hy hn
  rw [← hi] at c1 c2
  refine wk_b tt_62 4 (pc' := 6) (ls' := [(0, .inr (.inr (.ref 61))), (1, .inl (v)), (2, .inl (i)), (3, .inl (2))]) (st' := [.inl (i), .inl (v), .inr (.inr (.ref 77))]) (σ' := σ) rfl ?_
  refine wk_callp tt_62 rfl rfl rfl rfl rfl tt_100 rfl (by decide) (w_lCell z σ v i rv ri c2) ?_
  have rq : sg_R (v_lCell σ v i) := vr_lCell σ v i rv ri c2
  generalize e5 : v_lCell σ v i = q5 at rq
  rw [e5] at c1
  refine wk_b tt_62 4 (pc' := 17) (ls' := [(4, .inl (q5)), (0, .inr (.inr (.ref 61))), (1, .inl (v)), (2, .inl (i)), (3, .inl (2))]) (st' := [.inl (q5), .inr (.inr (.ref 65))]) (σ' := σ) rfl ?_
  refine wk_call tt_62 rfl rfl rfl rfl rfl tt_91 rfl (by decide) (i65_add z σ (q5) rq ⟨by omega, by omega⟩) (fun w7 σ8 hq9 => ?_)
  obtain ⟨rfl, f8, t8⟩ := hq9
  refine wk_b tt_62 1 (pc' := 21) (ls' := [(4, .inl (q5)), (0, .inr (.inr (.ref 61))), (1, .inl (v)), (2, .inl (i)), (3, .inl (2))]) (st' := [.inl (2)]) (σ' := σ8) rfl ?_
  refine wk_if tt_62 (tgt := 75) rfl rfl (by decide) (fun h12 => ?_) (fun h12 => ?_)
  · simp only [sg_c, sg_nc] at h12
    exfalso; omega
  · obtain ⟨it, hit⟩ : ∃ it, it = itF (l.getD n (nmF 0)) := ⟨_, rfl⟩
    have ci : q5 = (it.length : Int) := by
      rw [c1, hit, itF_l]
      have := (hy.2.1 n hn).2.1
      omega
    have i200 : it.length ≤ 200 := by
      have := (hy.2.1 n hn).2.2
      rw [← c1, ci] at this
      omega
    obtain ⟨s1, s2, -⟩ := yX_st hG hy hn
    rw [← hi] at s1 s2
    have pI : p_lItems σ v := ⟨fun _ => trivial, fun _ => ⟨fun _ => trivial, fun _ => ⟨⟨by omega, by omega⟩, trivial⟩⟩⟩
    have eI := y_items hG (yX_c hy).1
    have yI : yX σ 1 (v_lItems σ v) (flF l) := by rw [eI]; exact hy.2.2.2
    have eim : imF 2 (l.getD n (nmF 0)) = [q5] ++ imL (imF 1) it := by
      rw [ci, hit]
      simp only [imF, List.cons_append, List.nil_append]
    have aB := ahF_b hn
    rw [← hit] at aB
    have yrI := (yX_c yI).1
    have l8 : (imL (imF 1) it).length + 1 = (imF 2 (l.getD n (nmF 0))).length := by rw [eim, List.length_append]; simp only [List.length_cons, List.length_nil]; omega
    refine wk_b tt_62 2 (pc' := 27) (ls' := [(5, .inl (0)), (4, .inl (q5)), (0, .inr (.inr (.ref 61))), (1, .inl (v)), (2, .inl (i)), (3, .inl (2))]) (st' := []) (σ' := σ8) rfl ?_
    have lp : ∀ (r dn : List vaF) (x : Int) (σ14 : sg_S), dn ++ r = it → x = dn.length → sg_F [3065, 68] σ σ14 → aIm 65 68 σ σ14 ([q5] ++ imL (imF 1) dn) → wx z 4 62 27 [(0, .inr (.inr (.ref 61))), (1, .inl (v)), (2, .inl (i)), (3, .inl (2)), (4, .inl (q5)), (5, .inl (x))] [] σ14 (fun w σ' => w = none ∧ sg_F [3065, 68] σ σ' ∧ aIm 65 68 σ σ' (imF 2 (l.getD n (nmF 0)))) := fun r => by
      induction r with
      | nil =>
        intro dn x σ14 ed ex F14 T14
        rw [List.append_nil] at ed
        rw [ed] at T14 ex
        refine wk_b tt_62 2 (pc' := 31) (ls' := [(0, .inr (.inr (.ref 61))), (1, .inl (v)), (2, .inl (i)), (3, .inl (2)), (4, .inl (q5)), (5, .inl (x))]) (st' := [.inl (q5), .inl (x)]) (σ' := σ14) rfl ?_
        refine wk_if2 tt_62 (tgt := 75) rfl rfl ⟨by omega, by omega⟩ rq (fun h22 => ?_) (fun h22 => ?_)
        · refine wk_rV tt_62 rfl rfl ⟨rfl, F14, ?_⟩
          rw [eim]
          exact T14
        · simp only [sg_c, sg_nc] at h22
          exfalso; omega
      | cons w r ih =>
        intro dn x σ14 ed ex F14 T14
        have ew : (dn ++ [w]) ++ r = it := by rw [List.append_assoc]; exact ed
        have lb : dn.length + 1 + r.length = it.length := by rw [← ed, List.length_append, List.length_cons]; omega
        have gw : it[dn.length]? = some w := by rw [← ed, List.getElem?_append_right (Nat.le_refl _), Nat.sub_self]; rfl
        have hw : (flF l).getD (ahF l n + dn.length) (nmF 0) = w := by
          rw [List.getD_eq_getElem?_getD, fl_g hn (by rw [← hit]; omega), ← hit, gw]; rfl
        have ebl : (imL (imF 1) it).length = (imL (imF 1) dn).length + (imF 1 w).length + (imL (imF 1) r).length := by rw [← ed, imL_a, List.length_append]; simp only [imL, List.length_append]; omega
        have G14 : yG σ14 := yG_F hG F14 rfl
        have Y14 : yX σ14 1 (v_lItems σ v) (flF l) := yX_up (yEx_F F14 rfl) yI
        have l14 := T14.1
        simp only [List.length_append, List.length_cons, List.length_nil] at l14
        refine wk_b tt_62 2 (pc' := 31) (ls' := [(0, .inr (.inr (.ref 61))), (1, .inl (v)), (2, .inl (i)), (3, .inl (2)), (4, .inl (q5)), (5, .inl (x))]) (st' := [.inl (q5), .inl (x)]) (σ' := σ14) rfl ?_
        refine wk_if2 tt_62 (tgt := 75) rfl rfl ⟨by omega, by omega⟩ rq (fun h22 => ?_) (fun h22 => ?_)
        · simp only [sg_c, sg_nc] at h22
          exfalso; omega
        · refine wk_b tt_62 2 (pc' := 39) (ls' := [(0, .inr (.inr (.ref 61))), (1, .inl (v)), (2, .inl (i)), (3, .inl (2)), (4, .inl (q5)), (5, .inl (x))]) (st' := [.inl (200), .inl (x)]) (σ' := σ14) rfl ?_
          refine wk_if2 tt_62 (tgt := 75) rfl rfl ⟨by omega, by omega⟩ (by decide) (fun h23 => ?_) (fun h23 => ?_)
          · simp only [sg_c, sg_nc] at h23
            exfalso; omega
          · refine wk_b tt_62 4 (pc' := 48) (ls' := [(0, .inr (.inr (.ref 61))), (1, .inl (v)), (2, .inl (i)), (3, .inl (2)), (4, .inl (q5)), (5, .inl (x))]) (st' := [.inl (v), .inr (.inr (.ref 77)), .inr (.inr (.ref 61))]) (σ' := σ14) rfl ?_
            have e28 : v_lItems σ14 v = v_lItems σ v := vF_lItems F14 rfl
            refine wk_callp tt_62 rfl rfl rfl rfl rfl tt_106 rfl (by decide) (w_lItems z σ14 v rv pI) ?_
            rw [e28]
            have r28 : sg_R (v_lItems σ v) := vr_lItems σ v rv pI
            generalize v_lItems σ v = q28 at *
            refine wk_b tt_62 4 (pc' := 57) (ls' := [(0, .inr (.inr (.ref 61))), (1, .inl (v)), (2, .inl (i)), (3, .inl (2)), (4, .inl (q5)), (5, .inl (x))]) (st' := [.inl (i), .inl (v), .inr (.inr (.ref 77)), .inl (q28), .inr (.inr (.ref 61))]) (σ' := σ14) rfl ?_
            have e34 : v_lStart σ14 v i = (ahF l n : Int) := by rw [vF_lStart F14 rfl rfl]; exact s1
            refine wk_callp tt_62 rfl rfl rfl rfl rfl tt_114 rfl (by decide) (w_lStart z σ14 v i rv ri (by rw [pF_lStart F14 rfl rfl]; exact s2)) ?_
            rw [e34]
            refine wk_b tt_62 5 (pc' := 66) (ls' := [(0, .inr (.inr (.ref 61))), (1, .inl (v)), (2, .inl (i)), (3, .inl (2)), (4, .inl (q5)), (5, .inl (x))]) (st' := [.inl (((2 : Int) - 1)), .inl (((ahF l n : Int) + x)), .inl (q28), .inr (.inr (.ref 61))]) (σ' := σ14) rfl ?_
            rw [show ((2 : Int) - 1) = 1 from rfl]
            refine wk_call tt_62 rfl rfl rfl rfl rfl tt_62 rfl (by decide) (dLn1 z σ14 (flF l) q28 ((ahF l n : Int) + x) (ahF l n + dn.length) G14 Y14 (by omega) (by omega) (by rw [hw]; omega)) (fun w36 σ37 hq38 => ?_)
            obtain ⟨rfl, f37, t37⟩ := hq38
            rw [hw] at t37
            refine wk_b tt_62 2 (pc' := 27) (ls' := [(5, .inl ((x + 1))), (0, .inr (.inr (.ref 61))), (1, .inl (v)), (2, .inl (i)), (3, .inl (2)), (4, .inl (q5))]) (st' := []) (σ' := σ37) rfl ?_
            refine wk_ls [(0, .inr (.inr (.ref 61))), (1, .inl (v)), (2, .inl (i)), (3, .inl (2)), (4, .inl (q5)), (5, .inl ((x + 1)))] rfl ⟨rfl, rfl, rfl, rfl, rfl, rfl, trivial⟩ ?_
            refine ih (dn ++ [w]) (x + 1) σ37 ew (by rw [List.length_append, List.length_cons, List.length_nil]; omega) (sg_F_t F14 f37) ?_
            have := aIm_t T14 t37
            rw [List.append_assoc, ← imL_s] at this
            exact this
    refine wk_ls [(0, .inr (.inr (.ref 61))), (1, .inl (v)), (2, .inl (i)), (3, .inl (2)), (4, .inl (q5)), (5, .inl (0))] rfl ⟨rfl, rfl, rfl, rfl, rfl, rfl, trivial⟩ ?_
    exact lp it [] 0 σ8 rfl rfl f8 t8
set_option maxRecDepth 8000 in
theorem dLn3 (z : Value) (σ : sg_S) (l : List vaF) (v i : Int) (n : Nat) (hG : yG σ) (hy : yX σ 3 v l) (hn : n < l.length) (hi : i = n) (h2 : 0 ≤ sg_g σ 65 2 ∧ sg_g σ 65 2 + (imF 3 (l.getD n (nmF 0))).length ≤ 6001) : wx z 5 62 0 [(0, .inr (.inr (.ref 61))), (1, .inl (v)), (2, .inl (i)), (3, .inl (3))] [] σ (fun w σ' => w = none ∧ sg_F [3065, 68] σ σ' ∧ aIm 65 68 σ σ' (imF 3 (l.getD n (nmF 0)))) := by
  have yr := (yX_c hy).1
  obtain ⟨y1, y2, y3, y4, y5⟩ := yr
  have g1 := hG.1
  have g2 := hG.2.1
  have rv : sg_R v := ⟨by omega, by omega⟩
  have ri : sg_R i := ⟨by omega, by omega⟩
  have l1 := imF_1 3 (l.getD n (nmF 0))
  obtain ⟨c1, c2⟩ := yX_cell hG hy hn
  rw [← hi] at c1 c2
  refine wk_b tt_62 4 (pc' := 6) (ls' := [(0, .inr (.inr (.ref 61))), (1, .inl (v)), (2, .inl (i)), (3, .inl (3))]) (st' := [.inl (i), .inl (v), .inr (.inr (.ref 77))]) (σ' := σ) rfl ?_
  refine wk_callp tt_62 rfl rfl rfl rfl rfl tt_100 rfl (by decide) (w_lCell z σ v i rv ri c2) ?_
  have rq : sg_R (v_lCell σ v i) := vr_lCell σ v i rv ri c2
  generalize e5 : v_lCell σ v i = q5 at rq
  rw [e5] at c1
  refine wk_b tt_62 4 (pc' := 17) (ls' := [(4, .inl (q5)), (0, .inr (.inr (.ref 61))), (1, .inl (v)), (2, .inl (i)), (3, .inl (3))]) (st' := [.inl (q5), .inr (.inr (.ref 65))]) (σ' := σ) rfl ?_
  refine wk_call tt_62 rfl rfl rfl rfl rfl tt_91 rfl (by decide) (i65_add z σ (q5) rq ⟨by omega, by omega⟩) (fun w7 σ8 hq9 => ?_)
  obtain ⟨rfl, f8, t8⟩ := hq9
  refine wk_b tt_62 1 (pc' := 21) (ls' := [(4, .inl (q5)), (0, .inr (.inr (.ref 61))), (1, .inl (v)), (2, .inl (i)), (3, .inl (3))]) (st' := [.inl (3)]) (σ' := σ8) rfl ?_
  refine wk_if tt_62 (tgt := 75) rfl rfl (by decide) (fun h12 => ?_) (fun h12 => ?_)
  · simp only [sg_c, sg_nc] at h12
    exfalso; omega
  · obtain ⟨it, hit⟩ : ∃ it, it = itF (l.getD n (nmF 0)) := ⟨_, rfl⟩
    have ci : q5 = (it.length : Int) := by
      rw [c1, hit, itF_l]
      have := (hy.2.1 n hn).2.1
      omega
    have i200 : it.length ≤ 200 := by
      have := (hy.2.1 n hn).2.2
      rw [← c1, ci] at this
      omega
    obtain ⟨s1, s2, -⟩ := yX_st hG hy hn
    rw [← hi] at s1 s2
    have pI : p_lItems σ v := ⟨fun _ => trivial, fun _ => ⟨fun _ => trivial, fun _ => ⟨⟨by omega, by omega⟩, trivial⟩⟩⟩
    have eI := y_items hG (yX_c hy).1
    have yI : yX σ 2 (v_lItems σ v) (flF l) := by rw [eI]; exact hy.2.2.2
    have eim : imF 3 (l.getD n (nmF 0)) = [q5] ++ imL (imF 2) it := by
      rw [ci, hit]
      simp only [imF, List.cons_append, List.nil_append]
    have aB := ahF_b hn
    rw [← hit] at aB
    have yrI := (yX_c yI).1
    have l8 : (imL (imF 2) it).length + 1 = (imF 3 (l.getD n (nmF 0))).length := by rw [eim, List.length_append]; simp only [List.length_cons, List.length_nil]; omega
    refine wk_b tt_62 2 (pc' := 27) (ls' := [(5, .inl (0)), (4, .inl (q5)), (0, .inr (.inr (.ref 61))), (1, .inl (v)), (2, .inl (i)), (3, .inl (3))]) (st' := []) (σ' := σ8) rfl ?_
    have lp : ∀ (r dn : List vaF) (x : Int) (σ14 : sg_S), dn ++ r = it → x = dn.length → sg_F [3065, 68] σ σ14 → aIm 65 68 σ σ14 ([q5] ++ imL (imF 2) dn) → wx z 5 62 27 [(0, .inr (.inr (.ref 61))), (1, .inl (v)), (2, .inl (i)), (3, .inl (3)), (4, .inl (q5)), (5, .inl (x))] [] σ14 (fun w σ' => w = none ∧ sg_F [3065, 68] σ σ' ∧ aIm 65 68 σ σ' (imF 3 (l.getD n (nmF 0)))) := fun r => by
      induction r with
      | nil =>
        intro dn x σ14 ed ex F14 T14
        rw [List.append_nil] at ed
        rw [ed] at T14 ex
        refine wk_b tt_62 2 (pc' := 31) (ls' := [(0, .inr (.inr (.ref 61))), (1, .inl (v)), (2, .inl (i)), (3, .inl (3)), (4, .inl (q5)), (5, .inl (x))]) (st' := [.inl (q5), .inl (x)]) (σ' := σ14) rfl ?_
        refine wk_if2 tt_62 (tgt := 75) rfl rfl ⟨by omega, by omega⟩ rq (fun h22 => ?_) (fun h22 => ?_)
        · refine wk_rV tt_62 rfl rfl ⟨rfl, F14, ?_⟩
          rw [eim]
          exact T14
        · simp only [sg_c, sg_nc] at h22
          exfalso; omega
      | cons w r ih =>
        intro dn x σ14 ed ex F14 T14
        have ew : (dn ++ [w]) ++ r = it := by rw [List.append_assoc]; exact ed
        have lb : dn.length + 1 + r.length = it.length := by rw [← ed, List.length_append, List.length_cons]; omega
        have gw : it[dn.length]? = some w := by rw [← ed, List.getElem?_append_right (Nat.le_refl _), Nat.sub_self]; rfl
        have hw : (flF l).getD (ahF l n + dn.length) (nmF 0) = w := by
          rw [List.getD_eq_getElem?_getD, fl_g hn (by rw [← hit]; omega), ← hit, gw]; rfl
        have ebl : (imL (imF 2) it).length = (imL (imF 2) dn).length + (imF 2 w).length + (imL (imF 2) r).length := by rw [← ed, imL_a, List.length_append]; simp only [imL, List.length_append]; omega
        have G14 : yG σ14 := yG_F hG F14 rfl
        have Y14 : yX σ14 2 (v_lItems σ v) (flF l) := yX_up (yEx_F F14 rfl) yI
        have l14 := T14.1
        simp only [List.length_append, List.length_cons, List.length_nil] at l14
        refine wk_b tt_62 2 (pc' := 31) (ls' := [(0, .inr (.inr (.ref 61))), (1, .inl (v)), (2, .inl (i)), (3, .inl (3)), (4, .inl (q5)), (5, .inl (x))]) (st' := [.inl (q5), .inl (x)]) (σ' := σ14) rfl ?_
        refine wk_if2 tt_62 (tgt := 75) rfl rfl ⟨by omega, by omega⟩ rq (fun h22 => ?_) (fun h22 => ?_)
        · simp only [sg_c, sg_nc] at h22
          exfalso; omega
        · refine wk_b tt_62 2 (pc' := 39) (ls' := [(0, .inr (.inr (.ref 61))), (1, .inl (v)), (2, .inl (i)), (3, .inl (3)), (4, .inl (q5)), (5, .inl (x))]) (st' := [.inl (200), .inl (x)]) (σ' := σ14) rfl ?_
          refine wk_if2 tt_62 (tgt := 75) rfl rfl ⟨by omega, by omega⟩ (by decide) (fun h23 => ?_) (fun h23 => ?_)
          · simp only [sg_c, sg_nc] at h23
            exfalso; omega
          · refine wk_b tt_62 4 (pc' := 48) (ls' := [(0, .inr (.inr (.ref 61))), (1, .inl (v)), (2, .inl (i)), (3, .inl (3)), (4, .inl (q5)), (5, .inl (x))]) (st' := [.inl (v), .inr (.inr (.ref 77)), .inr (.inr (.ref 61))]) (σ' := σ14) rfl ?_
            have e28 : v_lItems σ14 v = v_lItems σ v := vF_lItems F14 rfl
            refine wk_callp tt_62 rfl rfl rfl rfl rfl tt_106 rfl (by decide) (w_lItems z σ14 v rv pI) ?_
            rw [e28]
            have r28 : sg_R (v_lItems σ v) := vr_lItems σ v rv pI
            generalize v_lItems σ v = q28 at *
            refine wk_b tt_62 4 (pc' := 57) (ls' := [(0, .inr (.inr (.ref 61))), (1, .inl (v)), (2, .inl (i)), (3, .inl (3)), (4, .inl (q5)), (5, .inl (x))]) (st' := [.inl (i), .inl (v), .inr (.inr (.ref 77)), .inl (q28), .inr (.inr (.ref 61))]) (σ' := σ14) rfl ?_
            have e34 : v_lStart σ14 v i = (ahF l n : Int) := by rw [vF_lStart F14 rfl rfl]; exact s1
            refine wk_callp tt_62 rfl rfl rfl rfl rfl tt_114 rfl (by decide) (w_lStart z σ14 v i rv ri (by rw [pF_lStart F14 rfl rfl]; exact s2)) ?_
            rw [e34]
            refine wk_b tt_62 5 (pc' := 66) (ls' := [(0, .inr (.inr (.ref 61))), (1, .inl (v)), (2, .inl (i)), (3, .inl (3)), (4, .inl (q5)), (5, .inl (x))]) (st' := [.inl (((3 : Int) - 1)), .inl (((ahF l n : Int) + x)), .inl (q28), .inr (.inr (.ref 61))]) (σ' := σ14) rfl ?_
            rw [show ((3 : Int) - 1) = 2 from rfl]
            refine wk_call tt_62 rfl rfl rfl rfl rfl tt_62 rfl (by decide) (dLn2 z σ14 (flF l) q28 ((ahF l n : Int) + x) (ahF l n + dn.length) G14 Y14 (by omega) (by omega) (by rw [hw]; omega)) (fun w36 σ37 hq38 => ?_)
            obtain ⟨rfl, f37, t37⟩ := hq38
            rw [hw] at t37
            refine wk_b tt_62 2 (pc' := 27) (ls' := [(5, .inl ((x + 1))), (0, .inr (.inr (.ref 61))), (1, .inl (v)), (2, .inl (i)), (3, .inl (3)), (4, .inl (q5))]) (st' := []) (σ' := σ37) rfl ?_
            refine wk_ls [(0, .inr (.inr (.ref 61))), (1, .inl (v)), (2, .inl (i)), (3, .inl (3)), (4, .inl (q5)), (5, .inl ((x + 1)))] rfl ⟨rfl, rfl, rfl, rfl, rfl, rfl, trivial⟩ ?_
            refine ih (dn ++ [w]) (x + 1) σ37 ew (by rw [List.length_append, List.length_cons, List.length_nil]; omega) (sg_F_t F14 f37) ?_
            have := aIm_t T14 t37
            rw [List.append_assoc, ← imL_s] at this
            exact this
    refine wk_ls [(0, .inr (.inr (.ref 61))), (1, .inl (v)), (2, .inl (i)), (3, .inl (3)), (4, .inl (q5)), (5, .inl (0))] rfl ⟨rfl, rfl, rfl, rfl, rfl, rfl, trivial⟩ ?_
    exact lp it [] 0 σ8 rfl rfl f8 t8
set_option maxRecDepth 8000 in
theorem dFl0 (z : Value) (σ : sg_S) (w0 : vaF) (v : Int) (rv : sg_R v) (hG : yG σ) (hy : yX σ 0 v [w0]) (h2 : sg_g σ 65 2 = 0) (hl : (imF 0 w0).length ≤ 6001) : wx z 3 61 0 [(0, .inr (.inr (.ref 61))), (1, .inl (v)), (2, .inl (0))] [] σ (fun w σ' => w = none ∧ sg_F [3065, 68] σ σ' ∧ aIm 65 68 σ σ' (imF 0 w0)) := by
  refine wk_b tt_61 4 (pc' := 4) (ls' := [(0, .inr (.inr (.ref 61))), (1, .inl (v)), (2, .inl (0))]) (st' := [.inl (0), .inl (0), .inl (v), .inr (.inr (.ref 61))]) (σ' := σ) rfl ?_
  refine wk_call tt_61 rfl rfl rfl rfl rfl tt_62 rfl (by decide) (dLn0 z σ [w0] v 0 0 hG hy (by simp) rfl (by rw [h2]; simp only [List.getD_cons_zero]; omega)) (fun w1 σ2 hq3 => ?_)
  obtain ⟨rfl, f2, t2⟩ := hq3
  exact wk_rV tt_61 rfl rfl ⟨rfl, f2, t2⟩
set_option maxRecDepth 8000 in
theorem dFl1 (z : Value) (σ : sg_S) (w0 : vaF) (v : Int) (rv : sg_R v) (hG : yG σ) (hy : yX σ 1 v [w0]) (h2 : sg_g σ 65 2 = 0) (hl : (imF 1 w0).length ≤ 6001) : wx z 4 61 0 [(0, .inr (.inr (.ref 61))), (1, .inl (v)), (2, .inl (1))] [] σ (fun w σ' => w = none ∧ sg_F [3065, 68] σ σ' ∧ aIm 65 68 σ σ' (imF 1 w0)) := by
  refine wk_b tt_61 4 (pc' := 4) (ls' := [(0, .inr (.inr (.ref 61))), (1, .inl (v)), (2, .inl (1))]) (st' := [.inl (1), .inl (0), .inl (v), .inr (.inr (.ref 61))]) (σ' := σ) rfl ?_
  refine wk_call tt_61 rfl rfl rfl rfl rfl tt_62 rfl (by decide) (dLn1 z σ [w0] v 0 0 hG hy (by simp) rfl (by rw [h2]; simp only [List.getD_cons_zero]; omega)) (fun w1 σ2 hq3 => ?_)
  obtain ⟨rfl, f2, t2⟩ := hq3
  exact wk_rV tt_61 rfl rfl ⟨rfl, f2, t2⟩
set_option maxRecDepth 8000 in
theorem dFl2 (z : Value) (σ : sg_S) (w0 : vaF) (v : Int) (rv : sg_R v) (hG : yG σ) (hy : yX σ 2 v [w0]) (h2 : sg_g σ 65 2 = 0) (hl : (imF 2 w0).length ≤ 6001) : wx z 5 61 0 [(0, .inr (.inr (.ref 61))), (1, .inl (v)), (2, .inl (2))] [] σ (fun w σ' => w = none ∧ sg_F [3065, 68] σ σ' ∧ aIm 65 68 σ σ' (imF 2 w0)) := by
  refine wk_b tt_61 4 (pc' := 4) (ls' := [(0, .inr (.inr (.ref 61))), (1, .inl (v)), (2, .inl (2))]) (st' := [.inl (2), .inl (0), .inl (v), .inr (.inr (.ref 61))]) (σ' := σ) rfl ?_
  refine wk_call tt_61 rfl rfl rfl rfl rfl tt_62 rfl (by decide) (dLn2 z σ [w0] v 0 0 hG hy (by simp) rfl (by rw [h2]; simp only [List.getD_cons_zero]; omega)) (fun w1 σ2 hq3 => ?_)
  obtain ⟨rfl, f2, t2⟩ := hq3
  exact wk_rV tt_61 rfl rfl ⟨rfl, f2, t2⟩
set_option maxRecDepth 8000 in
theorem dFl3 (z : Value) (σ : sg_S) (w0 : vaF) (v : Int) (rv : sg_R v) (hG : yG σ) (hy : yX σ 3 v [w0]) (h2 : sg_g σ 65 2 = 0) (hl : (imF 3 w0).length ≤ 6001) : wx z 6 61 0 [(0, .inr (.inr (.ref 61))), (1, .inl (v)), (2, .inl (3))] [] σ (fun w σ' => w = none ∧ sg_F [3065, 68] σ σ' ∧ aIm 65 68 σ σ' (imF 3 w0)) := by
  refine wk_b tt_61 4 (pc' := 4) (ls' := [(0, .inr (.inr (.ref 61))), (1, .inl (v)), (2, .inl (3))]) (st' := [.inl (3), .inl (0), .inl (v), .inr (.inr (.ref 61))]) (σ' := σ) rfl ?_
  refine wk_call tt_61 rfl rfl rfl rfl rfl tt_62 rfl (by decide) (dLn3 z σ [w0] v 0 0 hG hy (by simp) rfl (by rw [h2]; simp only [List.getD_cons_zero]; omega)) (fun w1 σ2 hq3 => ?_)
  obtain ⟨rfl, f2, t2⟩ := hq3
  exact wk_rV tt_61 rfl rfl ⟨rfl, f2, t2⟩
