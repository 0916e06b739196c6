/-! THE LAW, on a script of at most three ints. -/
theorem am_lift {z : Value} {sc : Option (Nat × (Nat → Int32))} {n d d' j pc : Nat} {ls : am_L} {st : List Value} {h : am_H} {r : Option Value × am_H} (hd : d ≤ d') (hs : am_ex (am_E0 z none) am_T0 n d j pc ls st h = some r) : am_run (am_E0 z sc) am_T0 d' j pc ls st h r.1 r.2 := ⟨n, am_ex_sc sc (Nat.le_refl n) hd hs⟩
theorem am_chk_of {z : Value} (h : am_chk z = true) : (∃ r, am_rA z = some r ∧ r.1 = none ∧ am_hA z = r.2) ∧ (am_hA z).length = 88 ∧ (∃ r, am_rB z = some r ∧ r.1 = none ∧ am_hB z = r.2) ∧ am_new0 (am_hB z) ∧ (∃ f, (am_hB z)[1]? = some (.inl (1, 1200, f))) ∧ (∃ f, (am_hB z)[89]? = some (.inl (0, 1200, f))) ∧ (am_hB z).length = 152 ∧ am_sz (am_hB z) = 855540 ∧ am_pairs.all (am_pair z) = true := by
  simp only [am_chk, Bool.and_eq_true, decide_eq_true_eq] at h
  obtain ⟨⟨⟨⟨⟨⟨⟨⟨⟨⟨⟨h1, h2⟩, h3⟩, h4⟩, h5⟩, h6⟩, h7⟩, h8⟩, h9⟩, h10⟩, h11⟩, h12⟩ := h
  refine ⟨?_, h2, ?_, ⟨am_obj_eq h4, am_obj_eq h5, am_obj_eq h6, am_obj_eq h7⟩, am_arr_eq h8, am_arr_eq h9, h10, h11, h12⟩
  · unfold am_hA
    cases hr : am_rA z with
    | none => rw [hr] at h1; cases h1
    | some r =>
      rw [hr] at h1
      exact ⟨r, rfl, Option.some.inj h1, rfl⟩
  · unfold am_hB
    cases hr : am_rB z with
    | none => rw [hr] at h3; cases h3
    | some r =>
      rw [hr] at h3
      exact ⟨r, rfl, Option.some.inj h3, rfl⟩
theorem am_pair_of {z : Value} {q : Nat × List Value × Nat × List Value × Int32} (h : am_pair z q = true) : ∃ r s fs, am_ex (am_E0 z none) am_T0 3000 40 q.1 0 (lv_args 0 q.2.1) [] (am_hB z) = some r ∧ am_ex (am_E0 z none) am_T0 3000 40 q.2.2.1 0 (lv_args 0 q.2.2.2.1) [] r.2 = some s ∧ r.1 = some (.int q.2.2.2.2) ∧ s.1 = some (.int q.2.2.2.2) ∧ r.2[88]? = some (.inr (.inr (11, fs))) ∧ s.2.length = 152 ∧ am_sz s.2 = 855540 := by
  unfold am_pair at h
  split at h
  · cases h
  · rename_i r hr
    split at h
    · cases h
    · rename_i s hs
      simp only [Bool.and_eq_true, decide_eq_true_eq] at h
      obtain ⟨⟨⟨⟨h1, h2⟩, h3⟩, h4⟩, h5⟩ := h
      cases ho : am_obj r.2 88 with
      | none => rw [ho] at h5; cases h5
      | some q9 =>
        rw [ho] at h5
        obtain ⟨ci, fs⟩ := q9
        have e9 : ci = 11 := Option.some.inj h5
        subst e9
        exact ⟨r, s, fs, hr, hs, h1, h2, am_obj_eq ho, h3, h4⟩
theorem am_cq (x : Int32) : am_cmp .eq x x = true := by simp [am_cmp]
def p_fin (h : am_H) : Prop := h.length = 152 ∧ am_sz h = 855540
section PL
variable {z : Value} {L : Nat} {xs : Nat → Int32} {h : am_H}
set_option maxHeartbeats 4000000 in
set_option maxRecDepth 100000 in
theorem pl_exit (i : Int32) (hc : am_cmp .gt i (Int32.ofNat L - 3) = true) : am_run (am_E0 z (some (L, xs))) am_T0 (999 + 1) 0 18 [(3, .int i), (2, .ref 88), (1, .ref 0), (0, .retAddr 9999)] [] h (some (.int 1)) h := by
  refine am_s0 (M := tm_0) rfl rfl rfl rfl ?_
  refine am_s0 (M := tm_0) rfl rfl rfl rfl ?_
  refine am_s0 (M := tm_0) rfl rfl rfl rfl ?_
  refine am_s0 (M := tm_0) rfl rfl rfl rfl ?_
  refine am_s0 (M := tm_0) rfl rfl rfl rfl ?_
  refine am_rT2 (M := tm_0) (tgt := 410) rfl rfl (hc) rfl ?_
  refine am_s0 (M := tm_0) rfl rfl rfl rfl ?_
  exact am_r1 (M := tm_0) rfl rfl rfl (rfl)
set_option maxHeartbeats 4000000 in
set_option maxRecDepth 100000 in
theorem pl_tail : am_run (am_E0 z (some (3, xs))) am_T0 (999 + 1) 0 404 [(3, .int 0), (2, .ref 88), (1, .ref 0), (0, .retAddr 9999)] [] h (some (.int 1)) h := by
  refine am_s0 (M := tm_0) rfl rfl rfl rfl ?_
  refine am_rJ (M := tm_0) (tgt := 18) rfl rfl rfl ?_
  exact pl_exit (0 + 3) (by decide)
set_option maxHeartbeats 4000000 in
set_option maxRecDepth 100000 in
theorem pl_cases (hk : am_chk z = true) (k : Nat) (hk16 : k < 16) : ∃ h2, p_fin h2 ∧ am_run (am_E0 z (some (3, xs))) am_T0 (999 + 1) 0 32 [(3, .int 0), (2, .ref 88), (1, .ref 0), (0, .retAddr 9999)] [.int (nI k)] (am_hB z) (some (.int 1)) h2 := by
  obtain ⟨-, -, -, F, ⟨f1, H1⟩, ⟨f2, H2⟩, hl, hs, hp⟩ := am_chk_of hk
  have hfin : p_fin (am_hB z) := ⟨hl, hs⟩
  have hpq := fun q hq => am_pair_of (List.all_eq_true.mp hp q hq)
  match k, hk16 with
  | 0, _ =>
    obtain ⟨n, hn, hlt, hend⟩ := p_cnt (((xs 1).toInt64 <<< ((32 : Int32).toInt64 &&& 63)) ||| ((xs 2).toInt64 &&& 4294967295))
    obtain ⟨g, hg⟩ := px_feed (E := am_E0 z (some (3, xs))) (d := 998) F H1 _ hn hlt hend
    have F88 : (p_hh (am_hB z) (nI n) g)[88]? = some (.inr (.inr (11, fM0))) := by
      unfold p_hh
      rw [am_so (by decide), am_so (by decide)]
      exact F.2.2.2
    have F89 : (p_hh (am_hB z) (nI n) g)[89]? = some (.inl (0, 1200, f2)) := by
      unfold p_hh
      rw [am_so (by decide), am_so (by decide)]
      exact H2
    obtain ⟨g2, hg2⟩ := pm_feed (E := am_E0 z (some (3, xs))) (d := 999) F88 F89 _ hn hlt hend
    rw [Int32.zero_add] at hg2
    refine ⟨(List.set (p_hh (am_hB z) (nI n) g) 89 (.inl (0, 1200, g2))).set 88 (.inr (.inr (11, fM0.set 2 (.int (nI n))))), ?_, ?_⟩
    rotate_left
    · refine am_s0 (M := tm_0) (pc' := 96) (ls' := [(3, .int 0), (2, .ref 88), (1, .ref 0), (0, .retAddr 9999)]) (st' := []) rfl rfl rfl rfl ?_
      refine am_s0 (M := tm_0) rfl rfl rfl rfl ?_
      refine am_s0 (M := tm_0) rfl rfl rfl rfl ?_
      refine am_s0 (M := tm_0) rfl rfl rfl rfl ?_
      refine am_s0 (M := tm_0) rfl rfl rfl rfl ?_
      refine am_s0 (M := tm_0) rfl rfl rfl rfl ?_
      refine am_s0 (M := tm_0) rfl rfl rfl rfl ?_
      refine am_s0 (M := tm_0) rfl rfl rfl rfl ?_
      refine am_s0 (M := tm_0) rfl rfl rfl rfl ?_
      refine am_s0 (M := tm_0) rfl rfl rfl rfl ?_
      refine am_s0 (M := tm_0) rfl rfl rfl rfl ?_
      refine am_s0 (M := tm_0) rfl rfl rfl rfl ?_
      refine am_s0 (M := tm_0) rfl rfl rfl rfl ?_
      refine am_s0 (M := tm_0) rfl rfl rfl rfl ?_
      refine am_s0 (M := tm_0) rfl rfl rfl rfl ?_
      refine am_s0 (M := tm_0) rfl rfl rfl rfl ?_
      refine am_s0 (M := tm_0) rfl rfl rfl rfl ?_
      refine am_s0 (M := tm_0) rfl rfl rfl rfl ?_
      refine am_s0 (M := tm_0) rfl rfl rfl rfl ?_
      refine am_rC (M := tm_0) rfl rfl rfl rfl rfl (by simp only [am_call, am_cls, F.1, List.drop]; rfl) rfl ⟨Nat.le_of_ble_eq_true rfl, Nat.le_of_ble_eq_true rfl, Nat.le_of_ble_eq_true rfl⟩ (hg) ?_
      refine am_s0 (M := tm_0) rfl rfl rfl rfl ?_
      refine am_s0 (M := tm_0) rfl rfl rfl rfl ?_
      refine am_s0 (M := tm_0) rfl rfl rfl rfl ?_
      refine am_s0 (M := tm_0) rfl rfl rfl rfl ?_
      refine am_s0 (M := tm_0) rfl rfl rfl rfl ?_
      refine am_s0 (M := tm_0) rfl rfl rfl rfl ?_
      refine am_s0 (M := tm_0) rfl rfl rfl rfl ?_
      refine am_s0 (M := tm_0) rfl rfl rfl rfl ?_
      refine am_s0 (M := tm_0) rfl rfl rfl rfl ?_
      refine am_s0 (M := tm_0) rfl rfl rfl rfl ?_
      refine am_s0 (M := tm_0) rfl rfl rfl rfl ?_
      refine am_s0 (M := tm_0) rfl rfl rfl rfl ?_
      refine am_s0 (M := tm_0) rfl rfl rfl rfl ?_
      refine am_s0 (M := tm_0) rfl rfl rfl rfl ?_
      refine am_s0 (M := tm_0) rfl rfl rfl rfl ?_
      refine am_s0 (M := tm_0) rfl rfl rfl rfl ?_
      refine am_s0 (M := tm_0) rfl rfl rfl rfl ?_
      refine am_s0 (M := tm_0) rfl rfl rfl rfl ?_
      refine am_rC (M := tm_0) rfl rfl rfl rfl rfl (by simp only [am_call, am_cls, F88, List.drop]; rfl) rfl ⟨Nat.le_of_ble_eq_true rfl, Nat.le_of_ble_eq_true rfl, Nat.le_of_ble_eq_true rfl⟩ (hg2) ?_
      refine am_rT2 (M := tm_0) (tgt := 404) rfl rfl (am_cq _) rfl ?_
      exact pl_tail
    · have FM : (List.set (p_hh (am_hB z) (nI n) g) 89 (.inl (0, 1200, g2)))[88]? = some (.inr (.inr (11, fM0))) := by rw [am_so (by decide)]; exact F88
      have e1 : am_sz (p_hh (am_hB z) (nI n) g) = am_sz (am_hB z) := by
        have q0 : (List.set (am_hB z) 1 (.inl (1, 1200, g)))[0]? = some (.inr (.inr (10, fX0))) := by rw [am_so (by decide)]; exact F.1
        exact (am_sz_set (y := .inr (.inr (10, fX0.set 8 (.int (nI n))))) q0 rfl).trans (am_sz_set (y := .inl (1, 1200, g)) H1 rfl)
      refine ⟨?_, ?_⟩
      · rw [List.length_set, List.length_set]
        unfold p_hh
        rw [List.length_set, List.length_set]
        exact hl
      · exact (am_sz_set (y := .inr (.inr (11, fM0.set 2 (.int (nI n))))) FM rfl).trans ((am_sz_set (y := .inl (0, 1200, g2)) F89 rfl).trans (e1.trans hs))
  | 1, _ =>
    refine ⟨_, hfin, ?_⟩
    refine am_s0 (M := tm_0) (pc' := 149) (ls' := [(3, .int 0), (2, .ref 88), (1, .ref 0), (0, .retAddr 9999)]) (st' := []) rfl rfl rfl rfl ?_
    refine am_s0 (M := tm_0) rfl rfl rfl rfl ?_
    refine am_s0 (M := tm_0) rfl rfl rfl rfl ?_
    refine am_s0 (M := tm_0) rfl rfl rfl rfl ?_
    refine am_s0 (M := tm_0) rfl rfl rfl rfl ?_
    refine am_s0 (M := tm_0) rfl rfl rfl rfl ?_
    refine am_s0 (M := tm_0) rfl rfl rfl rfl ?_
    refine am_rC (M := tm_0) rfl rfl rfl rfl rfl (by simp only [am_call, am_cls, F.1, List.drop]; rfl) rfl ⟨Nat.le_of_ble_eq_true rfl, Nat.le_of_ble_eq_true rfl, Nat.le_of_ble_eq_true rfl⟩ (px_cut F (xs 1)) ?_
    refine am_s0 (M := tm_0) rfl rfl rfl rfl ?_
    refine am_s0 (M := tm_0) rfl rfl rfl rfl ?_
    refine am_s0 (M := tm_0) rfl rfl rfl rfl ?_
    refine am_s0 (M := tm_0) rfl rfl rfl rfl ?_
    refine am_s0 (M := tm_0) rfl rfl rfl rfl ?_
    refine am_s0 (M := tm_0) rfl rfl rfl rfl ?_
    refine am_rC (M := tm_0) rfl rfl rfl rfl rfl (by simp only [am_call, am_cls, F.2.2.2, List.drop]; rfl) rfl ⟨Nat.le_of_ble_eq_true rfl, Nat.le_of_ble_eq_true rfl, Nat.le_of_ble_eq_true rfl⟩ (pm_cut F (xs 1)) ?_
    refine am_rT2 (M := tm_0) (tgt := 404) rfl rfl (am_cq _) rfl ?_
    exact pl_tail
  | 2, _ =>
    obtain ⟨r, s, fs, hr, hs2, e1, e2, h88, l2, z2⟩ := hpq (15, [.ref 0], 62, [.ref 88], -100) (List.mem_of_getElem? (i := 0) rfl)
    refine ⟨s.2, ⟨l2, z2⟩, ?_⟩
    have g1 := am_lift (sc := some (3, xs)) (d' := 999) (by decide) hr
    have g2 := am_lift (sc := some (3, xs)) (d' := 999) (by decide) hs2
    rw [e1] at g1
    rw [e2] at g2
    refine am_s0 (M := tm_0) (pc' := 172) (ls' := [(3, .int 0), (2, .ref 88), (1, .ref 0), (0, .retAddr 9999)]) (st' := []) rfl rfl rfl rfl ?_
    refine am_s0 (M := tm_0) rfl rfl rfl rfl ?_
    refine am_rC (M := tm_0) rfl rfl rfl rfl rfl (by simp only [am_call, am_cls, F.1, List.drop]; rfl) rfl ⟨Nat.le_of_ble_eq_true rfl, Nat.le_of_ble_eq_true rfl, Nat.le_of_ble_eq_true rfl⟩ (g1) ?_
    refine am_s0 (M := tm_0) rfl rfl rfl rfl ?_
    refine am_rC (M := tm_0) rfl rfl rfl rfl rfl (by simp only [am_call, am_cls, h88, List.drop]; rfl) rfl ⟨Nat.le_of_ble_eq_true rfl, Nat.le_of_ble_eq_true rfl, Nat.le_of_ble_eq_true rfl⟩ (g2) ?_
    refine am_rT2 (M := tm_0) (tgt := 404) rfl rfl (am_cq _) rfl ?_
    exact pl_tail
  | 3, _ =>
    obtain ⟨r, s, fs, hr, hs2, e1, e2, h88, l2, z2⟩ := hpq (8, [.ref 0], 50, [.ref 88], 0) (List.mem_of_getElem? (i := 1) rfl)
    refine ⟨s.2, ⟨l2, z2⟩, ?_⟩
    have g1 := am_lift (sc := some (3, xs)) (d' := 999) (by decide) hr
    have g2 := am_lift (sc := some (3, xs)) (d' := 999) (by decide) hs2
    rw [e1] at g1
    rw [e2] at g2
    refine am_s0 (M := tm_0) (pc' := 185) (ls' := [(3, .int 0), (2, .ref 88), (1, .ref 0), (0, .retAddr 9999)]) (st' := []) rfl rfl rfl rfl ?_
    refine am_s0 (M := tm_0) rfl rfl rfl rfl ?_
    refine am_rC (M := tm_0) rfl rfl rfl rfl rfl (by simp only [am_call, am_cls, F.1, List.drop]; rfl) rfl ⟨Nat.le_of_ble_eq_true rfl, Nat.le_of_ble_eq_true rfl, Nat.le_of_ble_eq_true rfl⟩ (g1) ?_
    refine am_s0 (M := tm_0) rfl rfl rfl rfl ?_
    refine am_rC (M := tm_0) rfl rfl rfl rfl rfl (by simp only [am_call, am_cls, h88, List.drop]; rfl) rfl ⟨Nat.le_of_ble_eq_true rfl, Nat.le_of_ble_eq_true rfl, Nat.le_of_ble_eq_true rfl⟩ (g2) ?_
    refine am_rT2 (M := tm_0) (tgt := 404) rfl rfl (am_cq _) rfl ?_
    exact pl_tail
  | 4, _ =>
    refine ⟨_, hfin, ?_⟩
    refine am_s0 (M := tm_0) (pc' := 198) (ls' := [(3, .int 0), (2, .ref 88), (1, .ref 0), (0, .retAddr 9999)]) (st' := []) rfl rfl rfl rfl ?_
    refine am_s0 (M := tm_0) rfl rfl rfl rfl ?_
    refine am_s0 (M := tm_0) rfl rfl rfl rfl ?_
    refine am_s0 (M := tm_0) rfl rfl rfl rfl ?_
    refine am_s0 (M := tm_0) rfl rfl rfl rfl ?_
    refine am_s0 (M := tm_0) rfl rfl rfl rfl ?_
    refine am_s0 (M := tm_0) rfl rfl rfl rfl ?_
    refine am_rC (M := tm_0) rfl rfl rfl rfl rfl (by simp only [am_call, am_cls, F.1, List.drop]; rfl) rfl ⟨Nat.le_of_ble_eq_true rfl, Nat.le_of_ble_eq_true rfl, Nat.le_of_ble_eq_true rfl⟩ (px_about F (xs 1)) ?_
    refine am_s0 (M := tm_0) rfl rfl rfl rfl ?_
    refine am_s0 (M := tm_0) rfl rfl rfl rfl ?_
    refine am_s0 (M := tm_0) rfl rfl rfl rfl ?_
    refine am_s0 (M := tm_0) rfl rfl rfl rfl ?_
    refine am_s0 (M := tm_0) rfl rfl rfl rfl ?_
    refine am_s0 (M := tm_0) rfl rfl rfl rfl ?_
    refine am_rC (M := tm_0) rfl rfl rfl rfl rfl (by simp only [am_call, am_cls, F.2.2.2, List.drop]; rfl) rfl ⟨Nat.le_of_ble_eq_true rfl, Nat.le_of_ble_eq_true rfl, Nat.le_of_ble_eq_true rfl⟩ (pm_about F (xs 1)) ?_
    refine am_rT2 (M := tm_0) (tgt := 404) rfl rfl (am_cq _) rfl ?_
    exact pl_tail
  | 5, _ =>
    refine ⟨_, hfin, ?_⟩
    refine am_s0 (M := tm_0) (pc' := 221) (ls' := [(3, .int 0), (2, .ref 88), (1, .ref 0), (0, .retAddr 9999)]) (st' := []) rfl rfl rfl rfl ?_
    refine am_s0 (M := tm_0) rfl rfl rfl rfl ?_
    refine am_s0 (M := tm_0) rfl rfl rfl rfl ?_
    refine am_s0 (M := tm_0) rfl rfl rfl rfl ?_
    refine am_s0 (M := tm_0) rfl rfl rfl rfl ?_
    refine am_s0 (M := tm_0) rfl rfl rfl rfl ?_
    refine am_s0 (M := tm_0) rfl rfl rfl rfl ?_
    refine am_s0 (M := tm_0) rfl rfl rfl rfl ?_
    refine am_s0 (M := tm_0) rfl rfl rfl rfl ?_
    refine am_s0 (M := tm_0) rfl rfl rfl rfl ?_
    refine am_s0 (M := tm_0) rfl rfl rfl rfl ?_
    refine am_s0 (M := tm_0) rfl rfl rfl rfl ?_
    refine am_rC (M := tm_0) rfl rfl rfl rfl rfl (by simp only [am_call, am_cls, F.1, List.drop]; rfl) rfl ⟨Nat.le_of_ble_eq_true rfl, Nat.le_of_ble_eq_true rfl, Nat.le_of_ble_eq_true rfl⟩ (px_node F (xs 1) (xs 2)) ?_
    refine am_s0 (M := tm_0) rfl rfl rfl rfl ?_
    refine am_s0 (M := tm_0) rfl rfl rfl rfl ?_
    refine am_s0 (M := tm_0) rfl rfl rfl rfl ?_
    refine am_s0 (M := tm_0) rfl rfl rfl rfl ?_
    refine am_s0 (M := tm_0) rfl rfl rfl rfl ?_
    refine am_s0 (M := tm_0) rfl rfl rfl rfl ?_
    refine am_s0 (M := tm_0) rfl rfl rfl rfl ?_
    refine am_s0 (M := tm_0) rfl rfl rfl rfl ?_
    refine am_s0 (M := tm_0) rfl rfl rfl rfl ?_
    refine am_s0 (M := tm_0) rfl rfl rfl rfl ?_
    refine am_s0 (M := tm_0) rfl rfl rfl rfl ?_
    refine am_rC (M := tm_0) rfl rfl rfl rfl rfl (by simp only [am_call, am_cls, F.2.2.2, List.drop]; rfl) rfl ⟨Nat.le_of_ble_eq_true rfl, Nat.le_of_ble_eq_true rfl, Nat.le_of_ble_eq_true rfl⟩ (pm_node F (xs 1) (xs 2)) ?_
    refine am_rT2 (M := tm_0) (tgt := 404) rfl rfl (am_cq _) rfl ?_
    exact pl_tail
  | 6, _ =>
    obtain ⟨r, s, fs, hr, hs2, e1, e2, h88, l2, z2⟩ := hpq (12, [.ref 0], 59, [.ref 88], -4) (List.mem_of_getElem? (i := 2) rfl)
    refine ⟨s.2, ⟨l2, z2⟩, ?_⟩
    have g1 := am_lift (sc := some (3, xs)) (d' := 999) (by decide) hr
    have g2 := am_lift (sc := some (3, xs)) (d' := 999) (by decide) hs2
    rw [e1] at g1
    rw [e2] at g2
    refine am_s0 (M := tm_0) (pc' := 254) (ls' := [(3, .int 0), (2, .ref 88), (1, .ref 0), (0, .retAddr 9999)]) (st' := []) rfl rfl rfl rfl ?_
    refine am_s0 (M := tm_0) rfl rfl rfl rfl ?_
    refine am_rC (M := tm_0) rfl rfl rfl rfl rfl (by simp only [am_call, am_cls, F.1, List.drop]; rfl) rfl ⟨Nat.le_of_ble_eq_true rfl, Nat.le_of_ble_eq_true rfl, Nat.le_of_ble_eq_true rfl⟩ (g1) ?_
    refine am_s0 (M := tm_0) rfl rfl rfl rfl ?_
    refine am_rC (M := tm_0) rfl rfl rfl rfl rfl (by simp only [am_call, am_cls, h88, List.drop]; rfl) rfl ⟨Nat.le_of_ble_eq_true rfl, Nat.le_of_ble_eq_true rfl, Nat.le_of_ble_eq_true rfl⟩ (g2) ?_
    refine am_rT2 (M := tm_0) (tgt := 404) rfl rfl (am_cq _) rfl ?_
    exact pl_tail
  | 7, _ =>
    obtain ⟨r, s, fs, hr, hs2, e1, e2, h88, l2, z2⟩ := hpq (10, [.ref 0], 52, [.ref 88], -4) (List.mem_of_getElem? (i := 3) rfl)
    refine ⟨s.2, ⟨l2, z2⟩, ?_⟩
    have g1 := am_lift (sc := some (3, xs)) (d' := 999) (by decide) hr
    have g2 := am_lift (sc := some (3, xs)) (d' := 999) (by decide) hs2
    rw [e1] at g1
    rw [e2] at g2
    refine am_s0 (M := tm_0) (pc' := 267) (ls' := [(3, .int 0), (2, .ref 88), (1, .ref 0), (0, .retAddr 9999)]) (st' := []) rfl rfl rfl rfl ?_
    refine am_s0 (M := tm_0) rfl rfl rfl rfl ?_
    refine am_rC (M := tm_0) rfl rfl rfl rfl rfl (by simp only [am_call, am_cls, F.1, List.drop]; rfl) rfl ⟨Nat.le_of_ble_eq_true rfl, Nat.le_of_ble_eq_true rfl, Nat.le_of_ble_eq_true rfl⟩ (g1) ?_
    refine am_s0 (M := tm_0) rfl rfl rfl rfl ?_
    refine am_rC (M := tm_0) rfl rfl rfl rfl rfl (by simp only [am_call, am_cls, h88, List.drop]; rfl) rfl ⟨Nat.le_of_ble_eq_true rfl, Nat.le_of_ble_eq_true rfl, Nat.le_of_ble_eq_true rfl⟩ (g2) ?_
    refine am_rT2 (M := tm_0) (tgt := 404) rfl rfl (am_cq _) rfl ?_
    exact pl_tail
  | 8, _ =>
    refine ⟨_, hfin, ?_⟩
    refine am_s0 (M := tm_0) (pc' := 280) (ls' := [(3, .int 0), (2, .ref 88), (1, .ref 0), (0, .retAddr 9999)]) (st' := []) rfl rfl rfl rfl ?_
    refine am_s0 (M := tm_0) rfl rfl rfl rfl ?_
    refine am_s0 (M := tm_0) rfl rfl rfl rfl ?_
    refine am_s0 (M := tm_0) rfl rfl rfl rfl ?_
    refine am_s0 (M := tm_0) rfl rfl rfl rfl ?_
    refine am_s0 (M := tm_0) rfl rfl rfl rfl ?_
    refine am_s0 (M := tm_0) rfl rfl rfl rfl ?_
    refine am_rC (M := tm_0) rfl rfl rfl rfl rfl (by simp only [am_call, am_cls, F.1, List.drop]; rfl) rfl ⟨Nat.le_of_ble_eq_true rfl, Nat.le_of_ble_eq_true rfl, Nat.le_of_ble_eq_true rfl⟩ (px_meter F (xs 1)) ?_
    refine am_s0 (M := tm_0) rfl rfl rfl rfl ?_
    refine am_s0 (M := tm_0) rfl rfl rfl rfl ?_
    refine am_s0 (M := tm_0) rfl rfl rfl rfl ?_
    refine am_s0 (M := tm_0) rfl rfl rfl rfl ?_
    refine am_s0 (M := tm_0) rfl rfl rfl rfl ?_
    refine am_s0 (M := tm_0) rfl rfl rfl rfl ?_
    refine am_rC (M := tm_0) rfl rfl rfl rfl rfl (by simp only [am_call, am_cls, F.2.2.2, List.drop]; rfl) rfl ⟨Nat.le_of_ble_eq_true rfl, Nat.le_of_ble_eq_true rfl, Nat.le_of_ble_eq_true rfl⟩ (pm_meter F (xs 1)) ?_
    refine am_rT2 (M := tm_0) (tgt := 404) rfl rfl (am_cq _) rfl ?_
    exact pl_tail
  | 9, _ =>
    by_cases h0 : xs 1 = 0
    · obtain ⟨r, s, fs, hr, hs2, e1, e2, h88, l2, z2⟩ := hpq (16, [.ref 0, .int 0], 66, [.ref 88, .int 0], -4) (List.mem_of_getElem? (i := 5) rfl)
      refine ⟨s.2, ⟨l2, z2⟩, ?_⟩
      have g1 := am_lift (sc := some (3, xs)) (d' := 999) (by decide) hr
      have g2 := am_lift (sc := some (3, xs)) (d' := 999) (by decide) hs2
      rw [e1] at g1
      rw [e2] at g2
      refine am_s0 (M := tm_0) (pc' := 303) (ls' := [(3, .int 0), (2, .ref 88), (1, .ref 0), (0, .retAddr 9999)]) (st' := []) rfl rfl rfl rfl ?_
      refine am_s0 (M := tm_0) rfl rfl rfl rfl ?_
      refine am_s0 (M := tm_0) rfl rfl rfl rfl ?_
      refine am_s0 (M := tm_0) rfl rfl rfl rfl ?_
      refine am_s0 (M := tm_0) rfl rfl rfl rfl ?_
      refine am_s0 (M := tm_0) rfl rfl rfl rfl ?_
      refine am_s0 (M := tm_0) rfl rfl rfl rfl ?_
      refine am_rT (M := tm_0) (tgt := 316) rfl rfl (am_ct h0) rfl ?_
      refine am_s0 (M := tm_0) rfl rfl rfl rfl ?_
      refine am_rC (M := tm_0) rfl rfl rfl rfl rfl (by simp only [am_call, am_cls, F.1, List.drop]; rfl) rfl ⟨Nat.le_of_ble_eq_true rfl, Nat.le_of_ble_eq_true rfl, Nat.le_of_ble_eq_true rfl⟩ (g1) ?_
      refine am_s0 (M := tm_0) rfl rfl rfl rfl ?_
      refine am_s0 (M := tm_0) rfl rfl rfl rfl ?_
      refine am_s0 (M := tm_0) rfl rfl rfl rfl ?_
      refine am_s0 (M := tm_0) rfl rfl rfl rfl ?_
      refine am_s0 (M := tm_0) rfl rfl rfl rfl ?_
      refine am_s0 (M := tm_0) rfl rfl rfl rfl ?_
      refine am_rT (M := tm_0) (tgt := 333) rfl rfl (am_ct h0) rfl ?_
      refine am_s0 (M := tm_0) rfl rfl rfl rfl ?_
      refine am_rC (M := tm_0) rfl rfl rfl rfl rfl (by simp only [am_call, am_cls, h88, List.drop]; rfl) rfl ⟨Nat.le_of_ble_eq_true rfl, Nat.le_of_ble_eq_true rfl, Nat.le_of_ble_eq_true rfl⟩ (g2) ?_
      refine am_rT2 (M := tm_0) (tgt := 404) rfl rfl (am_cq _) rfl ?_
      exact pl_tail
    · obtain ⟨r, s, fs, hr, hs2, e1, e2, h88, l2, z2⟩ := hpq (16, [.ref 0, .int 1], 66, [.ref 88, .int 1], -4) (List.mem_of_getElem? (i := 4) rfl)
      refine ⟨s.2, ⟨l2, z2⟩, ?_⟩
      have g1 := am_lift (sc := some (3, xs)) (d' := 999) (by decide) hr
      have g2 := am_lift (sc := some (3, xs)) (d' := 999) (by decide) hs2
      rw [e1] at g1
      rw [e2] at g2
      refine am_s0 (M := tm_0) (pc' := 303) (ls' := [(3, .int 0), (2, .ref 88), (1, .ref 0), (0, .retAddr 9999)]) (st' := []) rfl rfl rfl rfl ?_
      refine am_s0 (M := tm_0) rfl rfl rfl rfl ?_
      refine am_s0 (M := tm_0) rfl rfl rfl rfl ?_
      refine am_s0 (M := tm_0) rfl rfl rfl rfl ?_
      refine am_s0 (M := tm_0) rfl rfl rfl rfl ?_
      refine am_s0 (M := tm_0) rfl rfl rfl rfl ?_
      refine am_s0 (M := tm_0) rfl rfl rfl rfl ?_
      refine am_rF (M := tm_0) (tgt := 316) rfl rfl (am_cf h0) rfl ?_
      refine am_s0 (M := tm_0) rfl rfl rfl rfl ?_
      refine am_rJ (M := tm_0) (tgt := 317) rfl rfl rfl ?_
      refine am_rC (M := tm_0) rfl rfl rfl rfl rfl (by simp only [am_call, am_cls, F.1, List.drop]; rfl) rfl ⟨Nat.le_of_ble_eq_true rfl, Nat.le_of_ble_eq_true rfl, Nat.le_of_ble_eq_true rfl⟩ (g1) ?_
      refine am_s0 (M := tm_0) rfl rfl rfl rfl ?_
      refine am_s0 (M := tm_0) rfl rfl rfl rfl ?_
      refine am_s0 (M := tm_0) rfl rfl rfl rfl ?_
      refine am_s0 (M := tm_0) rfl rfl rfl rfl ?_
      refine am_s0 (M := tm_0) rfl rfl rfl rfl ?_
      refine am_s0 (M := tm_0) rfl rfl rfl rfl ?_
      refine am_rF (M := tm_0) (tgt := 333) rfl rfl (am_cf h0) rfl ?_
      refine am_s0 (M := tm_0) rfl rfl rfl rfl ?_
      refine am_rJ (M := tm_0) (tgt := 334) rfl rfl rfl ?_
      refine am_rC (M := tm_0) rfl rfl rfl rfl rfl (by simp only [am_call, am_cls, h88, List.drop]; rfl) rfl ⟨Nat.le_of_ble_eq_true rfl, Nat.le_of_ble_eq_true rfl, Nat.le_of_ble_eq_true rfl⟩ (g2) ?_
      refine am_rT2 (M := tm_0) (tgt := 404) rfl rfl (am_cq _) rfl ?_
      exact pl_tail
  | 10, _ =>
    refine ⟨_, hfin, ?_⟩
    by_cases h0 : xs 1 = 0
    · refine am_s0 (M := tm_0) (pc' := 342) (ls' := [(3, .int 0), (2, .ref 88), (1, .ref 0), (0, .retAddr 9999)]) (st' := []) rfl rfl rfl rfl ?_
      refine am_s0 (M := tm_0) rfl rfl rfl rfl ?_
      refine am_s0 (M := tm_0) rfl rfl rfl rfl ?_
      refine am_s0 (M := tm_0) rfl rfl rfl rfl ?_
      refine am_s0 (M := tm_0) rfl rfl rfl rfl ?_
      refine am_s0 (M := tm_0) rfl rfl rfl rfl ?_
      refine am_s0 (M := tm_0) rfl rfl rfl rfl ?_
      refine am_rT (M := tm_0) (tgt := 355) rfl rfl (am_ct h0) rfl ?_
      refine am_s0 (M := tm_0) rfl rfl rfl rfl ?_
      refine am_s0 (M := tm_0) rfl rfl rfl rfl ?_
      refine am_s0 (M := tm_0) rfl rfl rfl rfl ?_
      refine am_s0 (M := tm_0) rfl rfl rfl rfl ?_
      refine am_s0 (M := tm_0) rfl rfl rfl rfl ?_
      refine am_s0 (M := tm_0) rfl rfl rfl rfl ?_
      refine am_rC (M := tm_0) rfl rfl rfl rfl rfl (by simp only [am_call, am_cls, F.1, List.drop]; rfl) rfl ⟨Nat.le_of_ble_eq_true rfl, Nat.le_of_ble_eq_true rfl, Nat.le_of_ble_eq_true rfl⟩ (px_byteAt0 F (xs 2)) ?_
      refine am_s0 (M := tm_0) rfl rfl rfl rfl ?_
      refine am_s0 (M := tm_0) rfl rfl rfl rfl ?_
      refine am_s0 (M := tm_0) rfl rfl rfl rfl ?_
      refine am_s0 (M := tm_0) rfl rfl rfl rfl ?_
      refine am_s0 (M := tm_0) rfl rfl rfl rfl ?_
      refine am_s0 (M := tm_0) rfl rfl rfl rfl ?_
      refine am_rT (M := tm_0) (tgt := 377) rfl rfl (am_ct h0) rfl ?_
      refine am_s0 (M := tm_0) rfl rfl rfl rfl ?_
      refine am_s0 (M := tm_0) rfl rfl rfl rfl ?_
      refine am_s0 (M := tm_0) rfl rfl rfl rfl ?_
      refine am_s0 (M := tm_0) rfl rfl rfl rfl ?_
      refine am_s0 (M := tm_0) rfl rfl rfl rfl ?_
      refine am_s0 (M := tm_0) rfl rfl rfl rfl ?_
      refine am_rC (M := tm_0) rfl rfl rfl rfl rfl (by simp only [am_call, am_cls, F.2.2.2, List.drop]; rfl) rfl ⟨Nat.le_of_ble_eq_true rfl, Nat.le_of_ble_eq_true rfl, Nat.le_of_ble_eq_true rfl⟩ (pm_byteAt0 F (xs 2)) ?_
      refine am_rT2 (M := tm_0) (tgt := 404) rfl rfl (am_cq _) rfl ?_
      exact pl_tail
    · refine am_s0 (M := tm_0) (pc' := 342) (ls' := [(3, .int 0), (2, .ref 88), (1, .ref 0), (0, .retAddr 9999)]) (st' := []) rfl rfl rfl rfl ?_
      refine am_s0 (M := tm_0) rfl rfl rfl rfl ?_
      refine am_s0 (M := tm_0) rfl rfl rfl rfl ?_
      refine am_s0 (M := tm_0) rfl rfl rfl rfl ?_
      refine am_s0 (M := tm_0) rfl rfl rfl rfl ?_
      refine am_s0 (M := tm_0) rfl rfl rfl rfl ?_
      refine am_s0 (M := tm_0) rfl rfl rfl rfl ?_
      refine am_rF (M := tm_0) (tgt := 355) rfl rfl (am_cf h0) rfl ?_
      refine am_s0 (M := tm_0) rfl rfl rfl rfl ?_
      refine am_rJ (M := tm_0) (tgt := 356) rfl rfl rfl ?_
      refine am_s0 (M := tm_0) rfl rfl rfl rfl ?_
      refine am_s0 (M := tm_0) rfl rfl rfl rfl ?_
      refine am_s0 (M := tm_0) rfl rfl rfl rfl ?_
      refine am_s0 (M := tm_0) rfl rfl rfl rfl ?_
      refine am_s0 (M := tm_0) rfl rfl rfl rfl ?_
      refine am_rC (M := tm_0) rfl rfl rfl rfl rfl (by simp only [am_call, am_cls, F.1, List.drop]; rfl) rfl ⟨Nat.le_of_ble_eq_true rfl, Nat.le_of_ble_eq_true rfl, Nat.le_of_ble_eq_true rfl⟩ (px_byteAt1 F (xs 2)) ?_
      refine am_s0 (M := tm_0) rfl rfl rfl rfl ?_
      refine am_s0 (M := tm_0) rfl rfl rfl rfl ?_
      refine am_s0 (M := tm_0) rfl rfl rfl rfl ?_
      refine am_s0 (M := tm_0) rfl rfl rfl rfl ?_
      refine am_s0 (M := tm_0) rfl rfl rfl rfl ?_
      refine am_s0 (M := tm_0) rfl rfl rfl rfl ?_
      refine am_rF (M := tm_0) (tgt := 377) rfl rfl (am_cf h0) rfl ?_
      refine am_s0 (M := tm_0) rfl rfl rfl rfl ?_
      refine am_rJ (M := tm_0) (tgt := 378) rfl rfl rfl ?_
      refine am_s0 (M := tm_0) rfl rfl rfl rfl ?_
      refine am_s0 (M := tm_0) rfl rfl rfl rfl ?_
      refine am_s0 (M := tm_0) rfl rfl rfl rfl ?_
      refine am_s0 (M := tm_0) rfl rfl rfl rfl ?_
      refine am_s0 (M := tm_0) rfl rfl rfl rfl ?_
      refine am_rC (M := tm_0) rfl rfl rfl rfl rfl (by simp only [am_call, am_cls, F.2.2.2, List.drop]; rfl) rfl ⟨Nat.le_of_ble_eq_true rfl, Nat.le_of_ble_eq_true rfl, Nat.le_of_ble_eq_true rfl⟩ (pm_byteAt1 F (xs 2)) ?_
      refine am_rT2 (M := tm_0) (tgt := 404) rfl rfl (am_cq _) rfl ?_
      exact pl_tail
  | 11, _ =>
    obtain ⟨r, s, fs, hr, hs2, e1, e2, h88, l2, z2⟩ := hpq (3, [.ref 0], 46, [.ref 88], -4) (List.mem_of_getElem? (i := 6) rfl)
    refine ⟨s.2, ⟨l2, z2⟩, ?_⟩
    have g1 := am_lift (sc := some (3, xs)) (d' := 999) (by decide) hr
    have g2 := am_lift (sc := some (3, xs)) (d' := 999) (by decide) hs2
    rw [e1] at g1
    rw [e2] at g2
    refine am_s0 (M := tm_0) (pc' := 391) (ls' := [(3, .int 0), (2, .ref 88), (1, .ref 0), (0, .retAddr 9999)]) (st' := []) rfl rfl rfl rfl ?_
    refine am_s0 (M := tm_0) rfl rfl rfl rfl ?_
    refine am_rC (M := tm_0) rfl rfl rfl rfl rfl (by simp only [am_call, am_cls, F.1, List.drop]; rfl) rfl ⟨Nat.le_of_ble_eq_true rfl, Nat.le_of_ble_eq_true rfl, Nat.le_of_ble_eq_true rfl⟩ (g1) ?_
    refine am_s0 (M := tm_0) rfl rfl rfl rfl ?_
    refine am_rC (M := tm_0) rfl rfl rfl rfl rfl (by simp only [am_call, am_cls, h88, List.drop]; rfl) rfl ⟨Nat.le_of_ble_eq_true rfl, Nat.le_of_ble_eq_true rfl, Nat.le_of_ble_eq_true rfl⟩ (g2) ?_
    refine am_rT2 (M := tm_0) (tgt := 404) rfl rfl (am_cq _) rfl ?_
    exact pl_tail
  | 12, _ =>
    refine ⟨_, hfin, ?_⟩
    refine am_s0 (M := tm_0) rfl rfl rfl rfl ?_
    exact pl_tail
  | 13, _ =>
    refine ⟨_, hfin, ?_⟩
    refine am_s0 (M := tm_0) rfl rfl rfl rfl ?_
    exact pl_tail
  | 14, _ =>
    refine ⟨_, hfin, ?_⟩
    refine am_s0 (M := tm_0) rfl rfl rfl rfl ?_
    exact pl_tail
  | 15, _ =>
    refine ⟨_, hfin, ?_⟩
    refine am_s0 (M := tm_0) rfl rfl rfl rfl ?_
    exact pl_tail
  | k + 16, h16 => exact absurd h16 (by omega)
set_option maxHeartbeats 4000000 in
set_option maxRecDepth 100000 in
theorem pl_law (hk : am_chk z = true) (hL : L ≤ 3) : ∃ h2, p_fin h2 ∧ am_run (am_E0 z (some (L, xs))) am_T0 (999 + 1) 0 0 [(0, .retAddr 9999)] [] [] (some (.int 1)) h2 := by
  obtain ⟨⟨rA, hA, eA, eA2⟩, hlA, ⟨rB, hB, eB, eB2⟩, F, -, -, hl, hs, -⟩ := am_chk_of hk
  have gA := am_lift (sc := some (L, xs)) (d' := 999) (by decide) hA
  have gB := am_lift (sc := some (L, xs)) (d' := 999) (by decide) hB
  rw [eA, ← eA2] at gA
  rw [eB, ← eB2] at gB
  have head : ∀ h2, am_run (am_E0 z (some (L, xs))) am_T0 (999 + 1) 0 18 [(3, .int 0), (2, .ref 88), (1, .ref 0), (0, .retAddr 9999)] [] (am_hB z) (some (.int 1)) h2 → am_run (am_E0 z (some (L, xs))) am_T0 (999 + 1) 0 0 [(0, .retAddr 9999)] [] [] (some (.int 1)) h2 := by
    intro h2 kk
    refine am_r2 (M := tm_0) (S := ([.ref 0], [.inr (.inr (10, am_df0.getD 10 []))])) rfl rfl rfl rfl ?_
    refine am_s0 (M := tm_0) rfl rfl rfl rfl ?_
    refine am_rC (M := tm_0) rfl rfl rfl rfl rfl rfl rfl ⟨Nat.le_of_ble_eq_true rfl, Nat.le_of_ble_eq_true rfl, Nat.le_of_ble_eq_true rfl⟩ (gA) ?_
    refine am_s0 (M := tm_0) rfl rfl rfl rfl ?_
    refine am_r2 (M := tm_0) (S := ([.ref 88], am_hA z ++ [.inr (.inr (11, am_df0.getD 11 []))])) rfl rfl rfl (by rw [← hlA]; rfl) ?_
    refine am_s0 (M := tm_0) rfl rfl rfl rfl ?_
    refine am_rC (M := tm_0) rfl rfl rfl rfl rfl rfl rfl ⟨Nat.le_of_ble_eq_true rfl, Nat.le_of_ble_eq_true rfl, Nat.le_of_ble_eq_true rfl⟩ (gB) ?_
    refine am_s0 (M := tm_0) rfl rfl rfl rfl ?_
    refine am_s0 (M := tm_0) rfl rfl rfl rfl ?_
    refine am_s0 (M := tm_0) rfl rfl rfl rfl ?_
    exact kk
  have hfin : p_fin (am_hB z) := ⟨hl, hs⟩
  rcases (show L = 0 ∨ L = 1 ∨ L = 2 ∨ L = 3 by omega) with rfl | rfl | rfl | rfl
  · exact ⟨_, hfin, head _ (pl_exit 0 (by decide))⟩
  · exact ⟨_, hfin, head _ (pl_exit 0 (by decide))⟩
  · exact ⟨_, hfin, head _ (pl_exit 0 (by decide))⟩
  · obtain ⟨k, hk16, ek⟩ := pk_andE (xs 0) (m := 15) 4 (by decide)
    obtain ⟨h2, hf2, hr2⟩ := pl_cases (xs := xs) hk k hk16
    refine ⟨h2, hf2, head _ ?_⟩
    refine am_s0 (M := tm_0) rfl rfl rfl rfl ?_
    refine am_s0 (M := tm_0) rfl rfl rfl rfl ?_
    refine am_s0 (M := tm_0) rfl rfl rfl rfl ?_
    refine am_s0 (M := tm_0) rfl rfl rfl rfl ?_
    refine am_s0 (M := tm_0) rfl rfl rfl rfl ?_
    refine am_rF2 (M := tm_0) (tgt := 410) rfl rfl (by show am_cmp .gt (0 : Int32) (Int32.ofNat 3 - 3) = false; decide) rfl ?_
    refine am_s0 (M := tm_0) rfl rfl rfl rfl ?_
    refine am_s0 (M := tm_0) rfl rfl rfl rfl ?_
    refine am_s0 (M := tm_0) (pc' := 29) (ls' := [(3, .int 0), (2, .ref 88), (1, .ref 0), (0, .retAddr 9999)]) (st' := [.int (xs 0)]) rfl rfl rfl rfl ?_
    refine am_s0 (M := tm_0) rfl rfl rfl rfl ?_
    refine am_s0 (M := tm_0) (pc' := 32) (ls' := [(3, .int 0), (2, .ref 88), (1, .ref 0), (0, .retAddr 9999)]) (st' := [.int (nI k)]) rfl rfl rfl (by show some ((32 : Nat), ([(3, .int 0), (2, .ref 88), (1, .ref 0), (0, .retAddr 9999)] : am_L), [Value.int (xs 0 &&& 15)]) = _; rw [ek]) ?_
    exact hr2
end PL
