/-! THE LAW from its entry: both constructors, then the loop. -/
theorem am_lift {z : Value} {sc : Option (Nat × (Nat → Int32))} {n d d' j pc : Nat} {ls : am_L} {st : List Value} {h : am_H} {r : Option Value × am_H} (hd : d ≤ d') (hs : am_ex (am_E0 z none) am_T0 n d j pc ls st h = some r) : am_run (am_E0 z sc) am_T0 d' j pc ls st h r.1 r.2 := ⟨n, am_ex_sc sc (Nat.le_refl n) hd hs⟩
theorem am_s0 {E : am_E} {T : List am_M} {d j pc : Nat} {ls : am_L} {st : List Value} {h : am_H} {v : Option Value} {h' : am_H} {M : am_M} {q : am_Q} {pc' : Nat} {ls' : am_L} {st' : List Value} (hM : T[j]? = some M) (hq : am_find M.2.2.2.2 pc = some q) (hso : am_sort q.2.1 = 0) (hs : am_step E pc q.2.1 q.2.2.1 q.2.2.2 ls st h = some (pc', ls', st')) (k : am_run E T d j pc' ls' st' h v h') : am_run E T d j pc ls st h v h' := am_r0 (S := (pc', ls', st')) hM hq hso hs k
set_option maxHeartbeats 4000000 in
set_option maxRecDepth 100000 in
theorem pl_law {z : Value} {L : Nat} {xs : Nat → Int32} (hk : am_chk z = true) (hL : L ≤ 1536) : ∃ h2 : am_H, (h2.length = 152 ∧ am_sz h2 = 855540) ∧ am_run (am_E0 z (some (L, xs))) am_T0 (999 + 1) 0 0 [(0, .retAddr 9999)] [] [] (some (.int 1)) h2 := by
  obtain ⟨⟨rA, hA, eA, eA2⟩, hlA, ⟨rB, hB, eB, eB2⟩, σ, eH, hI⟩ := am_chk_of hk
  have gA := am_lift (sc := some (L, xs)) (d' := 999) (by decide) hA
  have gB := am_lift (sc := some (L, xs)) (d' := 999) (by decide) hB
  rw [eA, ← eA2] at gA
  rw [eB, ← eB2] at gB
  obtain ⟨v, σ', r, rfl⟩ := lw_loop (z := z) (L := L) (xs := xs) (by omega) L 0 σ hI (Int.le_refl 0) (by omega) (by omega)
  rw [← eH] at r
  refine ⟨sg_H am_Sh0 σ', ⟨by rw [sg_len, so_len0], by rw [so_sz, so_sz0]⟩, ?_⟩
  refine am_r2 (M := tm_0) (S := ([.ref 0], [.inr (.inr (10, am_df0.getD 10 []))])) tt_0 rfl rfl rfl ?_
  refine am_s0 (M := tm_0) tt_0 rfl rfl rfl ?_
  refine am_rC (M := tm_0) tt_0 rfl rfl rfl rfl rfl tt_1 ⟨Nat.le_of_ble_eq_true rfl, Nat.le_of_ble_eq_true rfl, Nat.le_of_ble_eq_true rfl⟩ gA ?_
  refine am_s0 (M := tm_0) tt_0 rfl rfl rfl ?_
  refine am_r2 (M := tm_0) (S := ([.ref 88], am_hA z ++ [.inr (.inr (11, am_df0.getD 11 []))])) tt_0 rfl rfl (by rw [← hlA]; rfl) ?_
  refine am_s0 (M := tm_0) tt_0 rfl rfl rfl ?_
  refine am_rC (M := tm_0) tt_0 rfl rfl rfl rfl rfl tt_208 ⟨Nat.le_of_ble_eq_true rfl, Nat.le_of_ble_eq_true rfl, Nat.le_of_ble_eq_true rfl⟩ gB ?_
  refine am_s0 (M := tm_0) tt_0 rfl rfl rfl ?_
  refine am_s0 (M := tm_0) tt_0 rfl rfl rfl ?_
  refine am_s0 (M := tm_0) tt_0 rfl rfl rfl ?_
  exact r
