/-! The small calls of both sides keep the third state. -/
section LYC
variable {σ : sg_S}
theorem ly_c_fault (z : Value) (h : lwK σ) : wx z 0 13 0 [(0, .inr (.inr (.ref 0)))] [] σ (lwA (fun _ σ' => lwK σ')) := wk_post (w_cFault z σ) (by rintro v σ' ⟨rfl, rfl⟩; exact ⟨_, rfl, sg_Rg _ _ _, h⟩)
theorem ly_r_fault (z : Value) (h : lwK σ) : wx z 0 228 0 [(0, .inr (.inr (.ref 88)))] [] σ (lwA (fun _ σ' => lwK σ')) := by
  have hK := h.2
  replace h := h.1
  exact wk_post (w_fault z σ (fun _ σ' => lwI σ') (by
    unfold V_fault
    intro σ1 e1
    exact lwI_F h (L := [1088]) (by rw [e1]; exact sg_F_w (sg_F_r _ _) rfl _) rfl)) (by rintro v σ' ⟨q, e, r, f9, w⟩; exact ⟨q, e, r, w, lkK_F hK f9 rfl⟩)
theorem ly_v {j : Nat} {d : Nat} {ls : bm_L} {x : Int} (z : Value) (h : lwK σ) (w : wx z d j 0 ls [] σ (fun v σ' => v = some (.inl x) ∧ σ' = σ)) : wx z d j 0 ls [] σ (lwA (fun _ σ' => lwK σ')) := wk_rg (wk_post w (by rintro v σ' ⟨rfl, rfl⟩; exact ⟨⟨_, rfl⟩, h⟩))
theorem ly_c_about (z : Value) {a : Int} (ra : sg_R a) (h : lwK σ) : wx z 1 2 0 [(0, .inr (.inr (.ref 0))), (1, .inl (a))] [] σ (lwA (fun _ σ' => lwK σ')) := ly_v z h (w_cAbout z σ a ra)
theorem ly_c_node (z : Value) {a b : Int} (ra : sg_R a) (rb : sg_R b) (h : lwK σ) : wx z 1 20 0 [(0, .inr (.inr (.ref 0))), (1, .inl (a)), (2, .inl (b))] [] σ (lwA (fun _ σ' => lwK σ')) := ly_v z h (w_cNode z σ a b ra rb)
theorem ly_c_meter (z : Value) {a : Int} (ra : sg_R a) (h : lwK σ) : wx z 0 18 0 [(0, .inr (.inr (.ref 0))), (1, .inl (a))] [] σ (lwA (fun _ σ' => lwK σ')) := ly_v z h (w_cMeter z σ a ra)
theorem ly_c_shown (z : Value) {a : Int} (ra : sg_R a) (h : lwK σ) : wx z 0 24 0 [(0, .inr (.inr (.ref 0))), (1, .inl (a))] [] σ (lwA (fun _ σ' => lwK σ')) := ly_v z h (w_cShown z σ a ra)
theorem ly_r_about (z : Value) {a : Int} (ra : sg_R a) (h : lwK σ) : wx z 1 209 0 [(0, .inr (.inr (.ref 88))), (1, .inl a)] [] σ (lwA (fun _ σ' => lwK σ')) := by
  have hK := h.2
  replace h := h.1
  exact wk_post (w_about z σ a (fun _ σ' => lwI σ') ra (by
    unfold V_about
    intro σ1 e1
    have h1 := lw_1088 h e1
    exact ⟨fun _ => ⟨fun _ => ⟨fun y => ⟨fun _ => ⟨fun _ => ⟨(lw_root h.2.2.2.2.2.1 y).1, h1⟩, fun _ => h1⟩, fun _ => h1⟩, fun _ => h1⟩, fun _ => h1⟩, fun _ => h1⟩)) (by rintro v σ' ⟨q, e, r, f9, w⟩; exact ⟨q, e, r, w, lkK_F hK f9 rfl⟩)
theorem ly_r_node (z : Value) {a b : Int} (ra : sg_R a) (rb : sg_R b) (h : lwK σ) : wx z 1 295 0 [(0, .inr (.inr (.ref 88))), (1, .inl a), (2, .inl b)] [] σ (lwA (fun _ σ' => lwK σ')) := by
  have hK := h.2
  replace h := h.1
  exact wk_post (w_node z σ a b (fun _ σ' => lwI σ') ra rb (by
    unfold V_node
    intro σ1 e1
    have h1 := lw_1088 h e1
    refine ⟨fun y => ?_, fun _ => h1⟩
    have r := lw_root h.2.2.2.2.2.1 y
    have ii : ¬ v_in a 0 (sg_g σ 88 8 - 1) = 0 → 0 ≤ a ∧ a < 210 := fun w => by
      unfold v_in at w
      split at w
      · exact absurd rfl w
      · split at w
        · exact absurd rfl w
        · omega
    exact ⟨⟨by omega, by omega⟩, fun w => ⟨fun _ => ⟨fun _ => h1, fun _ => ⟨ii w, h1⟩⟩, fun _ => ⟨ii w, h1⟩⟩, fun _ => h1⟩)) (by rintro v σ' ⟨q, e, r, f9, w⟩; exact ⟨q, e, r, w, lkK_F hK f9 rfl⟩)
theorem ly_r_meter (z : Value) {a : Int} (ra : sg_R a) (h : lwK σ) : wx z 1 291 0 [(0, .inr (.inr (.ref 88))), (1, .inl a)] [] σ (lwA (fun _ σ' => lwK σ')) := by
  have hK := h.2
  replace h := h.1
  exact wk_post (w_meter z σ a (fun _ σ' => lwI σ') ra (by
    unfold V_meter
    intro σ1 e1
    have h1 := lw_1088 h e1
    exact ⟨fun _ => ⟨fun _ => ⟨fun _ => ⟨fun _ => ⟨fun _ => h1, fun _ => h1⟩, fun _ => h1⟩, fun _ => h1⟩, fun _ => ⟨fun _ => h1, fun _ => ⟨fun _ => ⟨fun _ => h1, fun _ => h1⟩, fun _ => ⟨fun _ => ⟨fun _ => h1, fun _ => h1⟩, fun _ => h1⟩⟩⟩⟩, fun _ => h1⟩)) (by rintro v σ' ⟨q, e, r, f9, w⟩; exact ⟨q, e, r, w, lkK_F hK f9 rfl⟩)
theorem ly_r_shown (z : Value) {a : Int} (ra : sg_R a) (h : lwK σ) : wx z 1 328 0 [(0, .inr (.inr (.ref 88))), (1, .inl a)] [] σ (lwA (fun _ σ' => lwK σ')) := by
  have hK := h.2
  replace h := h.1
  exact wk_post (w_shown z σ a (fun _ σ' => lwI σ') ra (by
    unfold V_shown
    intro σ1 e1
    have h1 := lw_1088 h e1
    exact ⟨fun _ => ⟨fun _ => h1, fun _ => h1⟩, fun _ => h1⟩)) (by rintro v σ' ⟨q, e, r, f9, w⟩; exact ⟨q, e, r, w, lkK_F hK f9 rfl⟩)
theorem ly_r_byteAt (z : Value) {a b : Int} (ra : sg_R a) (rb : sg_R b) (h : lwK σ) : wx z 1 215 0 [(0, .inr (.inr (.ref 88))), (1, .inl a), (2, .inl b)] [] σ (lwA (fun _ σ' => lwK σ')) := by
  have hK := h.2
  replace h := h.1
  exact wk_post (w_byteAt z σ a b (fun _ σ' => lwI σ') ra rb (by
    unfold V_byteAt
    intro σ1 e1
    have h1 := lw_1088 h e1
    have h76 := h.2.2.2.2.2.2.2.2.1
    have h77 := h.2.2.2.2.2.2.2.2.2
    refine ⟨fun _ v7 e7 r7 => ?_, fun _ => h1⟩
    have b7 : 0 ≤ v7 ∧ v7 ≤ 80000 := by rw [e7]; split <;> assumption
    refine ⟨⟨by omega, by omega⟩, fun _ => h1, fun w => ⟨fun _ => h1, fun w2 v15 e15 r15 => ?_⟩⟩
    have b0 : 0 ≤ b := by
      unfold v_in at w
      split at w
      · exact absurd rfl w
      · omega
    have b15 : v15 = 0 ∨ v15 = 80000 := by rw [e15]; split <;> simp
    exact ⟨⟨by omega, by omega⟩, ⟨by omega, by omega⟩, h1⟩)) (by rintro v σ' ⟨q, e, r, f9, w⟩; exact ⟨q, e, r, w, lkK_F hK f9 rfl⟩)
theorem ly_r_alike (z : Value) (h : lwK σ) : wx z 0 213 0 [(0, .inr (.inr (.ref 88)))] [] σ (lwA (fun _ σ' => lwK σ')) := by
  have hK := h.2
  replace h := h.1
  exact wk_post (w_alike z σ (fun _ σ' => lwI σ') (by
    unfold V_alike
    intro σ1 e1
    have h1 := lw_1088 h e1
    have h76 := h.2.2.2.2.2.2.2.2.1
    refine ⟨fun _ => h1, fun _ => ⟨fun _ => h1, fun _ => ⟨fun _ => h1, fun _ => ⟨fun _ => ⟨fun _ => ⟨fun _ => h1, fun _ => ⟨fun _ => h1, fun _ => h1⟩⟩, fun _ => ⟨fun _ v14 e14 r14 => ?_, fun _ => ⟨fun _ => h1, fun _ => ⟨fun _ => h1, fun _ => h1⟩⟩⟩⟩, fun _ => h1⟩⟩⟩⟩
    refine ⟨fun m v w => m = (80000 - w).toNat ∧ 0 ≤ w ∧ w ≤ 80000, fun _ => True, ⟨_, rfl, by omega, by omega⟩, ?_, fun v17 r17 _ => ⟨fun _ => h1, fun _ => h1⟩⟩
    rintro m v w rv rw' ⟨em, w1, w2⟩
    exact ⟨fun _ => trivial, fun y => ⟨fun _ => trivial, fun _ => ⟨⟨by omega, by omega⟩, ⟨by omega, by omega⟩, ⟨by omega, by omega⟩, fun v42 _ _ => ⟨⟨by omega, by omega⟩, _, by omega, rfl, by omega, by omega⟩⟩⟩⟩)) (by rintro v σ' ⟨q, e, r, f9, w⟩; exact ⟨q, e, r, w, lkK_F hK f9 rfl⟩)
theorem ly_r_flat (z : Value) (h : lwK σ) : wx z 6 231 0 [(0, .inr (.inr (.ref 88)))] [] σ (lwA (fun _ σ' => lwK σ')) := by
  have hK := h.2
  replace h := h.1
  obtain ⟨a1, a2, a3, a4, a5, a6, a7, a8, a9, a10⟩ := id h
  have hR : ∃ A D T B r, sg_g σ 88 28 = 0 ∨ (pgX σ A D T B ∧ sg_g σ 88 27 = r ∧ tyN A (kDl D []) T B 201 [] r ∧ frA A (aRt D ++ [r])) := by
    rcases a6 with q | ⟨-, A, D, r, q1, q2, q3, q4⟩
    · exact ⟨aE0, [], fun _ => 0, fun _ => 0, 0, Or.inl q⟩
    · exact ⟨A, D, _, _, r, Or.inr ⟨q1, q2, q3, q4⟩⟩
  obtain ⟨A, D, T, B, r, hR⟩ := hR
  refine wk_post (w_flat z σ (fun _ σ' => lwI σ') (q_flat hR a8 a10 (fun q σ' f b1 b2 => ?_))) (by rintro v σ' ⟨q, e, r, f9, w⟩; exact ⟨q, e, r, w, lkK_F hK f9 rfl⟩)
  obtain ⟨-, c2, c3, c4, c5, c6, -, -, -, -⟩ := h
  have e37 : sg_gl σ' 37 = sg_gl σ 37 := funext fun x => sg_F_gal f rfl
  refine ⟨by rw [sg_F_g f (by rfl)]; exact a1, by rw [sg_F_g f (by rfl), sg_F_g f (by rfl)]; exact c2, fun p z1 z2 => ?_, by rw [e37]; exact c4, ?_, rfR_F c6 f rfl rfl rfl rfl rfl, by rw [sg_F_g f (by rfl)]; exact a7, b1, by rw [sg_F_g f (by rfl)]; exact a9, b2⟩
  · rw [sg_F_g f (by rfl)] at z2
    rw [sg_F_ga f rfl, c3 p z1 z2]
    unfold tb
    rw [sg_F_ga f rfl]
  · rw [sg_F_g f (by rfl)]
    rcases c5 with q | ⟨q1, q2⟩
    · exact Or.inl q
    · exact Or.inr ⟨q1, flR_F q2 f rfl⟩
theorem ly_c_flat (z : Value) (h : lwK σ) : wx z 9 15 0 [(0, .inr (.inr (.ref 0)))] [] σ (lwA (fun _ σ' => lwK σ')) := by
  have hK := h.2
  replace h := h.1
  exact wk_post (w_cFlat z σ (fun _ σ' => lwI σ') (c_flat h.2.2.2.2.1 (fun q σ' f => lwI_F h f rfl))) (by rintro v σ' ⟨q, e, r, f9, w⟩; exact ⟨q, e, r, w, lkK_F hK f9 rfl⟩)
theorem ly_c_byteAt (z : Value) {a b : Int} (ra : sg_R a) (rb : sg_R b) (h : lwK σ) : wx z 1 8 0 [(0, .inr (.inr (.ref 0))), (1, .inl a), (2, .inl b)] [] σ (lwA (fun _ σ' => lwK σ')) := by
  have hK := h.2
  replace h := h.1
  exact wk_post (w_cByteAt z σ a b (fun _ σ' => lwI σ') ra rb (by
    unfold V_cByteAt
    have p1 : p_cAt51 σ b := ⟨fun _ => trivial, fun y => ⟨fun _ => trivial, fun y2 => ⟨⟨y, y2⟩, trivial⟩⟩⟩
    have p2 : p_cAt67 σ b := ⟨fun _ => trivial, fun y => ⟨fun _ => trivial, fun y2 => ⟨⟨y, y2⟩, trivial⟩⟩⟩
    exact ⟨fun _ => ⟨fun _ => h, fun _ => ⟨fun _ => ⟨fun _ => h, fun _ v5 _ _ => ⟨fun _ => ⟨p1, h⟩, fun _ => h⟩⟩, fun _ => h⟩⟩, fun _ => ⟨fun _ => h, fun _ => ⟨fun _ => ⟨fun _ => h, fun _ v5 _ _ => ⟨fun _ => ⟨p2, h⟩, fun _ => h⟩⟩, fun _ => h⟩⟩⟩)) (by rintro v σ' ⟨q, e, r, f9, w⟩; exact ⟨q, e, r, w, by rw [← f9]; exact hK⟩)
theorem ly_c_alike (z : Value) (h : lwK σ) : wx z 2 3 0 [(0, .inr (.inr (.ref 0)))] [] σ (lwA (fun _ σ' => lwK σ')) := by
  have hK := h.2
  replace h := h.1
  exact wk_post (w_cAlike z σ (fun _ σ' => lwI σ') (by
    have sm : ∀ R : Int → sg_S → Prop, R 0 σ → R 1 σ → V_iSame4965 σ R := fun R r0 r1 => by
      unfold V_iSame4965
      have r := sg_Rg σ 49 2
      refine ⟨fun _ => ⟨fun m v => m = (2147483647 - v).toNat ∧ 0 ≤ v, True, ⟨_, rfl, by omega⟩, ?_, fun _ => r1⟩, fun _ => r0⟩
      rintro m v rv ⟨em, v0⟩
      exact ⟨fun _ => trivial, fun y => ⟨fun _ => ⟨⟨by omega, by have := r.2; omega⟩, _, by have := r.2; omega, rfl, by omega⟩, fun _ => r0⟩⟩
    unfold V_cAlike
    have s1 : ∀ (P : Prop), V_iSame4965 σ (fun q8 _ => (q8 = 0 ∨ q8 = 1) → ((q8 = 0 → lwI σ) ∧ (¬ q8 = 0 → lwI σ))) := fun _ => sm _ (fun _ => ⟨fun _ => h, fun _ => h⟩) (fun _ => ⟨fun _ => h, fun _ => h⟩)
    exact ⟨fun _ => h, fun _ => ⟨fun _ => h, fun _ => ⟨fun _ => h, fun _ => ⟨fun _ => ⟨fun _ => ⟨fun _ => h, fun _ => ⟨fun _ => s1 True, fun _ => h⟩⟩, fun _ => ⟨fun _ => ⟨fun _ => h, fun _ => ⟨fun _ => s1 True, fun _ => h⟩⟩, fun _ => h⟩⟩, fun _ => h⟩⟩⟩⟩)) (by rintro v σ' ⟨q, e, r, f9, w⟩; exact ⟨q, e, r, w, by rw [← f9]; exact hK⟩)
end LYC
/-! feed, cut, read of both sides keep the third state. -/
abbrev lwP3 (z : Value) (d1 j1 : Nat) (l1 : bm_L) (d2 j2 : Nat) (l2 : bm_L) (σ : sg_S) (R : Int → Int → Prop) : Prop := wx z d1 j1 0 l1 [] σ (lwA (fun q σ1 => wx z d2 j2 0 l2 [] σ1 (lwA (fun q' σ2 => R q q' ∧ lwK σ2))))
theorem ly_feed (z : Value) {σ : sg_S} {a : Int} (ra : sg_RL a) (h : lwK σ) : lwP3 z 1 14 [(0, .inr (.inr (.ref 0))), (1, .inr (.inl a))] 0 229 [(0, .inr (.inr (.ref 88))), (1, .inr (.inl a))] σ (fun q q' => q' = q) := by
  have hK := h.2
  replace h := h.1
  obtain ⟨n, hn, h1, h2⟩ := bt_n a
  obtain ⟨a1, a2, a3, -⟩ := id h
  refine wk_post (w_cFeed z σ a (fun q σ1 => wx z 0 229 0 [(0, .inr (.inr (.ref 88))), (1, .inr (.inl a))] [] σ1 (lwA (fun q' σ2 => q' = q ∧ lwK σ2))) ra (c_feed hn h1 h2 a1 (fun hb => ?_) (fun hb σ1 f1 e8 o1 o2 => ?_))) (by rintro v σ' ⟨q, e, r, -, w⟩; exact ⟨q, e, r, w⟩)
  · refine wk_post (w_feed z σ a (fun q' σ2 => q' = -3 ∧ lwI σ2) ra (q_feed hn h1 h2 (by rw [a2]; exact a1) (fun _ σ2 f => ⟨rfl, lwI_F h f rfl⟩) (fun hc => absurd hc (by rw [a2]; omega)))) (by rintro v σ' ⟨q, e, r, f9, w⟩; exact ⟨q, e, r, w.1, w.2, lkK_F hK f9 rfl⟩)
  · have e2 : sg_g σ1 88 2 = sg_g σ 0 8 := by rw [sg_F_g f1 (by rfl)]; exact a2
    refine wk_post (w_feed z σ1 a (fun q' σ2 => q' = sg_g σ 0 8 + n ∧ lwI σ2) ra (q_feed hn h1 h2 (by rw [e2]; exact a1) (fun hc => absurd hc (by rw [e2]; omega)) (fun _ σ2 f2 g1 g2 g3 => ⟨by rw [e2], ?_⟩))) (by rintro v σ' ⟨q, e, r, f9, w⟩; exact ⟨q, e, r, w.1, w.2, lkK_F (lkK_F hK f1 rfl) f9 rfl⟩)
    have F : sg_F [1, 89, 9000, 1088, 3088] σ σ2 := sg_F_t (sg_F_m f1 rfl) (sg_F_m f2 rfl)
    have e8' : sg_g σ2 0 8 = sg_g σ 0 8 + n := by rw [sg_F_g f2 (by rfl)]; exact e8
    have tt : ∀ p, tb σ2 p = tb σ1 p := fun p => by unfold tb; rw [sg_F_ga f2 rfl]
    refine lw_tape h F rfl rfl rfl ⟨by omega, by omega⟩ (by rw [g1, e2, e8']) (fun p p0 p1 => ?_)
    rw [tt]
    by_cases c : p < sg_g σ 0 8
    · rw [g2 p (by rw [e2]; exact c), sg_F_ga f1 rfl, o1 p c]
      exact a3 p p0 c
    · obtain ⟨k, ek⟩ : ∃ k : Nat, p = sg_g σ 0 8 + k := ⟨(p - sg_g σ 0 8).toNat, by omega⟩
      have kn : k < n := by omega
      have u := g3 k kn
      rw [e2, ← ek] at u
      rw [u, ek, o2 k kn]
theorem ly_cut (z : Value) {σ : sg_S} {a : Int} (ra : sg_R a) (h : lwK σ) : lwP3 z 0 11 [(0, .inr (.inr (.ref 0))), (1, .inl a)] 1 219 [(0, .inr (.inr (.ref 88))), (1, .inl a)] σ (fun q q' => q' = q) := by
  have hK := h.2
  replace h := h.1
  obtain ⟨a1, a2, a3, -⟩ := id h
  have no : v_in a 0 (sg_g σ 88 2) = 0 → wx z 1 219 0 [(0, .inr (.inr (.ref 88))), (1, .inl a)] [] σ (lwA (fun q' σ2 => q' = -2 ∧ lwK σ2)) := fun hv => by
    refine wk_post (w_cut z σ a (fun q' σ2 => q' = -2 ∧ lwI σ2) ra ?_) (by rintro v σ' ⟨q, e, r, f9, w⟩; exact ⟨q, e, r, w.1, w.2, lkK_F hK f9 rfl⟩)
    unfold V_cut
    intro σ1 e1
    exact ⟨fun y => absurd hv y, fun _ => ⟨rfl, lw_1088 h e1⟩⟩
  refine wk_post (w_cCut z σ a (fun q σ1 => wx z 1 219 0 [(0, .inr (.inr (.ref 88))), (1, .inl a)] [] σ1 (lwA (fun q' σ2 => q' = q ∧ lwK σ2))) ra ?_) (by rintro v σ' ⟨q, e, r, -, w⟩; exact ⟨q, e, r, w⟩)
  unfold V_cCut
  refine ⟨fun y => no (by unfold v_in; rw [if_pos y]), fun y => ⟨fun y2 => ⟨⟨by omega, by omega⟩, fun σ4 e4 => ?_⟩, fun y2 => no (by unfold v_in; rw [if_neg (by omega), if_pos (by omega)])⟩⟩
  have f4 : sg_F [9000] σ σ4 := by rw [e4]; exact sg_F_w (sg_F_r _ _) rfl _
  have g2 : sg_g σ4 88 2 = sg_g σ 0 8 := by rw [sg_F_g f4 (by rfl)]; exact a2
  have g8 : sg_g σ4 0 8 = a := by rw [e4, sg_gw_e _ _ _ _ ra]
  refine wk_post (w_cut z σ4 a (fun q' σ2 => q' = sg_g σ 0 8 - a ∧ lwI σ2) ra ?_) (by rintro v σ' ⟨q, e, r, f9, w⟩; exact ⟨q, e, r, w.1, w.2, lkK_F (lkK_F hK f4 rfl) f9 rfl⟩)
  unfold V_cut
  rw [g2]
  refine fun σ1 e1 => ⟨fun _ => ⟨⟨by omega, by omega⟩, fun σ6 e6 => ⟨rfl, ?_⟩⟩, fun y3 => absurd y3 (by unfold v_in; rw [if_neg (by omega), if_neg (by omega)]; decide)⟩
  have f6 : sg_F [1088, 3088] σ4 σ6 := by rw [e6, e1]; exact sg_F_w (sg_F_w (sg_F_r _ _) rfl _) rfl _
  have F : sg_F [9000, 1088, 3088] σ σ6 := sg_F_t (sg_F_m f4 rfl) (sg_F_m f6 rfl)
  have k8 : sg_g σ6 0 8 = a := by rw [sg_F_g f6 (by rfl)]; exact g8
  refine lw_tape h F rfl rfl rfl ⟨by omega, by omega⟩ (by rw [e6, sg_gw_e _ _ _ _ ra, ← e6, k8]) (fun p p0 p1 => ?_)
  have t1 : tb σ6 p = tb σ p := by unfold tb; rw [sg_F_ga F rfl]
  rw [t1, sg_F_ga F rfl]
  exact a3 p p0 (by omega)
theorem ly_of (z : Value) {σ : sg_S} {d1 j1 d2 j2 : Nat} {l1 l2 : bm_L} (h1 : wx z d1 j1 0 l1 [] σ (lwA (fun _ σ' => lwK σ'))) (h2 : ∀ σ1, lwK σ1 → wx z d2 j2 0 l2 [] σ1 (lwA (fun _ σ' => lwK σ'))) : lwP3 z d1 j1 l1 d2 j2 l2 σ (fun _ _ => True) :=
  wk_post h1 (by rintro v σ' ⟨q, e, r, w⟩; exact ⟨q, e, r, wk_post (h2 σ' w) (by rintro v2 σ2 ⟨q2, e2, r2, w2⟩; exact ⟨q2, e2, r2, trivial, w2⟩)⟩)
/-- the reference's PROGRAM is what was read, ready for runs -/
def lkS8 (c : tkC) (σ2 : sg_S) : Prop := ∃ t' N' A D r T B, tkB c t' N' ∧ wT t' ∧ aPg t' N' aE0 = some (A, D, r) ∧ trT σ2 A ∧ dfR σ2 D ∧ sg_g σ2 88 27 = r ∧ kPg A D r T = some (sg_g σ2 101) ∧ sg_g σ2 88 28 = 1 ∧ sg_g σ2 102 = kPB A D r B ∧ pgX σ2 A D (sg_g σ2 101) (sg_g σ2 102) ∧ tyN A (kDl D []) (sg_g σ2 101) (sg_g σ2 102) 201 [] r
theorem lkS8_lk {c : tkC} {σ2 : sg_S} (h : lkS8 c σ2) : lkS c σ2 := by
  obtain ⟨t', N', A, D, r, T, B, h1, h2, h3, h4, h5, h6, h7, h8, -⟩ := h
  exact ⟨t', N', A, D, r, T, h1, h2, h3, h4, h5, h6, h7, h8⟩
theorem ly_read (z : Value) {σ : sg_S} (h : lwK σ) : lwP3 z 895 23 [(0, .inr (.inr (.ref 0)))] 10 310 [(0, .inr (.inr (.ref 88)))] σ (fun _ _ => True) := by
  obtain ⟨a1, a2, a3, a4, a5, a6, a7, a8, a9, a10⟩ := h.1
  have hC := h.2.2.1
  obtain ⟨c, ec⟩ : ∃ c : tkC, c = (tb σ, sg_g σ 0 8, sg_gl σ 37, (sg_gl σ 36 7, sg_g σ 36 6)) := ⟨_, rfl⟩
  have c1 : tb σ = c.1 := by rw [ec]
  have c2 : sg_g σ 0 8 = c.2.1 := by rw [ec]
  have c3 : sg_gl σ 37 = c.2.2.1 := by rw [ec]
  have c4 : (sg_gl σ 36 7, sg_g σ 36 6) = c.2.2.2 := by rw [ec]
  have hok : tkOK c := ⟨by rw [← c2]; exact a1.1, by rw [← c2]; exact a1.2, fun p => by rw [← c1]; exact tb_r σ p⟩
  have hb : bY c σ := ⟨hok, by rw [← c2]; exact a2, fun p p0 p1 => by rw [← c1]; exact a3 p p0 (by rw [c2]; exact p1)⟩
  have hr : rsv c.2.2.1 := by rw [← c3]; exact a4
  obtain ⟨t, N, hB, hV⟩ := tk_ex hb hr
  refine wk_post (cr8 z σ hB hV c1 c3 c2 c4) ?_
  rintro v σ1 ⟨⟨q, e, rq, f1, hR⟩, hLk⟩
  refine ⟨q, e, rq, ?_⟩
  have b1 : bY c σ1 := ⟨hok, by rw [sg_F_g f1 (by rfl)]; exact hb.2.1, fun p p0 p1 => by rw [sg_F_ga f1 rfl]; exact hb.2.2 p p0 p1⟩
  refine wk_post (w_readW z σ1 (fun _ σ2 => (¬ accP t N ∧ sg_g σ2 88 28 = 0 ∧ sg_g σ2 88 2 = sg_g σ1 88 2) ∨ (accP t N ∧ sg_g σ2 88 2 = 0 ∧ rfR σ2 ∧ lkS8 c σ2)) (q_read b1 hr ?_ ?_)) ?_
  · intro t' N' q' σ2 hB' hV' na g28 g2
    exact Or.inl ⟨fun y => na ((accP_eq hB hV hB' hV' c1 c3 c2 c4).mp y), g28, g2⟩
  · rintro t' N' A D r q' σ2 hB' hV' ya hp tr df g27 ⟨T, B, hk, hBo⟩ g28 g2
    have p1 := t_pg hp ⟨Int.le_refl _, by decide⟩
    have p2 := t_pg2 hp ⟨Int.le_refl _, by decide⟩ rfl
    obtain ⟨L, x1, x2, x3, -⟩ := id p2
    have ty := tyP (T2 := sg_g σ2 101) (B2 := sg_g σ2 102) D [] 0 T (sg_g σ2 101) B L x1 x2 x3 (fun d hd => by simp at hd) (fun c hc => by simp at hc) (fun x hx => (p1.1 x hx).2.1) hk (fun _ _ => rfl) (fun x _ => congrFun hBo x) (fun c hc => by simp at hc)
    have hX : pgX σ2 A D (sg_g σ2 101) (sg_g σ2 102) := ⟨tr, df, fun _ => rfl, fun _ => rfl, p1.2.2.2.2, fun j x hj => by
      have w := (ty.1 j x hj).1
      rw [Nat.zero_add] at w
      exact w⟩
    exact Or.inr ⟨(accP_eq hB hV hB' hV' c1 c3 c2 c4).mpr ya, g2, Or.inr ⟨g28, A, D, r, hX, g27, ty.2, p2⟩, t', N', A, D, r, T, B, hB', hV', hp, tr, df, g27, hk, g28, hBo, hX, ty.2⟩
  · rintro v' σ2 ⟨q', e', rq', f2, hQ⟩
    refine ⟨q', e', rq', trivial, ?_⟩
    have e37 : sg_gl σ2 37 = sg_gl σ 37 := funext fun x => by rw [sg_F_gal f2 rfl, sg_F_gal f1 rfl]
    have k8 : sg_g σ2 0 8 = sg_g σ1 0 8 := sg_F_g f2 (by rfl)
    have k10 : sg_g σ2 0 10 = sg_g σ1 0 10 := sg_F_g f2 (by rfl)
    have rest : ((0 ≤ sg_g σ2 88 52 ∧ sg_g σ2 88 52 ≤ 20) ∧ (0 ≤ sg_g σ2 88 82 ∧ sg_g σ2 88 82 ≤ 20) ∧ (0 ≤ sg_g σ2 88 76 ∧ sg_g σ2 88 76 ≤ 80000) ∧ (0 ≤ sg_g σ2 88 77 ∧ sg_g σ2 88 77 ≤ 80000)) := by
      rw [sg_F_g f2 (a := 88) (k := 52) (by rfl), sg_F_g f2 (a := 88) (k := 82) (by rfl), sg_F_g f2 (a := 88) (k := 76) (by rfl), sg_F_g f2 (a := 88) (k := 77) (by rfl), sg_F_g f1 (a := 88) (k := 52) (by rfl), sg_F_g f1 (a := 88) (k := 82) (by rfl), sg_F_g f1 (a := 88) (k := 76) (by rfl), sg_F_g f1 (a := 88) (k := 77) (by rfl)]
      exact ⟨a7, a8, a9, a10⟩
    have hC2 : sg_g σ2 0 11 = sg_g σ2 88 52 := by
      rw [sg_F_g f2 (a := 0) (k := 11) (by rfl), sg_F_g f2 (a := 88) (k := 52) (by rfl), sg_F_g f1 (a := 0) (k := 11) (by rfl), sg_F_g f1 (a := 88) (k := 52) (by rfl)]
      exact hC
    rcases hR with ⟨n1, n2, n3⟩ | ⟨n1, n2, n3, A1, D1, q1, n4, n5⟩
    · rcases hQ with ⟨-, m2, m3⟩ | ⟨m1, -, -, -⟩
      · refine ⟨?_, ⟨by rw [k10, n2, m2], Or.inl m2⟩, hC2, Or.inl m2⟩
        refine ⟨by rw [k8, n3]; exact a1, by rw [m3, k8, n3, sg_F_g f1 (by rfl)]; exact a2, fun p p0 p1 => ?_, by rw [e37]; exact a4, Or.inl (by rw [k10]; exact n2), Or.inl m2, rest⟩
        rw [k8, n3] at p1
        have t1 : tb σ2 p = tb σ p := by unfold tb; rw [sg_F_ga f2 rfl, sg_F_ga f1 rfl]
        rw [t1, sg_F_ga f2 rfl, sg_F_ga f1 rfl]
        exact a3 p p0 p1
      · exact absurd m1 n1
    · rcases hQ with ⟨m1, -⟩ | ⟨-, m2, m3, m4⟩
      · exact absurd n1 m1
      · have n10 : ¬ sg_g σ1 0 10 = 0 := by rw [n2]; decide
        refine ⟨?_, lkS_of (lkS8_lk m4) f2 n2 (fun t' N' b1 b2 => (hLk t' N' b1 b2).resolve_left n10), hC2, Or.inr ?_⟩
        rotate_left
        · obtain ⟨t2, N2, A, D, r, T, B, s1, s2, s3, s4, s5, s6, s7, s8, s9, s10, s11⟩ := m4
          have e := pg_same hB s1 aE0
          rw [n4, s3] at e
          cases e
          have C2 := clR_F n5 f2 rfl
          refine ⟨_, _, _, C2, s10, s6, s11, ⟨B, fun x _ _ => congrFun s9 x⟩, fun n z1 z2 => ?_⟩
          obtain ⟨-, -, ⟨L, x1, x2, x3, x4⟩, -, ⟨T1, Tf, u1, u2⟩, -⟩ := C2
          rw [u2 n z1]
          exact kPg_e2 x1 u1 s7 n (x4 n z1 z2)
        refine ⟨by rw [k8, n3]; decide, by rw [m2, k8, n3], fun p p0 p1 => ?_, by rw [e37]; exact a4, Or.inr ⟨by rw [k10]; exact n2, flR_F (clR_fl n5) f2 rfl⟩, m3, rest⟩
        rw [k8, n3] at p1
        omega
/-! nested of both sides: the answers are alike. -/
/-- what a run's end answers -/
def ansF : eR → Int
  | .inl (e, _) => e
  | .inr _ => 0
/-- the class shows what it came to -/
theorem n_conc {σ : sg_S} {a1 : Int} {Q : sg_S → Prop} (ha : sg_n a1 ≤ 3) (h7 : sg_g σ 45 10 = 0 → sg_g σ 45 7 = 1) (k : ∀ σ', Q σ') : V_mnConclude σ a1 Q := by
  unfold V_mnConclude
  intro σ1 e1
  unfold V_iClear49
  intro z
  refine wk_post (bt_2 z σ1) ?_
  rintro v σ5 ⟨rfl, f5⟩
  refine ⟨rfl, f5, fun _ => ⟨fun _ => k σ5, fun h10 => ?_⟩⟩
  have f1 : sg_F [12045] σ σ1 := by rw [e1]; exact sg_F_w (sg_F_r _ _) rfl _
  have e7 : sg_g σ5 45 7 = 1 := by rw [sg_F_g f5 (by rfl), sg_F_g f1 (by rfl)]; exact h7 h10
  unfold V_mnPop
  refine ⟨by rw [e7]; decide, fun σ12 e12 _ _ => ?_⟩
  unfold V_nDraw
  intro z2
  refine wk_post (bt_11 z2 σ12 _ a1 ha) ?_
  rintro v σ18 ⟨rfl, f18⟩
  refine ⟨rfl, f18, fun _ => ?_⟩
  unfold V_iRender49
  intro z3
  refine wk_post (bt_18 z3 σ18 a1 ha) ?_
  rintro v σ24 ⟨rfl, f24⟩
  exact ⟨rfl, f24, fun _ => k σ24⟩
theorem rv_U {σ : sg_S} {d : Nat} {v : vaF} {x : Int} (h : rvF σ d v x) (hc : cnvF d v ≤ 3000) : vU σ d x := by
  refine ⟨rv_vT h, fun hd => ?_⟩
  cases d with
  | zero => omega
  | succ d => rw [h.2.2.2.1.2]; exact hc
set_option maxRecDepth 10000 in
/-- the class's run -/
theorem cN8 {σ : sg_S} {A : aT} {D : List aDf} {k : Int} {B B0 : Int → Int} {Q : Int → sg_S → Prop} (h : clR σ A D k) (hB : ∀ x, 0 ≤ x → x < A.1 → B x = kPB A D k B0 x) (kk : ∀ σ', Q (ansF (evN A (sg_g σ 6) B (eC A D (sg_g σ 6) B D.length) 201 k (fun _ => nmF 0) 0)) σ') : V_mnRun σ (sg_g σ 6 k) Q := by
  obtain ⟨b2, b3, b4, b5, ⟨T, Tf, t1, t2⟩, b6, b7, b8, b9, b10⟩ := h
  obtain ⟨a1, a2, a3, a4⟩ := asm8 b2 b3 b4 b5 t1 t2 b6 b7 b8 b9 hB
  have ht : 0 ≤ sg_g σ 6 k ∧ sg_g σ 6 k ≤ 3 := by
    obtain ⟨L, ds, sc, -, -, -, -, ty, -⟩ := a2
    exact ty.2.2.1
  have ha : sg_n (sg_g σ 6 k) ≤ 3 := by rw [sg_id (sg_Rg _ _ _)]; exact ht.2
  refine n_run (B := B) b2 a4 (fun b hb => hb) a1 a2 a3 ?_
  rw [Int.toNat_natCast]
  generalize evN A (sg_g σ 6) B (eC A D (sg_g σ 6) B D.length) 201 k (fun _ => nmF 0) 0 = r at kk
  match r, kk with
  | .inl (e, w'), kk =>
    intro σ8 _ e10 e0 _
    refine n_conc ha (fun z => absurd (e10.symm.trans z) e0) (fun σ23 _ => ?_)
    rw [e10]
    exact kk σ23
  | .inr (v, w', s', ρ'), kk =>
    rintro σ8 _ ⟨e10, -, -, e7⟩ _ _
    refine n_conc ha (fun _ => e7) (fun σ23 _ => ?_)
    rw [e10]
    exact kk σ23
set_option maxRecDepth 10000 in
theorem ly_nested (z : Value) {σ : sg_S} (h : lwK σ) : lwP3 z 9 19 [(0, .inr (.inr (.ref 0)))] 6 292 [(0, .inr (.inr (.ref 88)))] σ (fun q q' => q' = q) := by
  obtain ⟨hI, hR, hC, hY⟩ := h
  have h52 := hI.2.2.2.2.2.2.1
  -- the reference's run, once the class has run
  have ref : ∀ (σ1 : sg_S) (a : Int), sg_F [45, 46, 47, 48, 49, 50, 51, 52, 53, 54, 55, 56, 57, 58, 59, 60, 12000] σ σ1 → ((sg_g σ 88 28 = 0 ∧ a = -4 ∧ sg_g σ1 0 11 = sg_g σ 0 11) ∨ (¬ sg_g σ 88 28 = 0 ∧ sg_g σ 88 52 = 20 ∧ a = -3 ∧ sg_g σ1 0 11 = sg_g σ 0 11) ∨ (¬ sg_g σ 88 28 = 0 ∧ ¬ sg_g σ 88 52 = 20 ∧ sg_g σ1 0 11 = sg_g σ 0 11 + 1 ∧ ∃ A D k, pgX σ A D (sg_g σ 101) (sg_g σ 102) ∧ sg_g σ 88 27 = k ∧ tyN A (kDl D []) (sg_g σ 101) (sg_g σ 102) 201 [] k ∧ a = ansF (evN A (sg_g σ 101) (sg_g σ 102) (eC A D (sg_g σ 101) (sg_g σ 102) D.length) 201 k (fun _ => nmF 0) 0))) → wx z 6 292 0 [(0, .inr (.inr (.ref 88)))] [] σ1 (lwA (fun q' σ2 => q' = a ∧ lwK σ2)) := fun σ1 a f1 hc => by
    have I1 : lwI σ1 := lwI_F hI f1 rfl
    have R1 : lkR σ1 := lkR_F hR f1 rfl
    have Y1 : sg_g σ1 88 28 = 0 ∨ lyR σ1 := by
      rw [sg_F_g f1 (by rfl)]
      exact hY.imp id (fun w => lyR_F w f1 rfl)
    have e52 : sg_g σ1 88 52 = sg_g σ 88 52 := sg_F_g f1 (by rfl)
    have e28 : sg_g σ1 88 28 = sg_g σ 88 28 := sg_F_g f1 (by rfl)
    have e27 : sg_g σ1 88 27 = sg_g σ 88 27 := sg_F_g f1 (by rfl)
    have e101 : sg_g σ1 101 = sg_g σ 101 := funext fun x => sg_F_ga f1 rfl
    have e102 : sg_g σ1 102 = sg_g σ 102 := funext fun x => sg_F_ga f1 rfl
    -- what the end keeps
    have fin : ∀ σ2, sg_F [122, 123, 124, 125, 126, 127, 128, 129, 130, 131, 132, 133, 134, 135, 136, 137, 138, 1088, 52088, 53088, 54088, 55088, 56088, 57088, 61088, 63088, 71088, 74088, 77088, 79088] σ1 σ2 → sg_g σ1 0 11 = sg_g σ2 88 52 → (0 ≤ sg_g σ2 88 52 ∧ sg_g σ2 88 52 ≤ 20) → (0 ≤ sg_g σ2 88 76 ∧ sg_g σ2 88 76 ≤ 80000) → lwK σ2 := fun σ2 f g1 b1 b2 => by
      obtain ⟨a1, c2, c3, c4, c5, c6, a7, a8, a9, a10⟩ := I1
      have e37 : sg_gl σ2 37 = sg_gl σ1 37 := funext fun x => sg_F_gal f rfl
      refine ⟨⟨by rw [sg_F_g f (by rfl)]; exact a1, by rw [sg_F_g f (by rfl), sg_F_g f (by rfl)]; exact c2, fun p z1 z2 => ?_, by rw [e37]; exact c4, ?_, rfR_F c6 f rfl rfl rfl rfl rfl, b1, by rw [sg_F_g f (by rfl)]; exact a8, b2, by rw [sg_F_g f (by rfl)]; exact a10⟩, lkR_F R1 f rfl, by rw [sg_F_g f (by rfl)]; exact g1, ?_⟩
      · rw [sg_F_g f (by rfl)] at z2
        rw [sg_F_ga f rfl, c3 p z1 z2]
        unfold tb
        rw [sg_F_ga f rfl]
      · rw [sg_F_g f (by rfl)]
        rcases c5 with q | ⟨q1, q2⟩
        · exact Or.inl q
        · exact Or.inr ⟨q1, flR_F q2 f rfl⟩
      · rw [sg_F_g f (by rfl)]
        exact Y1.imp id (fun w => lyR_F w f rfl)
    have b76 := I1.2.2.2.2.2.2.2.2.1
    rcases hc with ⟨h28, rfl, h11⟩ | ⟨h28, h20, rfl, h11⟩ | ⟨h28, h20, h11, A, D, k, hX, hk, hr, rfl⟩
    · refine wk_post (w_nested z σ1 (fun q' σ2 => q' = -4 ∧ lwK σ2) (x_nested (A := aE0) (D := []) (T := fun _ => 0) (B := fun _ => 0) (r := 0) (fun _ σ2 e2 => ⟨rfl, ?_⟩) (fun q => absurd (e28.trans h28) q) (fun q => absurd (e28.trans h28) q) (by rw [e52]; exact h52) (fun q => absurd (e28.trans h28) q))) (by rintro v σ' ⟨q, e, r, -, w⟩; exact ⟨q, e, r, w⟩)
      have f2 : sg_F [1088] σ1 σ2 := by rw [e2]; exact sg_F_w (sg_F_r _ _) rfl _
      exact fin σ2 (sg_F_m f2 rfl) (by rw [h11, hC, ← e52, sg_F_g f2 (by rfl)]) (by rw [sg_F_g f2 (by rfl), e52]; exact h52) (by rw [sg_F_g f2 (by rfl)]; exact b76)
    · obtain ⟨A, D, k, y1, y2, y3, y4, y5, y6⟩ := Y1.resolve_left (fun q => h28 (e28.symm.trans q))
      refine wk_post (w_nested z σ1 (fun q' σ2 => q' = -3 ∧ lwK σ2) (x_nested (A := A) (D := D) (T := sg_g σ1 101) (B := sg_g σ1 102) (r := k) (fun q => absurd (e28.symm.trans q) h28) (fun _ _ σ2 e2 => ⟨rfl, ?_⟩) (fun _ => ⟨y2, y3, y4⟩) (by rw [e52]; exact h52) (fun _ q => absurd (e52.trans h20) q))) (by rintro v σ' ⟨q, e, r, -, w⟩; exact ⟨q, e, r, w⟩)
      have f2 : sg_F [1088] σ1 σ2 := by rw [e2]; exact sg_F_w (sg_F_r _ _) rfl _
      exact fin σ2 (sg_F_m f2 rfl) (by rw [h11, hC, ← e52, sg_F_g f2 (by rfl)]) (by rw [sg_F_g f2 (by rfl), e52]; exact h52) (by rw [sg_F_g f2 (by rfl)]; exact b76)
    · have hX1 : pgX σ1 A D (sg_g σ 101) (sg_g σ 102) := pgX_F f1 rfl hX
      refine wk_post (w_nested z σ1 (fun q' σ2 => q' = ansF (evN A (sg_g σ 101) (sg_g σ 102) (eC A D (sg_g σ 101) (sg_g σ 102) D.length) 201 k (fun _ => nmF 0) 0) ∧ lwK σ2) (x_nested (A := A) (D := D) (T := sg_g σ 101) (B := sg_g σ 102) (r := k) (fun q => absurd (e28.symm.trans q) h28) (fun _ q => absurd (e52.symm.trans q) h20) (fun _ => ⟨hX1, e27.trans hk, hr⟩) (by rw [e52]; exact h52) (fun _ _ => ?_))) (by rintro v σ' ⟨q, e, r, -, w⟩; exact ⟨q, e, r, w⟩)
      have hJ : ∀ v w' s' ρ', evN A (sg_g σ 101) (sg_g σ 102) (eC A D (sg_g σ 101) (sg_g σ 102) D.length) 201 k (fun _ => nmF 0) 0 = .inr (v, w', s', ρ') → cnvF (sg_g σ 101 k).toNat v ≤ 3000 := fun v w' s' ρ' e => ev_J hX.2.2.2.2.1 (fun j x hx => (hX.2.1.2.2 j x hx).2.2.2.2.1) hX.2.2.2.2.2 hr e
      have kin := hr.2.2.1
      have kr := hr.2.1
      have hA := hX.2.2.2.2.1
      have s50 : ∀ σ37 σ50 σ54, sg_F nsL σ1 σ37 → σ50 = sg_w σ37 88 53 (sg_g σ37 88 73) → sg_F shL σ50 σ54 → sg_g σ37 88 52 = sg_g σ1 88 52 + 1 → (0 ≤ sg_g σ54 88 76 ∧ sg_g σ54 88 76 ≤ 80000) → lwK σ54 := fun σ37 σ50 σ54 f37 e50 f54 g52 b => by
        have f50 : sg_F [54088] σ37 σ50 := by rw [e50]; exact sg_F_w (sg_F_r _ _) rfl _
        have F : sg_F [122, 123, 124, 125, 126, 127, 128, 129, 130, 131, 132, 133, 134, 135, 136, 137, 138, 1088, 52088, 53088, 54088, 55088, 56088, 57088, 61088, 63088, 71088, 74088, 77088, 79088] σ1 σ54 := sg_F_t (sg_F_m f37 rfl) (sg_F_t (sg_F_m f50 rfl) (sg_F_m f54 rfl))
        have e : sg_g σ54 88 52 = sg_g σ 88 52 + 1 := by rw [sg_F_g f54 (by rfl), sg_F_g f50 (by rfl), g52, e52]
        exact fin σ54 F (by rw [h11, hC, e]) (by rw [e]; omega) b
      generalize evN A (sg_g σ 101) (sg_g σ 102) (eC A D (sg_g σ 101) (sg_g σ 102) D.length) 201 k (fun _ => nmF 0) 0 = r at hJ
      match r, hJ with
      | .inl (e, w'), hJ =>
        intro σ37 σ50 f37 g73 g0 _ g52 _ e50
        refine m_showZ (by rw [e50, sg_gw_e _ _ _ _ (sg_Rg _ _ _), g73]; exact g0) (fun σ54 b f54 _ => ⟨g73, s50 σ37 σ50 σ54 f37 e50 f54 g52 b⟩)
      | .inr (v, w', s', ρ'), hJ =>
        intro σ37 σ50 f37 g73 _ _ g52 _ g56 gv e50
        have f50 : sg_F [54088] σ37 σ50 := by rw [e50]; exact sg_F_w (sg_F_r _ _) rfl _
        have g27 : sg_g σ50 88 27 = k := by rw [sg_F_g f50 (by rfl), sg_F_g f37 (by rfl), e27]; exact hk
        refine m_showV (K := (sg_g σ 101 k).toNat) (by rw [e50, sg_gw_e _ _ _ _ (sg_Rg _ _ _), g73]) (by rw [g27]; omega) ?_ (by have := kin.2; omega) (by rw [sg_F_g f50 (a := 88) (k := 56) (by rfl), sg_F_g f50 (a := 88) (k := 60) (by rfl)]; exact g56) ?_ (fun σ54 b f54 _ => ⟨g73, s50 σ37 σ50 σ54 f37 e50 f54 g52 b⟩)
        · rw [g27, sg_F_ga f50 rfl, sg_F_ga f37 rfl, e101]
          have := kin.1
          omega
        · rw [sg_F_ga f50 rfl]
          exact rv_U (rvF_F gv f50 rfl) (hJ v w' s' ρ' rfl)
  -- the class's run
  have rD : sg_R (sg_g σ 0 11) := sg_Rg _ _ _
  refine wk_post (w_cNested z σ (fun q σ1 => sg_F [45, 46, 47, 48, 49, 50, 51, 52, 53, 54, 55, 56, 57, 58, 59, 60, 12000] σ σ1 → wx z 6 292 0 [(0, .inr (.inr (.ref 88)))] [] σ1 (lwA (fun q' σ2 => q' = q ∧ lwK σ2))) ?_) (by rintro v σ' ⟨q, e, r, f9, w⟩; exact ⟨q, e, r, w f9⟩)
  unfold V_cNested
  have e10 := hR.1
  refine ⟨fun h10 => ⟨fun h11 => ⟨⟨by have := rD.1; omega, by omega⟩, fun σ4 e4 => ?_⟩, fun h11 f1 => ?_⟩, fun h10 f1 => ?_⟩
  · have h28 : ¬ sg_g σ 88 28 = 0 := by rw [← e10]; exact h10
    obtain ⟨A, D, k, a1, a2, a3, a4, ⟨B0, a5⟩, a6⟩ := hY.resolve_left h28
    have f4 : sg_F [12000] σ σ4 := by rw [e4]; exact sg_F_w (sg_F_r _ _) rfl _
    have c4 := clR_F a1 f4 rfl
    have kr := a4.2.1
    have hA := a2.2.2.2.2.1
    have e35 : sg_g σ 35 4 = k := a1.2.2.2.2.2.2.2.2.2
    have e6 : sx_at σ 6 200 (sg_g σ 35 4) = sg_g σ4 6 k := by rw [e35, xa_in ⟨kr.1, by omega⟩, sg_F_ga f4 rfl]
    rw [e6]
    obtain ⟨L, x1, x2, x3, x4⟩ := a1.2.2.1
    have eT : evN A (sg_g σ4 6) (sg_g σ 102) (eC A D (sg_g σ4 6) (sg_g σ 102) D.length) 201 k = evN A (sg_g σ 101) (sg_g σ 102) (eC A D (sg_g σ 101) (sg_g σ 102) D.length) 201 k := ev_T x1 (fun x hx => by rw [sg_F_ga f4 rfl]; exact a6 x (x3 x hx).1 (x3 x hx).2)
    unfold V_nRun
    intro z'
    refine wk_post (w_mnRun z' σ4 (sg_g σ4 6 k) (fun q σ8 => q = ansF (evN A (sg_g σ 101) (sg_g σ 102) (eC A D (sg_g σ 101) (sg_g σ 102) D.length) 201 k (fun _ => nmF 0) 0)) (sg_Rg _ _ _) (cN8 (B := sg_g σ 102) c4 a5 (fun σ' => by rw [eT]))) ?_
    rintro v σ8 ⟨q, rfl, rq, f8, hq⟩
    refine ⟨q, rfl, rq, sg_F_m f8 rfl, fun _ f9 f1 => ?_⟩
    rw [hq]
    refine ref σ8 _ f1 (Or.inr (Or.inr ⟨h28, by omega, ?_, A, D, k, a2, a3, a4, rfl⟩))
    rw [sg_F_g f9 (by rfl), e4, sg_gw_e _ _ _ _ ⟨by have := rD.1; omega, by omega⟩]
  · have h28 : ¬ sg_g σ 88 28 = 0 := by rw [← e10]; exact h10
    exact ref σ (-3) f1 (Or.inr (Or.inl ⟨h28, by omega, rfl, rfl⟩))
  · have h28 : sg_g σ 88 28 = 0 := by rw [← e10]; exact h10
    exact ref σ (-4) f1 (Or.inl ⟨h28, rfl, rfl⟩)
/-! FLAT VALUES, told as lists of values, one for each LANE. -/
/-- the items of all lanes -/
def flF (l : List vaF) : List vaF := (l.map itF).flatten
/-- the cells of level j -/
def lvl : Nat → List vaF → List Int
  | 0, l => l.map (fun v => v [])
  | j + 1, l => lvl j (flF l)
/-- EXTENT of a value of depth d -/
def exF : Nat → List vaF → Int
  | 0, l => (l.length : Int)
  | d + 1, l => (l.length : Int) + exF d (flF l)
theorem flF_0 : flF [] = [] := rfl
theorem flF_a (l m : List vaF) : flF (l ++ m) = flF l ++ flF m := by
  unfold flF
  rw [List.map_append, List.flatten_append]
theorem flF_1 (v : vaF) : flF [v] = itF v := by
  unfold flF
  simp
theorem flF_c (v : vaF) (l : List vaF) : flF (v :: l) = itF v ++ flF l := by
  unfold flF
  simp
theorem lvl_0 : ∀ j, lvl j [] = []
  | 0 => rfl
  | j + 1 => by
    simp only [lvl, flF_0]
    exact lvl_0 j
theorem lvl_a : ∀ (j : Nat) (l m : List vaF), lvl j (l ++ m) = lvl j l ++ lvl j m
  | 0, l, m => by simp only [lvl, List.map_append]
  | j + 1, l, m => by
    simp only [lvl, flF_a]
    exact lvl_a j _ _
theorem exF_a : ∀ (d : Nat) (l m : List vaF), exF d (l ++ m) = exF d l + exF d m
  | 0, l, m => by simp only [exF, List.length_append]; omega
  | d + 1, l, m => by
    simp only [exF, flF_a, List.length_append]
    rw [exF_a d]
    omega
theorem exF_n : ∀ (d : Nat) (l : List vaF), (l.length : Int) ≤ exF d l
  | 0, l => Int.le_refl _
  | d + 1, l => by
    simp only [exF]
    have := exF_n d (flF l)
    have h : (0 : Int) ≤ ((flF l).length : Int) := Int.natCast_nonneg _
    omega
/-- EXTENT is all levels' cells -/
def lvS : Nat → List vaF → Nat → Int
  | 0, l, j => ((lvl j l).length : Int)
  | d + 1, l, j => ((lvl j l).length : Int) + lvS d l (j + 1)
theorem lvS_s : ∀ (d : Nat) (l : List vaF) (j : Nat), lvS d (flF l) j = lvS d l (j + 1)
  | 0, l, j => rfl
  | d + 1, l, j => by
    simp only [lvS]
    rw [lvS_s d l (j + 1)]
    rfl
theorem exF_l : ∀ (d : Nat) (l : List vaF), exF d l = lvS d l 0
  | 0, l => by simp [exF, lvS, lvl]
  | d + 1, l => by
    simp only [exF, lvS]
    rw [exF_l d (flF l), lvS_s d l 0]
    simp [lvl]
/-- lengths tell how many cells the next level has -/
theorem lvl_n (l : List vaF) (h : ∀ v ∈ l, 0 ≤ v []) : ((flF l).length : Int) = sumF (lvl 0 l) := by
  induction l with
  | nil => rfl
  | cons v r ih =>
    have hv := h v (by simp)
    rw [flF_c, List.length_append, itF_l]
    simp only [lvl, List.map_cons, sumF]
    have e := ih (fun u hu => h u (by simp [hu]))
    simp only [lvl] at e
    omega
/-- values of depth d: all lengths are 0 or more -/
def okF : Nat → List vaF → Prop
  | 0, _ => True
  | d + 1, l => (∀ v ∈ l, 0 ≤ v []) ∧ okF d (flF l)
theorem okF_a : ∀ (d : Nat) (l m : List vaF), okF d (l ++ m) ↔ okF d l ∧ okF d m
  | 0, l, m => by simp [okF]
  | d + 1, l, m => by
    simp only [okF, flF_a, okF_a d, List.mem_append]
    constructor
    · rintro ⟨a, b, c⟩
      exact ⟨⟨fun v hv => a v (Or.inl hv), b⟩, fun v hv => a v (Or.inr hv), c⟩
    · rintro ⟨⟨a, b⟩, c, e⟩
      exact ⟨fun v hv => hv.elim (a v) (c v), b, e⟩
theorem lvl_len : ∀ (d j : Nat) (l : List vaF), j < d → okF d l → ((lvl (j + 1) l).length : Int) = sumF (lvl j l)
  | d + 1, 0, l, _, h => by
    have := lvl_n l h.1
    simp only [lvl, List.length_map]
    simp only [lvl] at this
    exact this
  | d + 1, j + 1, l, hj, h => lvl_len d j (flF l) (by omega) h.2
/-- cells of level j ahead of lane i -/
def bgF (j : Nat) (l : List vaF) (i : Nat) : Nat := (lvl j (l.take i)).length
theorem bgF_0 (l : List vaF) (i : Nat) (h : i ≤ l.length) : bgF 0 l i = i := by
  unfold bgF
  simp only [lvl, List.length_map, List.length_take]
  omega
theorem bgF_t (j : Nat) (l : List vaF) (i : Nat) : lvl j (l.take i) = (lvl j l).take (bgF j l i) := by
  have e : lvl j l = lvl j (l.take i) ++ lvl j (l.drop i) := by rw [← lvl_a, List.take_append_drop]
  rw [e]
  unfold bgF
  rw [List.take_left]
theorem bgF_s {d j : Nat} {l : List vaF} (i : Nat) (hj : j < d) (h : okF d l) : (bgF (j + 1) l i : Int) = sumF ((lvl j l).take (bgF j l i)) := by
  rw [← bgF_t]
  have h2 : okF d (l.take i) := by
    have := (okF_a d (l.take i) (l.drop i)).mp (by rw [List.take_append_drop]; exact h)
    exact this.1
  exact lvl_len d j (l.take i) hj h2
/-- cells of level j that lane i has -/
theorem bgF_i (j : Nat) (l : List vaF) (i : Nat) (v : vaF) (h : l[i]? = some v) : bgF j l (i + 1) = bgF j l i + (lvl j [v]).length ∧ ((lvl j l).drop (bgF j l i)).take (lvl j [v]).length = lvl j [v] := by
  have e : l.take (i + 1) = l.take i ++ [v] := by rw [List.take_add_one, h]; rfl
  have e2 : l = l.take i ++ ([v] ++ l.drop (i + 1)) := by
    rw [← List.append_assoc, ← e, List.take_append_drop]
  refine ⟨by unfold bgF; rw [e, lvl_a, List.length_append], ?_⟩
  have e3 : lvl j l = lvl j (l.take i) ++ (lvl j [v] ++ lvl j (l.drop (i + 1))) := by
    rw [← lvl_a, ← lvl_a, ← e2]
  rw [e3]
  unfold bgF
  rw [List.drop_left, List.take_left]
