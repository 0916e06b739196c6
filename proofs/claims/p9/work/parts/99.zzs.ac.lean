/-! THE LAW'S STATE, second: what stands on both sides is the same PROGRAM. -/
def lkR (σ : sg_S) : Prop := sg_g σ 0 10 = sg_g σ 88 28 ∧ (sg_g σ 88 28 = 0 ∨ (sg_g σ 2 16 = sg_g σ 88 8 ∧ sg_g σ 19 8 = sg_g σ 88 19 ∧ sg_g σ 35 4 = sg_g σ 88 27 ∧ (0 ≤ sg_g σ 88 27 ∧ sg_g σ 88 27 < sg_g σ 88 8 ∧ sg_g σ 88 8 ≤ 200) ∧ ∀ n, 0 ≤ n → n < sg_g σ 88 8 → sg_g σ 6 n = sg_g σ 101 n ∧ sg_g σ 4 n = sg_g σ 94 n))
def okK (L : List Nat) : Bool := !sg_cv L 0 10 && !sg_cv L 88 28 && !sg_cv L 2 16 && !sg_cv L 88 8 && !sg_cv L 19 8 && !sg_cv L 88 19 && !sg_cv L 35 4 && !sg_cv L 88 27 && sg_ca L 6 && sg_ca L 101 && sg_ca L 4 && sg_ca L 94
theorem lkR_F {L : List Nat} {σ σ' : sg_S} (h : lkR σ) (f : sg_F L σ σ') (hL : okK L = true) : lkR σ' := by
  unfold okK at hL
  simp only [Bool.and_eq_true, Bool.not_eq_true'] at hL
  obtain ⟨⟨⟨⟨⟨⟨⟨⟨⟨⟨⟨l1, l2⟩, l3⟩, l4⟩, l5⟩, l6⟩, l7⟩, l8⟩, l9⟩, l10⟩, l11⟩, l12⟩ := hL
  unfold lkR at h ⊢
  rw [sg_F_g f l1, sg_F_g f l2, sg_F_g f l3, sg_F_g f l4, sg_F_g f l5, sg_F_g f l6, sg_F_g f l7, sg_F_g f l8]
  refine ⟨h.1, h.2.imp id (fun w => ⟨w.1, w.2.1, w.2.2.1, w.2.2.2.1, fun n n0 n1 => ?_⟩)⟩
  rw [sg_F_ga f l9, sg_F_ga f l10, sg_F_ga f l11, sg_F_ga f l12]
  exact w.2.2.2.2 n n0 n1
def lwJ (σ : sg_S) : Prop := lwI σ ∧ lkR σ
section LXC
variable {σ : sg_S}
theorem lx_c_fault (z : Value) (h : lwJ σ) : wx z 0 13 0 [(0, .inr (.inr (.ref 0)))] [] σ (lwA (fun _ σ' => lwJ σ')) := wk_post (w_cFault z σ) (by rintro v σ' ⟨rfl, rfl⟩; exact ⟨_, rfl, sg_Rg _ _ _, h⟩)
theorem lx_r_fault (z : Value) (h : lwJ σ) : wx z 0 228 0 [(0, .inr (.inr (.ref 88)))] [] σ (lwA (fun _ σ' => lwJ σ')) := by
  have hK := h.2
  replace h := h.1
  exact wk_post (w_fault z σ (fun _ σ' => lwI σ') (by
    unfold V_fault
    intro σ1 e1
    exact lwI_F h (L := [1088]) (by rw [e1]; exact sg_F_w (sg_F_r _ _) rfl _) rfl)) (by rintro v σ' ⟨q, e, r, f9, w⟩; exact ⟨q, e, r, w, lkR_F hK f9 rfl⟩)
theorem lx_v {j : Nat} {d : Nat} {ls : bm_L} {x : Int} (z : Value) (h : lwJ σ) (w : wx z d j 0 ls [] σ (fun v σ' => v = some (.inl x) ∧ σ' = σ)) : wx z d j 0 ls [] σ (lwA (fun _ σ' => lwJ σ')) := wk_rg (wk_post w (by rintro v σ' ⟨rfl, rfl⟩; exact ⟨⟨_, rfl⟩, h⟩))
theorem lx_c_about (z : Value) {a : Int} (ra : sg_R a) (h : lwJ σ) : wx z 1 2 0 [(0, .inr (.inr (.ref 0))), (1, .inl (a))] [] σ (lwA (fun _ σ' => lwJ σ')) := lx_v z h (w_cAbout z σ a ra)
theorem lx_c_node (z : Value) {a b : Int} (ra : sg_R a) (rb : sg_R b) (h : lwJ σ) : wx z 1 20 0 [(0, .inr (.inr (.ref 0))), (1, .inl (a)), (2, .inl (b))] [] σ (lwA (fun _ σ' => lwJ σ')) := lx_v z h (w_cNode z σ a b ra rb)
theorem lx_c_meter (z : Value) {a : Int} (ra : sg_R a) (h : lwJ σ) : wx z 0 18 0 [(0, .inr (.inr (.ref 0))), (1, .inl (a))] [] σ (lwA (fun _ σ' => lwJ σ')) := lx_v z h (w_cMeter z σ a ra)
theorem lx_c_shown (z : Value) {a : Int} (ra : sg_R a) (h : lwJ σ) : wx z 0 24 0 [(0, .inr (.inr (.ref 0))), (1, .inl (a))] [] σ (lwA (fun _ σ' => lwJ σ')) := lx_v z h (w_cShown z σ a ra)
theorem lx_r_about (z : Value) {a : Int} (ra : sg_R a) (h : lwJ σ) : wx z 1 209 0 [(0, .inr (.inr (.ref 88))), (1, .inl a)] [] σ (lwA (fun _ σ' => lwJ σ')) := by
  have hK := h.2
  replace h := h.1
  exact wk_post (w_about z σ a (fun _ σ' => lwI σ') ra (by
    unfold V_about
    intro σ1 e1
    have h1 := lw_1088 h e1
    exact ⟨fun _ => ⟨fun _ => ⟨fun y => ⟨fun _ => ⟨fun _ => ⟨(lw_root h.2.2.2.2.2.1 y).1, h1⟩, fun _ => h1⟩, fun _ => h1⟩, fun _ => h1⟩, fun _ => h1⟩, fun _ => h1⟩)) (by rintro v σ' ⟨q, e, r, f9, w⟩; exact ⟨q, e, r, w, lkR_F hK f9 rfl⟩)
theorem lx_r_node (z : Value) {a b : Int} (ra : sg_R a) (rb : sg_R b) (h : lwJ σ) : wx z 1 295 0 [(0, .inr (.inr (.ref 88))), (1, .inl a), (2, .inl b)] [] σ (lwA (fun _ σ' => lwJ σ')) := by
  have hK := h.2
  replace h := h.1
  exact wk_post (w_node z σ a b (fun _ σ' => lwI σ') ra rb (by
    unfold V_node
    intro σ1 e1
    have h1 := lw_1088 h e1
    refine ⟨fun y => ?_, fun _ => h1⟩
    have r := lw_root h.2.2.2.2.2.1 y
    have ii : ¬ v_in a 0 (sg_g σ 88 8 - 1) = 0 → 0 ≤ a ∧ a < 210 := fun w => by
      unfold v_in at w
      split at w
      · exact absurd rfl w
      · split at w
        · exact absurd rfl w
        · omega
    exact ⟨⟨by omega, by omega⟩, fun w => ⟨fun _ => ⟨fun _ => h1, fun _ => ⟨ii w, h1⟩⟩, fun _ => ⟨ii w, h1⟩⟩, fun _ => h1⟩)) (by rintro v σ' ⟨q, e, r, f9, w⟩; exact ⟨q, e, r, w, lkR_F hK f9 rfl⟩)
theorem lx_r_meter (z : Value) {a : Int} (ra : sg_R a) (h : lwJ σ) : wx z 1 291 0 [(0, .inr (.inr (.ref 88))), (1, .inl a)] [] σ (lwA (fun _ σ' => lwJ σ')) := by
  have hK := h.2
  replace h := h.1
  exact wk_post (w_meter z σ a (fun _ σ' => lwI σ') ra (by
    unfold V_meter
    intro σ1 e1
    have h1 := lw_1088 h e1
    exact ⟨fun _ => ⟨fun _ => ⟨fun _ => ⟨fun _ => ⟨fun _ => h1, fun _ => h1⟩, fun _ => h1⟩, fun _ => h1⟩, fun _ => ⟨fun _ => h1, fun _ => ⟨fun _ => ⟨fun _ => h1, fun _ => h1⟩, fun _ => ⟨fun _ => ⟨fun _ => h1, fun _ => h1⟩, fun _ => h1⟩⟩⟩⟩, fun _ => h1⟩)) (by rintro v σ' ⟨q, e, r, f9, w⟩; exact ⟨q, e, r, w, lkR_F hK f9 rfl⟩)
theorem lx_r_shown (z : Value) {a : Int} (ra : sg_R a) (h : lwJ σ) : wx z 1 328 0 [(0, .inr (.inr (.ref 88))), (1, .inl a)] [] σ (lwA (fun _ σ' => lwJ σ')) := by
  have hK := h.2
  replace h := h.1
  exact wk_post (w_shown z σ a (fun _ σ' => lwI σ') ra (by
    unfold V_shown
    intro σ1 e1
    have h1 := lw_1088 h e1
    exact ⟨fun _ => ⟨fun _ => h1, fun _ => h1⟩, fun _ => h1⟩)) (by rintro v σ' ⟨q, e, r, f9, w⟩; exact ⟨q, e, r, w, lkR_F hK f9 rfl⟩)
theorem lx_r_byteAt (z : Value) {a b : Int} (ra : sg_R a) (rb : sg_R b) (h : lwJ σ) : wx z 1 215 0 [(0, .inr (.inr (.ref 88))), (1, .inl a), (2, .inl b)] [] σ (lwA (fun _ σ' => lwJ σ')) := by
  have hK := h.2
  replace h := h.1
  exact wk_post (w_byteAt z σ a b (fun _ σ' => lwI σ') ra rb (by
    unfold V_byteAt
    intro σ1 e1
    have h1 := lw_1088 h e1
    have h76 := h.2.2.2.2.2.2.2.2.1
    have h77 := h.2.2.2.2.2.2.2.2.2
    refine ⟨fun _ v7 e7 r7 => ?_, fun _ => h1⟩
    have b7 : 0 ≤ v7 ∧ v7 ≤ 80000 := by rw [e7]; split <;> assumption
    refine ⟨⟨by omega, by omega⟩, fun _ => h1, fun w => ⟨fun _ => h1, fun w2 v15 e15 r15 => ?_⟩⟩
    have b0 : 0 ≤ b := by
      unfold v_in at w
      split at w
      · exact absurd rfl w
      · omega
    have b15 : v15 = 0 ∨ v15 = 80000 := by rw [e15]; split <;> simp
    exact ⟨⟨by omega, by omega⟩, ⟨by omega, by omega⟩, h1⟩)) (by rintro v σ' ⟨q, e, r, f9, w⟩; exact ⟨q, e, r, w, lkR_F hK f9 rfl⟩)
theorem lx_r_alike (z : Value) (h : lwJ σ) : wx z 0 213 0 [(0, .inr (.inr (.ref 88)))] [] σ (lwA (fun _ σ' => lwJ σ')) := by
  have hK := h.2
  replace h := h.1
  exact wk_post (w_alike z σ (fun _ σ' => lwI σ') (by
    unfold V_alike
    intro σ1 e1
    have h1 := lw_1088 h e1
    have h76 := h.2.2.2.2.2.2.2.2.1
    refine ⟨fun _ => h1, fun _ => ⟨fun _ => h1, fun _ => ⟨fun _ => h1, fun _ => ⟨fun _ => ⟨fun _ => ⟨fun _ => h1, fun _ => ⟨fun _ => h1, fun _ => h1⟩⟩, fun _ => ⟨fun _ v14 e14 r14 => ?_, fun _ => ⟨fun _ => h1, fun _ => ⟨fun _ => h1, fun _ => h1⟩⟩⟩⟩, fun _ => h1⟩⟩⟩⟩
    refine ⟨fun m v w => m = (80000 - w).toNat ∧ 0 ≤ w ∧ w ≤ 80000, fun _ => True, ⟨_, rfl, by omega, by omega⟩, ?_, fun v17 r17 _ => ⟨fun _ => h1, fun _ => h1⟩⟩
    rintro m v w rv rw' ⟨em, w1, w2⟩
    exact ⟨fun _ => trivial, fun y => ⟨fun _ => trivial, fun _ => ⟨⟨by omega, by omega⟩, ⟨by omega, by omega⟩, ⟨by omega, by omega⟩, fun v42 _ _ => ⟨⟨by omega, by omega⟩, _, by omega, rfl, by omega, by omega⟩⟩⟩⟩)) (by rintro v σ' ⟨q, e, r, f9, w⟩; exact ⟨q, e, r, w, lkR_F hK f9 rfl⟩)
theorem lx_r_nested (z : Value) (h : lwJ σ) : wx z 6 292 0 [(0, .inr (.inr (.ref 88)))] [] σ (lwA (fun _ σ' => lwJ σ')) := by
  have hK := h.2
  replace h := h.1
  obtain ⟨a1, a2, a3, a4, a5, a6, a7, a8, a9, a10⟩ := id h
  have hR : ∃ A D T B r, sg_g σ 88 28 = 0 ∨ (pgX σ A D T B ∧ sg_g σ 88 27 = r ∧ tyN A (kDl D []) T B 201 [] r) := by
    rcases a6 with q | ⟨-, A, D, r, q1, q2, q3, q4⟩
    · exact ⟨aE0, [], fun _ => 0, fun _ => 0, 0, Or.inl q⟩
    · exact ⟨A, D, _, _, r, Or.inr ⟨q1, q2, q3⟩⟩
  obtain ⟨A, D, T, B, r, hR⟩ := hR
  refine wk_post (w_nested z σ (fun _ σ' => lwI σ') (q_nested hR a7 a9 (fun q σ' f b1 b2 => ?_))) (by rintro v σ' ⟨q, e, r, f9, w⟩; exact ⟨q, e, r, w, lkR_F hK f9 rfl⟩)
  obtain ⟨-, c2, c3, c4, c5, c6, -, -, -, -⟩ := h
  have e37 : sg_gl σ' 37 = sg_gl σ 37 := funext fun x => sg_F_gal f rfl
  refine ⟨by rw [sg_F_g f (by rfl)]; exact a1, by rw [sg_F_g f (by rfl), sg_F_g f (by rfl)]; exact c2, fun p z1 z2 => ?_, by rw [e37]; exact c4, ?_, rfR_F c6 f rfl rfl rfl rfl rfl, b1, by rw [sg_F_g f (by rfl)]; exact a8, b2, by rw [sg_F_g f (by rfl)]; exact a10⟩
  · rw [sg_F_g f (by rfl)] at z2
    rw [sg_F_ga f rfl, c3 p z1 z2]
    unfold tb
    rw [sg_F_ga f rfl]
  · rw [sg_F_g f (by rfl)]
    rcases c5 with q | ⟨q1, q2⟩
    · exact Or.inl q
    · exact Or.inr ⟨q1, flR_F q2 f rfl⟩
theorem lx_r_flat (z : Value) (h : lwJ σ) : wx z 6 231 0 [(0, .inr (.inr (.ref 88)))] [] σ (lwA (fun _ σ' => lwJ σ')) := by
  have hK := h.2
  replace h := h.1
  obtain ⟨a1, a2, a3, a4, a5, a6, a7, a8, a9, a10⟩ := id h
  have hR : ∃ A D T B r, sg_g σ 88 28 = 0 ∨ (pgX σ A D T B ∧ sg_g σ 88 27 = r ∧ tyN A (kDl D []) T B 201 [] r ∧ frA A (aRt D ++ [r])) := by
    rcases a6 with q | ⟨-, A, D, r, q1, q2, q3, q4⟩
    · exact ⟨aE0, [], fun _ => 0, fun _ => 0, 0, Or.inl q⟩
    · exact ⟨A, D, _, _, r, Or.inr ⟨q1, q2, q3, q4⟩⟩
  obtain ⟨A, D, T, B, r, hR⟩ := hR
  refine wk_post (w_flat z σ (fun _ σ' => lwI σ') (q_flat hR a8 a10 (fun q σ' f b1 b2 => ?_))) (by rintro v σ' ⟨q, e, r, f9, w⟩; exact ⟨q, e, r, w, lkR_F hK f9 rfl⟩)
  obtain ⟨-, c2, c3, c4, c5, c6, -, -, -, -⟩ := h
  have e37 : sg_gl σ' 37 = sg_gl σ 37 := funext fun x => sg_F_gal f rfl
  refine ⟨by rw [sg_F_g f (by rfl)]; exact a1, by rw [sg_F_g f (by rfl), sg_F_g f (by rfl)]; exact c2, fun p z1 z2 => ?_, by rw [e37]; exact c4, ?_, rfR_F c6 f rfl rfl rfl rfl rfl, by rw [sg_F_g f (by rfl)]; exact a7, b1, by rw [sg_F_g f (by rfl)]; exact a9, b2⟩
  · rw [sg_F_g f (by rfl)] at z2
    rw [sg_F_ga f rfl, c3 p z1 z2]
    unfold tb
    rw [sg_F_ga f rfl]
  · rw [sg_F_g f (by rfl)]
    rcases c5 with q | ⟨q1, q2⟩
    · exact Or.inl q
    · exact Or.inr ⟨q1, flR_F q2 f rfl⟩
theorem lx_c_nested (z : Value) (h : lwJ σ) : wx z 9 19 0 [(0, .inr (.inr (.ref 0)))] [] σ (lwA (fun _ σ' => lwJ σ')) := by
  have hK := h.2
  replace h := h.1
  exact wk_post (w_cNested z σ (fun _ σ' => lwI σ') (c_nested h.2.2.2.2.1 (fun q σ' f => lwI_F h f rfl))) (by rintro v σ' ⟨q, e, r, f9, w⟩; exact ⟨q, e, r, w, lkR_F hK f9 rfl⟩)
theorem lx_c_flat (z : Value) (h : lwJ σ) : wx z 9 15 0 [(0, .inr (.inr (.ref 0)))] [] σ (lwA (fun _ σ' => lwJ σ')) := by
  have hK := h.2
  replace h := h.1
  exact wk_post (w_cFlat z σ (fun _ σ' => lwI σ') (c_flat h.2.2.2.2.1 (fun q σ' f => lwI_F h f rfl))) (by rintro v σ' ⟨q, e, r, f9, w⟩; exact ⟨q, e, r, w, lkR_F hK f9 rfl⟩)
theorem lx_c_byteAt (z : Value) {a b : Int} (ra : sg_R a) (rb : sg_R b) (h : lwJ σ) : wx z 1 8 0 [(0, .inr (.inr (.ref 0))), (1, .inl a), (2, .inl b)] [] σ (lwA (fun _ σ' => lwJ σ')) := by
  have hK := h.2
  replace h := h.1
  exact wk_post (w_cByteAt z σ a b (fun _ σ' => lwI σ') ra rb (by
    unfold V_cByteAt
    have p1 : p_cAt51 σ b := ⟨fun _ => trivial, fun y => ⟨fun _ => trivial, fun y2 => ⟨⟨y, y2⟩, trivial⟩⟩⟩
    have p2 : p_cAt67 σ b := ⟨fun _ => trivial, fun y => ⟨fun _ => trivial, fun y2 => ⟨⟨y, y2⟩, trivial⟩⟩⟩
    exact ⟨fun _ => ⟨fun _ => h, fun _ => ⟨fun _ => ⟨fun _ => h, fun _ v5 _ _ => ⟨fun _ => ⟨p1, h⟩, fun _ => h⟩⟩, fun _ => h⟩⟩, fun _ => ⟨fun _ => h, fun _ => ⟨fun _ => ⟨fun _ => h, fun _ v5 _ _ => ⟨fun _ => ⟨p2, h⟩, fun _ => h⟩⟩, fun _ => h⟩⟩⟩)) (by rintro v σ' ⟨q, e, r, f9, w⟩; exact ⟨q, e, r, w, by rw [← f9]; exact hK⟩)
theorem lx_c_alike (z : Value) (h : lwJ σ) : wx z 2 3 0 [(0, .inr (.inr (.ref 0)))] [] σ (lwA (fun _ σ' => lwJ σ')) := by
  have hK := h.2
  replace h := h.1
  exact wk_post (w_cAlike z σ (fun _ σ' => lwI σ') (by
    have sm : ∀ R : Int → sg_S → Prop, R 0 σ → R 1 σ → V_iSame4965 σ R := fun R r0 r1 => by
      unfold V_iSame4965
      have r := sg_Rg σ 49 2
      refine ⟨fun _ => ⟨fun m v => m = (2147483647 - v).toNat ∧ 0 ≤ v, True, ⟨_, rfl, by omega⟩, ?_, fun _ => r1⟩, fun _ => r0⟩
      rintro m v rv ⟨em, v0⟩
      exact ⟨fun _ => trivial, fun y => ⟨fun _ => ⟨⟨by omega, by have := r.2; omega⟩, _, by have := r.2; omega, rfl, by omega⟩, fun _ => r0⟩⟩
    unfold V_cAlike
    have s1 : ∀ (P : Prop), V_iSame4965 σ (fun q8 _ => (q8 = 0 ∨ q8 = 1) → ((q8 = 0 → lwI σ) ∧ (¬ q8 = 0 → lwI σ))) := fun _ => sm _ (fun _ => ⟨fun _ => h, fun _ => h⟩) (fun _ => ⟨fun _ => h, fun _ => h⟩)
    exact ⟨fun _ => h, fun _ => ⟨fun _ => h, fun _ => ⟨fun _ => h, fun _ => ⟨fun _ => ⟨fun _ => ⟨fun _ => h, fun _ => ⟨fun _ => s1 True, fun _ => h⟩⟩, fun _ => ⟨fun _ => ⟨fun _ => h, fun _ => ⟨fun _ => s1 True, fun _ => h⟩⟩, fun _ => h⟩⟩, fun _ => h⟩⟩⟩⟩)) (by rintro v σ' ⟨q, e, r, f9, w⟩; exact ⟨q, e, r, w, by rw [← f9]; exact hK⟩)
end LXC
