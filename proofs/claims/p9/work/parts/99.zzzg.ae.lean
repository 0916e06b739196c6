/-! flat of both sides: the answers are alike. -/
abbrev cfL : List Nat := [61, 62, 63, 64, 65, 66, 67, 68, 69, 70, 71, 72, 73, 74, 75, 76, 78, 79, 80, 81, 82, 83, 84, 85, 86, 87, 8061, 9061, 10061, 11061, 11077, 12077, 13000, 13077, 14077, 15077, 16077, 17077, 18077, 19077, 22061, 23061, 24061, 25061]
abbrev rfL : List Nat := [119, 120, 121, 126, 127, 128, 133, 134, 135, 136, 137, 138, 139, 140, 141, 142, 143, 144, 145, 146, 147, 148, 149, 150, 151, 1088, 47088, 50088, 63088, 71088, 74088, 78088, 79088, 82088, 83088, 84088, 85088, 86088, 87088, 88088, 92088, 94088, 100088, 103088, 104088]
theorem lz_flat (z : Value) {σ : sg_S} (h : lwZ σ) : lwP4 z 9 15 [(0, .inr (.inr (.ref 0)))] 6 231 [(0, .inr (.inr (.ref 88)))] σ (fun q q' => q' = q) := by
  obtain ⟨hI, hR, ⟨hC11, hC⟩, hY⟩ := h
  have h82 := hI.2.2.2.2.2.2.2.1
  -- the reference's run, once the class has run
  have ref : ∀ (σ1 : sg_S) (a : Int), sg_F cfL σ σ1 → ((sg_g σ 88 28 = 0 ∧ a = -4 ∧ sg_g σ1 0 12 = sg_g σ 0 12) ∨ (¬ sg_g σ 88 28 = 0 ∧ sg_g σ 88 82 = 20 ∧ a = -3 ∧ sg_g σ1 0 12 = sg_g σ 0 12) ∨ (¬ sg_g σ 88 28 = 0 ∧ ¬ sg_g σ 88 82 = 20 ∧ sg_g σ1 0 12 = sg_g σ 0 12 + 1 ∧ ∃ A D k O, pgX σ A D (sg_g σ 101) (sg_g σ 102) ∧ sg_g σ 88 27 = k ∧ tyN A (kDl D []) (sg_g σ 101) (sg_g σ 102) 201 [] k ∧ frA A (aRt D ++ [k]) ∧ okO A (sg_g σ 102) O ∧ gaH A (sg_g σ 102) (sg_g σ 116) O ∧ a = fRe (fxA A D (sg_g σ 101) (sg_g σ 102) O k))) → wx z 6 231 0 [(0, .inr (.inr (.ref 88)))] [] σ1 (lwA (fun q' σ2 => q' = a ∧ lwZ σ2)) := fun σ1 a f1 hc => by
    have I1 : lwI σ1 := lwI_F hI f1 rfl
    have R1 : lkR σ1 := lkR_F hR f1 rfl
    have Y1 : sg_g σ1 88 28 = 0 ∨ lyR σ1 := by
      rw [sg_F_g f1 (by rfl)]
      exact hY.imp id (fun w => lyR_F w f1 rfl)
    have e82 : sg_g σ1 88 82 = sg_g σ 88 82 := sg_F_g f1 (by rfl)
    have e28 : sg_g σ1 88 28 = sg_g σ 88 28 := sg_F_g f1 (by rfl)
    have e27 : sg_g σ1 88 27 = sg_g σ 88 27 := sg_F_g f1 (by rfl)
    -- what the end keeps
    have fin : ∀ σ2, sg_F rfL σ1 σ2 → sg_g σ1 0 12 = sg_g σ2 88 82 → (0 ≤ sg_g σ2 88 82 ∧ sg_g σ2 88 82 ≤ 20) → (0 ≤ sg_g σ2 88 77 ∧ sg_g σ2 88 77 ≤ 80000) → lwZ σ2 := fun σ2 f g1 b1 b2 => by
      obtain ⟨a1, c2, c3, c4, c5, c6, a7, a8, a9, a10⟩ := I1
      have e37 : sg_gl σ2 37 = sg_gl σ1 37 := funext fun x => sg_F_gal f rfl
      refine ⟨⟨by rw [sg_F_g f (by rfl)]; exact a1, by rw [sg_F_g f (by rfl), sg_F_g f (by rfl)]; exact c2, fun p z1 z2 => ?_, by rw [e37]; exact c4, ?_, rfR_F c6 f rfl rfl rfl rfl rfl, by rw [sg_F_g f (by rfl)]; exact a7, b1, by rw [sg_F_g f (by rfl)]; exact a9, b2⟩, lkR_F R1 f rfl, ⟨by rw [sg_F_g f (a := 0) (k := 11) (by rfl), sg_F_g f (a := 88) (k := 52) (by rfl), sg_F_g f1 (a := 0) (k := 11) (by rfl), sg_F_g f1 (a := 88) (k := 52) (by rfl)]; exact hC11, by rw [sg_F_g f (a := 0) (k := 12) (by rfl)]; exact g1⟩, ?_⟩
      · rw [sg_F_g f (by rfl)] at z2
        rw [sg_F_ga f rfl, c3 p z1 z2]
        unfold tb
        rw [sg_F_ga f rfl]
      · rw [sg_F_g f (by rfl)]
        rcases c5 with q | ⟨q1, q2⟩
        · exact Or.inl q
        · exact Or.inr ⟨q1, flR_F q2 f rfl⟩
      · rw [sg_F_g f (by rfl)]
        exact Y1.imp id (fun w => lyR_F w f rfl)
    have b77 := I1.2.2.2.2.2.2.2.2.2
    rcases hc with ⟨h28, rfl, h12⟩ | ⟨h28, h20, rfl, h12⟩ | ⟨h28, h20, h12, A, D, k, O, hX, hk, hr, hfr, hO, hG, rfl⟩
    · refine wk_post (w_flat z σ1 (fun q' σ2 => q' = -4 ∧ lwZ σ2) ?_) (by rintro v σ' ⟨q, e, r, -, w⟩; exact ⟨q, e, r, w⟩)
      unfold V_flat
      intro σ2 e2
      refine ⟨fun q => absurd (e28.trans h28) q, fun _ => ⟨rfl, ?_⟩⟩
      have f2 : sg_F [1088] σ1 σ2 := by rw [e2]; exact sg_F_w (sg_F_r _ _) rfl _
      exact fin σ2 (sg_F_m f2 rfl) (by rw [h12, hC, ← e82, sg_F_g f2 (by rfl)]) (by rw [sg_F_g f2 (by rfl), e82]; exact h82) (by rw [sg_F_g f2 (by rfl)]; exact b77)
    · refine wk_post (w_flat z σ1 (fun q' σ2 => q' = -3 ∧ lwZ σ2) ?_) (by rintro v σ' ⟨q, e, r, -, w⟩; exact ⟨q, e, r, w⟩)
      unfold V_flat
      intro σ2 e2
      refine ⟨fun _ => ⟨fun q => absurd (e82.trans h20) q, fun _ => ⟨rfl, ?_⟩⟩, fun q => absurd (e28.symm.trans q) h28⟩
      have f2 : sg_F [1088] σ1 σ2 := by rw [e2]; exact sg_F_w (sg_F_r _ _) rfl _
      exact fin σ2 (sg_F_m f2 rfl) (by rw [h12, hC, ← e82, sg_F_g f2 (by rfl)]) (by rw [sg_F_g f2 (by rfl), e82]; exact h82) (by rw [sg_F_g f2 (by rfl)]; exact b77)
    · have hX1 : pgX σ1 A D (sg_g σ 101) (sg_g σ 102) := pgX_F f1 rfl hX
      refine wk_post (w_flat z σ1 (fun q' σ2 => q' = fRe (fxA A D (sg_g σ 101) (sg_g σ 102) O k) ∧ lwZ σ2) (xq_flat (c := sg_g σ 116) hX1 (e27.trans hk) hr hfr hO hG (fun y => sg_F_ga f1 rfl) (fun q => h28 (e28.symm.trans q)) ⟨by rw [e82]; exact h82.1, by rw [e82]; have := h82.2; omega⟩ (fun σ2 f2 g82 g77 _ _ => ⟨rfl, ?_⟩))) (by rintro v σ' ⟨q, e, r, -, w⟩; exact ⟨q, e, r, w⟩)
      exact fin σ2 (sg_F_m f2 rfl) (by rw [h12, hC, g82, e82]) (by rw [g82, e82]; have := h82.1; have := h82.2; exact ⟨by omega, by omega⟩) g77
  -- the class's run
  have rD : sg_R (sg_g σ 0 12) := sg_Rg _ _ _
  refine wk_post (w_cFlat z σ (fun q σ1 => sg_F cfL σ σ1 → wx z 6 231 0 [(0, .inr (.inr (.ref 88)))] [] σ1 (lwA (fun q' σ2 => q' = q ∧ lwZ σ2))) ?_) (by rintro v σ' ⟨q, e, r, f9, w⟩; exact ⟨q, e, r, w f9⟩)
  unfold V_cFlat
  have e10 := hR.1
  refine ⟨fun h10 => ⟨fun h12 => ⟨⟨by have := rD.1; omega, by omega⟩, fun σ4 e4 => ?_⟩, fun h12 f1 => ?_⟩, fun h10 f1 => ?_⟩
  · have h28 : ¬ sg_g σ 88 28 = 0 := by rw [← e10]; exact h10
    obtain ⟨A, D, k, a1, a2, a3, a4, ⟨B0, a5⟩, a6⟩ := hY.resolve_left h28
    have f4 : sg_F [13000] σ σ4 := by rw [e4]; exact sg_F_w (sg_F_r _ _) rfl _
    have c4 := clR_F a1 f4 rfl
    have kr := a4.2.1
    have hA := a2.2.2.2.2.1
    have e35 : sg_g σ 35 4 = k := a1.2.2.2.2.2.2.2.2.2
    have e6 : sx_at σ 6 200 (sg_g σ 35 4) = sg_g σ4 6 k := by rw [e35, xa_in ⟨kr.1, by omega⟩, sg_F_ga f4 rfl]
    rw [e6]
    obtain ⟨O, o1, o2⟩ := O_ex A (sg_g σ 102) (sg_g σ 116)
    have e101 : sg_g σ4 101 = sg_g σ 101 := funext fun x => sg_F_ga f4 rfl
    have e102 : sg_g σ4 102 = sg_g σ 102 := funext fun x => sg_F_ga f4 rfl
    have n12 : sg_g σ4 0 12 = sg_g σ 0 12 + 1 := by rw [e4, sg_gw_e _ _ _ _ ⟨by have := rD.1; omega, by omega⟩]
    refine cF9 (O := O) (B0 := B0) c4 (by rw [e101, e102]; exact pgX_F f4 rfl a2) (fun x z1 z2 => by rw [e102]; exact a5 x z1 z2) (fun n z1 z2 => by rw [e101, sg_F_ga f4 rfl]; exact a6 n z1 z2) (by rw [e102]; exact o1) (fun σ8 => ?_)
    rw [e101, e102]
    intro _ f9 f1
    exact ref σ8 _ f1 (Or.inr (Or.inr ⟨h28, by omega, by rw [sg_F_g f9 (by rfl)]; exact n12, A, D, k, O, a2, a3, a4, a1.2.2.1, o1, o2, rfl⟩))
  · have h28 : ¬ sg_g σ 88 28 = 0 := by rw [← e10]; exact h10
    exact ref σ (-3) f1 (Or.inr (Or.inl ⟨h28, by omega, rfl, rfl⟩))
  · have h28 : sg_g σ 88 28 = 0 := by rw [← e10]; exact h10
    exact ref σ (-4) f1 (Or.inl ⟨h28, rfl, rfl⟩)
