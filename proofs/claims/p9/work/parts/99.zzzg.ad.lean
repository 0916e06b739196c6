/-! nested of both sides, over the fourth state. -/
set_option maxRecDepth 10000 in
theorem lz_nested (z : Value) {σ : sg_S} (h : lwZ σ) : lwP4 z 9 19 [(0, .inr (.inr (.ref 0)))] 6 292 [(0, .inr (.inr (.ref 88)))] σ (fun q q' => q' = q) := by
  obtain ⟨hI, hR, ⟨hC, hC12⟩, hY⟩ := h
  have h52 := hI.2.2.2.2.2.2.1
  -- the reference's run, once the class has run
  have ref : ∀ (σ1 : sg_S) (a : Int), sg_F [45, 46, 47, 48, 49, 50, 51, 52, 53, 54, 55, 56, 57, 58, 59, 60, 12000] σ σ1 → ((sg_g σ 88 28 = 0 ∧ a = -4 ∧ sg_g σ1 0 11 = sg_g σ 0 11) ∨ (¬ sg_g σ 88 28 = 0 ∧ sg_g σ 88 52 = 20 ∧ a = -3 ∧ sg_g σ1 0 11 = sg_g σ 0 11) ∨ (¬ sg_g σ 88 28 = 0 ∧ ¬ sg_g σ 88 52 = 20 ∧ sg_g σ1 0 11 = sg_g σ 0 11 + 1 ∧ ∃ A D k, pgX σ A D (sg_g σ 101) (sg_g σ 102) ∧ sg_g σ 88 27 = k ∧ tyN A (kDl D []) (sg_g σ 101) (sg_g σ 102) 201 [] k ∧ a = ansF (evN A (sg_g σ 101) (sg_g σ 102) (eC A D (sg_g σ 101) (sg_g σ 102) D.length) 201 k (fun _ => nmF 0) 0))) → wx z 6 292 0 [(0, .inr (.inr (.ref 88)))] [] σ1 (lwA (fun q' σ2 => q' = a ∧ lwZ σ2)) := fun σ1 a f1 hc => by
    have I1 : lwI σ1 := lwI_F hI f1 rfl
    have R1 : lkR σ1 := lkR_F hR f1 rfl
    have Y1 : sg_g σ1 88 28 = 0 ∨ lyR σ1 := by
      rw [sg_F_g f1 (by rfl)]
      exact hY.imp id (fun w => lyR_F w f1 rfl)
    have e52 : sg_g σ1 88 52 = sg_g σ 88 52 := sg_F_g f1 (by rfl)
    have e28 : sg_g σ1 88 28 = sg_g σ 88 28 := sg_F_g f1 (by rfl)
    have e27 : sg_g σ1 88 27 = sg_g σ 88 27 := sg_F_g f1 (by rfl)
    have e101 : sg_g σ1 101 = sg_g σ 101 := funext fun x => sg_F_ga f1 rfl
    have e102 : sg_g σ1 102 = sg_g σ 102 := funext fun x => sg_F_ga f1 rfl
    -- what the end keeps
    have fin : ∀ σ2, sg_F [122, 123, 124, 125, 126, 127, 128, 129, 130, 131, 132, 133, 134, 135, 136, 137, 138, 1088, 52088, 53088, 54088, 55088, 56088, 57088, 61088, 63088, 71088, 74088, 77088, 79088] σ1 σ2 → sg_g σ1 0 11 = sg_g σ2 88 52 → (0 ≤ sg_g σ2 88 52 ∧ sg_g σ2 88 52 ≤ 20) → (0 ≤ sg_g σ2 88 76 ∧ sg_g σ2 88 76 ≤ 80000) → lwZ σ2 := fun σ2 f g1 b1 b2 => by
      obtain ⟨a1, c2, c3, c4, c5, c6, a7, a8, a9, a10⟩ := I1
      have e37 : sg_gl σ2 37 = sg_gl σ1 37 := funext fun x => sg_F_gal f rfl
      refine ⟨⟨by rw [sg_F_g f (by rfl)]; exact a1, by rw [sg_F_g f (by rfl), sg_F_g f (by rfl)]; exact c2, fun p z1 z2 => ?_, by rw [e37]; exact c4, ?_, rfR_F c6 f rfl rfl rfl rfl rfl, b1, by rw [sg_F_g f (by rfl)]; exact a8, b2, by rw [sg_F_g f (by rfl)]; exact a10⟩, lkR_F R1 f rfl, ⟨by rw [sg_F_g f (by rfl)]; exact g1, by rw [sg_F_g f (a := 0) (k := 12) (by rfl), sg_F_g f (a := 88) (k := 82) (by rfl), sg_F_g f1 (a := 0) (k := 12) (by rfl), sg_F_g f1 (a := 88) (k := 82) (by rfl)]; exact hC12⟩, ?_⟩
      · rw [sg_F_g f (by rfl)] at z2
        rw [sg_F_ga f rfl, c3 p z1 z2]
        unfold tb
        rw [sg_F_ga f rfl]
      · rw [sg_F_g f (by rfl)]
        rcases c5 with q | ⟨q1, q2⟩
        · exact Or.inl q
        · exact Or.inr ⟨q1, flR_F q2 f rfl⟩
      · rw [sg_F_g f (by rfl)]
        exact Y1.imp id (fun w => lyR_F w f rfl)
    have b76 := I1.2.2.2.2.2.2.2.2.1
    rcases hc with ⟨h28, rfl, h11⟩ | ⟨h28, h20, rfl, h11⟩ | ⟨h28, h20, h11, A, D, k, hX, hk, hr, rfl⟩
    · refine wk_post (w_nested z σ1 (fun q' σ2 => q' = -4 ∧ lwZ σ2) (x_nested (A := aE0) (D := []) (T := fun _ => 0) (B := fun _ => 0) (r := 0) (fun _ σ2 e2 => ⟨rfl, ?_⟩) (fun q => absurd (e28.trans h28) q) (fun q => absurd (e28.trans h28) q) (by rw [e52]; exact h52) (fun q => absurd (e28.trans h28) q))) (by rintro v σ' ⟨q, e, r, -, w⟩; exact ⟨q, e, r, w⟩)
      have f2 : sg_F [1088] σ1 σ2 := by rw [e2]; exact sg_F_w (sg_F_r _ _) rfl _
      exact fin σ2 (sg_F_m f2 rfl) (by rw [h11, hC, ← e52, sg_F_g f2 (by rfl)]) (by rw [sg_F_g f2 (by rfl), e52]; exact h52) (by rw [sg_F_g f2 (by rfl)]; exact b76)
    · obtain ⟨A, D, k, y1, y2, y3, y4, y5, y6⟩ := Y1.resolve_left (fun q => h28 (e28.symm.trans q))
      refine wk_post (w_nested z σ1 (fun q' σ2 => q' = -3 ∧ lwZ σ2) (x_nested (A := A) (D := D) (T := sg_g σ1 101) (B := sg_g σ1 102) (r := k) (fun q => absurd (e28.symm.trans q) h28) (fun _ _ σ2 e2 => ⟨rfl, ?_⟩) (fun _ => ⟨y2, y3, y4⟩) (by rw [e52]; exact h52) (fun _ q => absurd (e52.trans h20) q))) (by rintro v σ' ⟨q, e, r, -, w⟩; exact ⟨q, e, r, w⟩)
      have f2 : sg_F [1088] σ1 σ2 := by rw [e2]; exact sg_F_w (sg_F_r _ _) rfl _
      exact fin σ2 (sg_F_m f2 rfl) (by rw [h11, hC, ← e52, sg_F_g f2 (by rfl)]) (by rw [sg_F_g f2 (by rfl), e52]; exact h52) (by rw [sg_F_g f2 (by rfl)]; exact b76)
    · have hX1 : pgX σ1 A D (sg_g σ 101) (sg_g σ 102) := pgX_F f1 rfl hX
      refine wk_post (w_nested z σ1 (fun q' σ2 => q' = ansF (evN A (sg_g σ 101) (sg_g σ 102) (eC A D (sg_g σ 101) (sg_g σ 102) D.length) 201 k (fun _ => nmF 0) 0) ∧ lwZ σ2) (x_nested (A := A) (D := D) (T := sg_g σ 101) (B := sg_g σ 102) (r := k) (fun q => absurd (e28.symm.trans q) h28) (fun _ q => absurd (e52.symm.trans q) h20) (fun _ => ⟨hX1, e27.trans hk, hr⟩) (by rw [e52]; exact h52) (fun _ _ => ?_))) (by rintro v σ' ⟨q, e, r, -, w⟩; exact ⟨q, e, r, w⟩)
      have hJ : ∀ v w' s' ρ', evN A (sg_g σ 101) (sg_g σ 102) (eC A D (sg_g σ 101) (sg_g σ 102) D.length) 201 k (fun _ => nmF 0) 0 = .inr (v, w', s', ρ') → cnvF (sg_g σ 101 k).toNat v ≤ 3000 := fun v w' s' ρ' e => ev_J hX.2.2.2.2.1 (fun j x hx => (hX.2.1.2.2 j x hx).2.2.2.2.1) hX.2.2.2.2.2 hr e
      have kin := hr.2.2.1
      have kr := hr.2.1
      have hA := hX.2.2.2.2.1
      have s50 : ∀ σ37 σ50 σ54, sg_F nsL σ1 σ37 → σ50 = sg_w σ37 88 53 (sg_g σ37 88 73) → sg_F shL σ50 σ54 → sg_g σ37 88 52 = sg_g σ1 88 52 + 1 → (0 ≤ sg_g σ54 88 76 ∧ sg_g σ54 88 76 ≤ 80000) → lwZ σ54 := fun σ37 σ50 σ54 f37 e50 f54 g52 b => by
        have f50 : sg_F [54088] σ37 σ50 := by rw [e50]; exact sg_F_w (sg_F_r _ _) rfl _
        have F : sg_F [122, 123, 124, 125, 126, 127, 128, 129, 130, 131, 132, 133, 134, 135, 136, 137, 138, 1088, 52088, 53088, 54088, 55088, 56088, 57088, 61088, 63088, 71088, 74088, 77088, 79088] σ1 σ54 := sg_F_t (sg_F_m f37 rfl) (sg_F_t (sg_F_m f50 rfl) (sg_F_m f54 rfl))
        have e : sg_g σ54 88 52 = sg_g σ 88 52 + 1 := by rw [sg_F_g f54 (by rfl), sg_F_g f50 (by rfl), g52, e52]
        exact fin σ54 F (by rw [h11, hC, e]) (by rw [e]; omega) b
      generalize evN A (sg_g σ 101) (sg_g σ 102) (eC A D (sg_g σ 101) (sg_g σ 102) D.length) 201 k (fun _ => nmF 0) 0 = r at hJ
      match r, hJ with
      | .inl (e, w'), hJ =>
        intro σ37 σ50 f37 g73 g0 _ g52 _ e50
        refine m_showZ (by rw [e50, sg_gw_e _ _ _ _ (sg_Rg _ _ _), g73]; exact g0) (fun σ54 b f54 _ => ⟨g73, s50 σ37 σ50 σ54 f37 e50 f54 g52 b⟩)
      | .inr (v, w', s', ρ'), hJ =>
        intro σ37 σ50 f37 g73 _ _ g52 _ g56 gv e50
        have f50 : sg_F [54088] σ37 σ50 := by rw [e50]; exact sg_F_w (sg_F_r _ _) rfl _
        have g27 : sg_g σ50 88 27 = k := by rw [sg_F_g f50 (by rfl), sg_F_g f37 (by rfl), e27]; exact hk
        refine m_showV (K := (sg_g σ 101 k).toNat) (by rw [e50, sg_gw_e _ _ _ _ (sg_Rg _ _ _), g73]) (by rw [g27]; omega) ?_ (by have := kin.2; omega) (by rw [sg_F_g f50 (a := 88) (k := 56) (by rfl), sg_F_g f50 (a := 88) (k := 60) (by rfl)]; exact g56) ?_ (fun σ54 b f54 _ => ⟨g73, s50 σ37 σ50 σ54 f37 e50 f54 g52 b⟩)
        · rw [g27, sg_F_ga f50 rfl, sg_F_ga f37 rfl, e101]
          have := kin.1
          omega
        · rw [sg_F_ga f50 rfl]
          exact rv_U (rvF_F gv f50 rfl) (hJ v w' s' ρ' rfl)
  -- the class's run
  have rD : sg_R (sg_g σ 0 11) := sg_Rg _ _ _
  refine wk_post (w_cNested z σ (fun q σ1 => sg_F [45, 46, 47, 48, 49, 50, 51, 52, 53, 54, 55, 56, 57, 58, 59, 60, 12000] σ σ1 → wx z 6 292 0 [(0, .inr (.inr (.ref 88)))] [] σ1 (lwA (fun q' σ2 => q' = q ∧ lwZ σ2))) ?_) (by rintro v σ' ⟨q, e, r, f9, w⟩; exact ⟨q, e, r, w f9⟩)
  unfold V_cNested
  have e10 := hR.1
  refine ⟨fun h10 => ⟨fun h11 => ⟨⟨by have := rD.1; omega, by omega⟩, fun σ4 e4 => ?_⟩, fun h11 f1 => ?_⟩, fun h10 f1 => ?_⟩
  · have h28 : ¬ sg_g σ 88 28 = 0 := by rw [← e10]; exact h10
    obtain ⟨A, D, k, a1, a2, a3, a4, ⟨B0, a5⟩, a6⟩ := hY.resolve_left h28
    have f4 : sg_F [12000] σ σ4 := by rw [e4]; exact sg_F_w (sg_F_r _ _) rfl _
    have c4 := clR_F a1 f4 rfl
    have kr := a4.2.1
    have hA := a2.2.2.2.2.1
    have e35 : sg_g σ 35 4 = k := a1.2.2.2.2.2.2.2.2.2
    have e6 : sx_at σ 6 200 (sg_g σ 35 4) = sg_g σ4 6 k := by rw [e35, xa_in ⟨kr.1, by omega⟩, sg_F_ga f4 rfl]
    rw [e6]
    obtain ⟨L, x1, x2, x3, x4⟩ := a1.2.2.1
    have eT : evN A (sg_g σ4 6) (sg_g σ 102) (eC A D (sg_g σ4 6) (sg_g σ 102) D.length) 201 k = evN A (sg_g σ 101) (sg_g σ 102) (eC A D (sg_g σ 101) (sg_g σ 102) D.length) 201 k := ev_T x1 (fun x hx => by rw [sg_F_ga f4 rfl]; exact a6 x (x3 x hx).1 (x3 x hx).2)
    unfold V_nRun
    intro z'
    refine wk_post (w_mnRun z' σ4 (sg_g σ4 6 k) (fun q σ8 => q = ansF (evN A (sg_g σ 101) (sg_g σ 102) (eC A D (sg_g σ 101) (sg_g σ 102) D.length) 201 k (fun _ => nmF 0) 0)) (sg_Rg _ _ _) (cN8 (B := sg_g σ 102) c4 a5 (fun σ' => by rw [eT]))) ?_
    rintro v σ8 ⟨q, rfl, rq, f8, hq⟩
    refine ⟨q, rfl, rq, sg_F_m f8 rfl, fun _ f9 f1 => ?_⟩
    rw [hq]
    refine ref σ8 _ f1 (Or.inr (Or.inr ⟨h28, by omega, ?_, A, D, k, a2, a3, a4, rfl⟩))
    rw [sg_F_g f9 (by rfl), e4, sg_gw_e _ _ _ _ ⟨by have := rD.1; omega, by omega⟩]
  · have h28 : ¬ sg_g σ 88 28 = 0 := by rw [← e10]; exact h10
    exact ref σ (-3) f1 (Or.inr (Or.inl ⟨h28, by omega, rfl, rfl⟩))
  · have h28 : sg_g σ 88 28 = 0 := by rw [← e10]; exact h10
    exact ref σ (-4) f1 (Or.inl ⟨h28, rfl, rfl⟩)
