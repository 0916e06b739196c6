/-! read of the reference accepts just what is read and looked through without a fault. -/
theorem q_read {σ : sg_S} {c : tkC} {Q : Int → sg_S → Prop} (hb : bY c σ) (hr : rsv c.2.2.1) (k1 : ∀ t N q σ', tkB c t N → wT t → ¬ accP t N → sg_g σ' 88 28 = 0 → sg_g σ' 88 2 = sg_g σ 88 2 → Q q σ') (k2 : ∀ t N A D r q σ', tkB c t N → wT t → accP t N → aPg t N aE0 = some (A, D, r) → trT σ' A → dfR σ' D → sg_g σ' 88 27 = r → (∃ T B, kPg A D r T = some (sg_g σ' 101) ∧ sg_g σ' 102 = kPB A D r B) → sg_g σ' 88 28 = 1 → sg_g σ' 88 2 = 0 → Q q σ') : V_readW σ Q := by
  unfold V_readW
  intro σ1 e1 σ4 e4 σ7 e7 σ10 e10 σ13 e13 σ16 e16 σ19 e19 σ22 e22
  have F22 : sg_F [1088, 8088, 9088, 20088, 29088, 30088, 52088, 82088] σ σ22 := by
    rw [e22, e19, e16, e13, e10, e7, e4, e1]
    exact sg_F_w (sg_F_w (sg_F_w (sg_F_w (sg_F_w (sg_F_w (sg_F_w (sg_F_w (sg_F_r _ _) rfl _) rfl _) rfl _) rfl _) rfl _) rfl _) rfl _) rfl _
  have b22 : bY c σ22 := ⟨hb.1, by rw [sg_F_g F22 (by rfl)]; exact hb.2.1, fun p a b => by rw [sg_F_ga F22 rfl]; exact hb.2.2 p a b⟩
  have g28 : sg_g σ22 88 28 = 0 := by
    rw [e22, sg_gw_k _ _ _ _ _ _ (by decide), e19, sg_gw_k _ _ _ _ _ _ (by decide), e16, sg_gw_k _ _ _ _ _ _ (by decide), e13, sg_gw_k _ _ _ _ _ _ (by decide), e10, sg_gw_k _ _ _ _ _ _ (by decide), e7, sg_gw_k _ _ _ _ _ _ (by decide), e4, sg_gw_e _ _ _ _ (by decide)]
  have g29 : sg_g σ22 88 29 = 0 := by
    rw [e22, sg_gw_k _ _ _ _ _ _ (by decide), e19, sg_gw_k _ _ _ _ _ _ (by decide), e16, sg_gw_k _ _ _ _ _ _ (by decide), e13, sg_gw_e _ _ _ _ (by decide)]
  have g8 : sg_g σ22 88 8 = 0 := by
    rw [e22, sg_gw_k _ _ _ _ _ _ (by decide), e19, sg_gw_k _ _ _ _ _ _ (by decide), e16, sg_gw_e _ _ _ _ (by decide)]
  have g19 : sg_g σ22 88 19 = 0 := by
    rw [e22, sg_gw_k _ _ _ _ _ _ (by decide), e19, sg_gw_e _ _ _ _ (by decide)]
  have g7 : sg_g σ22 88 7 = 0 := by rw [e22, sg_gw_e _ _ _ _ (by decide)]
  refine s_cut b22 (fun t0 N σ26 hR0 hT0 f26 => ?_)
  obtain ⟨hB, hV⟩ := tkU_B hb.1 hr hR0 hT0
  have hR := tkU_R hR0
  obtain ⟨t, ht⟩ : ∃ t, t = tkU t0 N := ⟨_, rfl⟩
  rw [← ht] at hB hV hR
  have hN0 := hB.2.2.2.2.1
  have R0 : Rq t N σ26 0 0 aE0 := by
    refine ⟨hR, by rw [sg_F_g f26 (by rfl)]; exact g29, by rw [sg_F_g f26 (by rfl)]; exact g7, Nat.zero_le _, ⟨by rw [sg_F_g f26 (by rfl)]; exact g8, Int.le_refl _, by decide, fun k a b => ?_⟩, fun k a b => ?_, sg_Rg _ _ _⟩
    · exact absurd b (by simp only [aE0]; omega)
    · exact absurd b (by simp only [aE0]; omega)
  have D0 : dfR σ26 [] := ⟨by rw [sg_F_g f26 (by rfl)]; exact g19, by decide, fun d x hx => by cases hx⟩
  have dn : p_told 6579558 := Or.inl rfl
  have dv : v_told 6579558 = 6606 := by decide
  generalize hz : aDfs t N 12 [] 0 aE0 = z
  refine ⟨fun k σ31 => (∃ i A D m, k = m + 1 ∧ D.length + m = 12 ∧ Rq t N σ31 0 i A ∧ dfR σ31 D ∧ aDfs t N m D i A = z) ∨ (¬ sg_g σ31 88 29 = 0 ∧ z = none), fun σ31 => (∃ i A D, Rq t N σ31 0 i A ∧ dfR σ31 D ∧ z = some (i, A, D)) ∨ (¬ sg_g σ31 88 29 = 0 ∧ z = none), ⟨13, Or.inl ⟨0, aE0, [], 12, rfl, rfl, R0, D0, hz⟩⟩, ?_, ?_⟩
  · rintro k σ31 fr hI
    refine ⟨fun d => ?_, fun d => ?_⟩
    · rcases hI with ⟨i, A, D, m, -, -, h1, -⟩ | h
      · exact absurd h1.2.1 d
      · exact Or.inr h
    · rcases hI with ⟨i, A, D, m, em, hm, h1, h2, h3⟩ | ⟨h, -⟩
      rotate_left
      · exact absurd d h
      have vw := vq_wo h1 6579558 6606 dv
      refine ⟨pq_wo h1 dn, fun y => ?_, fun y => ?_⟩
      · have wo : ¬ aWo t i 6606 = true := fun w => by rw [vw, if_pos w] at y; cases y
        left
        refine ⟨i, A, D, h1, h2, ?_⟩
        rw [← h3]
        cases m with
        | zero => unfold aDfs; rw [if_neg wo]
        | succ m => unfold aDfs; rw [if_neg wo]
      · have wo : aWo t i 6606 = true := by
          refine Decidable.byContradiction (fun w => y ?_)
          rw [vw, if_neg w]
        have hi : i < N := by
          have h4 := h1.2.2.2.1
          rcases Nat.lt_or_ge i N with q | q
          · exact q
          · have : i = N := by omega
            subst this
            have w2 := wo_2 wo
            rcases hN0 with w | w <;> (rw [w2] at w; cases w)
        refine s_def h1 h2 hi (fun i' A' x l12 hd hx σ' r' d' _ => ?_) (fun hno σ' f' _ _ => ⟨0, by omega, Or.inr ⟨f', ?_⟩⟩)
        · obtain ⟨m', rfl⟩ : ∃ m', m = m' + 1 := ⟨m - 1, by omega⟩
          refine ⟨m' + 1, by omega, Or.inl ⟨i', A', D ++ [x], m', rfl, by rw [List.length_append]; simp only [List.length_cons, List.length_nil]; omega, r', d', ?_⟩⟩
          rw [← h3]
          conv => rhs; unfold aDfs
          rw [if_pos wo, hd]
        · rw [← h3]
          cases m with
          | zero => unfold aDfs; rw [if_pos wo]
          | succ m =>
            unfold aDfs
            rw [if_pos wo]
            rcases hno with w | w
            · omega
            · rw [w]
  · intro σ31 fr31 h31
    have hpg : ∀ y, z = y → aPg t N aE0 = (match y with
      | none => none
      | some (i, A1, D) => match (aLv t 12).1 i A1 with
        | none => none
        | some (i2, A2, q) => if t.1 i2 = 0 then some (A2, D, q) else none) := fun y hy => by
      subst hy
      unfold aPg
      rw [hz]
      cases z with
      | none => rfl
      | some v =>
        obtain ⟨i, A1, D⟩ := v
        simp only
        cases (aLv t 12).1 i A1 with
        | none => rfl
        | some w => rfl
    refine ⟨fun σ47 => (∃ i A D q, Rq t N σ47 0 i A ∧ dfR σ47 D ∧ sg_g σ47 88 27 = q ∧ aPg t N aE0 = (if t.1 i = 0 then some (A, D, q) else none)) ∨ (¬ sg_g σ47 88 29 = 0 ∧ aPg t N aE0 = none), ⟨fun d => ?_, fun d => ?_⟩, ?_⟩
    · rcases h31 with ⟨i, A, D, h1, -⟩ | ⟨h, h2⟩
      · exact absurd h1.2.1 d
      · exact Or.inr ⟨h, hpg _ h2⟩
    · rcases h31 with ⟨i, A, D, h1, h2, h3⟩ | ⟨h, -⟩
      rotate_left
      · exact absurd d h
      refine s_whole (i := i) (A := A) h1 (fun i' A' q hq σ85 r85 hqr rq f85 σ90 e90 => ?_) (fun hq σ85 f85 _ rq f85' σ90 e90 => ?_)
      · left
        have f90 : sg_F [28088] σ85 σ90 := by rw [e90]; exact sg_F_w (sg_F_r _ _) rfl _
        have D85 : dfR σ85 D := by
          refine ⟨by rw [sg_F_g f85 (by rfl)]; exact h2.1, h2.2.1, fun j x hj => ?_⟩
          obtain ⟨a1, a2, a3, a4, a5, a6⟩ := h2.2.2 j x hj
          refine ⟨by rw [sg_F_gal f85 rfl]; exact a1, by rw [sg_F_ga f85 rfl]; exact a2, by rw [sg_F_ga f85 rfl]; exact a3, by rw [sg_F_ga f85 rfl]; exact a4, a5, fun i y hy => ?_⟩
          rw [sg_F_gal f85 rfl, sg_F_ga f85 rfl, sg_F_ga f85 rfl]; exact a6 i y hy
        have D90 : dfR σ90 D := by
          refine ⟨by rw [sg_F_g f90 (by rfl)]; exact D85.1, D85.2.1, fun j x hj => ?_⟩
          obtain ⟨a1, a2, a3, a4, a5, a6⟩ := D85.2.2 j x hj
          refine ⟨by rw [sg_F_gal f90 rfl]; exact a1, by rw [sg_F_ga f90 rfl]; exact a2, by rw [sg_F_ga f90 rfl]; exact a3, by rw [sg_F_ga f90 rfl]; exact a4, a5, fun i y hy => ?_⟩
          rw [sg_F_gal f90 rfl, sg_F_ga f90 rfl, sg_F_ga f90 rfl]; exact a6 i y hy
        refine ⟨i', A', D, q, ?_, D90, by rw [e90, sg_gw_e _ _ _ _ rq], ?_⟩
        · obtain ⟨r1, r2, r3, r4, r5, r6, r7⟩ := r85
          refine ⟨?_, by rw [sg_F_g f90 (by rfl)]; exact r2, by rw [sg_F_g f90 (by rfl)]; exact r3, r4, ?_, r6, sg_Rg _ _ _⟩
          · rw [show sg_g σ90 90 = sg_g σ85 90 from funext fun _ => sg_F_ga f90 rfl, show sg_g σ90 91 = sg_g σ85 91 from funext fun _ => sg_F_ga f90 rfl, show sg_gl σ90 92 = sg_gl σ85 92 from funext fun _ => sg_F_gal f90 rfl]
            exact r1
          · have tt : trT σ85 A' ∨ True := Or.inr trivial
            rw [sg_F_g f90 (by rfl), show sg_g σ90 93 = sg_g σ85 93 from funext fun _ => sg_F_ga f90 rfl, show sg_g σ90 94 = sg_g σ85 94 from funext fun _ => sg_F_ga f90 rfl, show sg_gl σ90 95 = sg_gl σ85 95 from funext fun _ => sg_F_gal f90 rfl, show sg_g σ90 96 = sg_g σ85 96 from funext fun _ => sg_F_ga f90 rfl, show sg_g σ90 97 = sg_g σ85 97 from funext fun _ => sg_F_ga f90 rfl, show sg_g σ90 98 = sg_g σ85 98 from funext fun _ => sg_F_ga f90 rfl, show sg_gl σ90 99 = sg_gl σ85 99 from funext fun _ => sg_F_gal f90 rfl, show sg_g σ90 100 = sg_g σ85 100 from funext fun _ => sg_F_ga f90 rfl]
            exact r5
        · rw [hpg _ h3]
          simp only
          rw [hq]
      · right
        refine ⟨by rw [e90, sg_gw_k _ _ _ _ _ _ (by decide)]; exact f85, ?_⟩
        rw [hpg _ h3]
        simp only
        rw [hq]
    · intro σ47 f47 h47
      refine ⟨fun σ53 => (sg_g σ53 88 29 = 0 ∧ ∃ i A D q, Rq t N σ53 0 i A ∧ dfR σ53 D ∧ sg_g σ53 88 27 = q ∧ aPg t N aE0 = some (A, D, q)) ∨ (¬ sg_g σ53 88 29 = 0 ∧ aPg t N aE0 = none), ⟨fun d => ?_, fun d => ?_⟩, ?_⟩
      · rcases h47 with ⟨i, A, D, q, h1, -⟩ | h
        · exact absurd h1.2.1 d
        · exact Or.inr h
      · rcases h47 with ⟨i, A, D, q, h1, h2, h3, h4⟩ | ⟨h, -⟩
        rotate_left
        · exact absurd d h
        obtain ⟨q1, q2, q3, q4, q5, q6, q7⟩ := Rq_t h1
        have e90 : sg_g σ26 90 (sg_g σ47 88 7) = t.1 i := by
          rw [h1.2.2.1]; exact (hR.2.1 i h1.2.2.2.1).1
        rw [e90]
        refine ⟨⟨q4, q5⟩, fun y => Or.inl ⟨d, i, A, D, q, h1, h2, h3, by rw [h4, if_pos y]⟩, fun y => q_wrong (by decide) (fun σ' w1 w2 _ => Or.inr ⟨w1, by rw [h4, if_neg y]⟩)⟩
      · intro σ53 f53 h53
        have base : ∀ σ59, sg_F [101, 102, 113, 114, 115, 116, 117, 118, 30088, 31088, 38088, 43088, 46088] σ53 σ59 → sg_g σ59 88 28 = 0 ∧ sg_g σ59 88 2 = sg_g σ 88 2 := fun σ59 f59 => by
          constructor
          · rw [sg_F_g f59 (by rfl), sg_F_g f53 (by rfl), sg_F_g f47 (by rfl), sg_F_g fr31 (by rfl), sg_F_g f26 (by rfl)]; exact g28
          · rw [sg_F_g f59 (by rfl), sg_F_g f53 (by rfl), sg_F_g f47 (by rfl), sg_F_g fr31 (by rfl), sg_F_g f26 (by rfl), sg_F_g F22 (by rfl)]
        refine ⟨fun σ59 => (sg_g σ59 88 29 = 0 ∧ ∃ A D q, trT σ59 A ∧ dfR σ59 D ∧ sg_g σ59 88 27 = q ∧ aPg t N aE0 = some (A, D, q) ∧ (∃ T B, kPg A D q T = some (sg_g σ59 101) ∧ sg_g σ59 102 = kPB A D q B) ∧ accP t N) ∨ (¬ sg_g σ59 88 29 = 0 ∧ ¬ accP t N), ⟨fun d => ?_, fun d => ?_⟩, ?_⟩
        · rcases h53 with ⟨h, -⟩ | ⟨h, h2⟩
          · exact absurd h d
          · refine Or.inr ⟨h, ?_⟩
            rintro ⟨A', D', k', z1, z2⟩
            rw [h2] at z1; cases z1
        · rcases h53 with ⟨-, i, A, D, q, h1, h2, h3, h4⟩ | ⟨h, -⟩
          rotate_left
          · exact absurd d h
          have hp := t_pg h4 ⟨Int.le_refl _, by decide⟩
          have hp2 := t_pg2 h4 ⟨Int.le_refl _, by decide⟩ rfl
          have tr : trT σ53 A := ⟨h1.2.2.2.2.1, frA_k hp2⟩
          refine q_look tr (fun L a b => ndl 200 L a (fun x hx => by have := b x hx; have := hp.2.2.2; omega)) h2 hp.1 hp.2.2.1 h3 d (fun σ' y1 y2 f' => Or.inr ⟨y2, ?_⟩) (fun σ' y1 yB y2 f' => Or.inl ⟨y2, A, D, q, trT_F tr f' rfl, ?_, by rw [sg_F_g f' (by rfl)]; exact h3, h4, ⟨_, _, y1, yB⟩, A, D, q, h4, fun y => ?_⟩)
          · rintro ⟨A', D', k', z1, z2⟩
            rw [h4] at z1
            cases z1
            exact z2 ((kPg_ag A D q _ _).mp y1)
          · refine ⟨by rw [sg_F_g f' (by rfl)]; exact h2.1, h2.2.1, fun j x hj => ?_⟩
            obtain ⟨a1, a2, a3, a4, a5, a6⟩ := h2.2.2 j x hj
            refine ⟨by rw [sg_F_gal f' rfl]; exact a1, by rw [sg_F_ga f' rfl]; exact a2, by rw [sg_F_ga f' rfl]; exact a3, by rw [sg_F_ga f' rfl]; exact a4, a5, fun i y hy => ?_⟩
            rw [sg_F_gal f' rfl, sg_F_ga f' rfl, sg_F_ga f' rfl]; exact a6 i y hy
          · have := (kPg_ag A D q _ (sg_g σ53 101)).mp y
            rw [this] at y1; cases y1
        · intro σ59 f59 h59
          obtain ⟨u1, u2⟩ := base σ59 f59
          refine ⟨fun d σ63 e63 σ66 e66 => ?_, fun d => ?_⟩
          · rcases h59 with ⟨-, A, D, q, w1, w2, w3, w4, w5, w6⟩ | ⟨h, -⟩
            rotate_left
            · exact absurd d h
            have f66 : sg_F [29088, 3088] σ59 σ66 := by rw [e66, e63]; exact sg_F_w (sg_F_w (sg_F_r _ _) rfl _) rfl _
            refine k2 t N A D q _ σ66 hB hV w6 w4 (trT_F w1 f66 rfl) ?_ (by rw [sg_F_g f66 (by rfl)]; exact w3) ?_ ?_ ?_
            · refine ⟨by rw [sg_F_g f66 (by rfl)]; exact w2.1, w2.2.1, fun j x hj => ?_⟩
              obtain ⟨a1, a2, a3, a4, a5, a6⟩ := w2.2.2 j x hj
              refine ⟨by rw [sg_F_gal f66 rfl]; exact a1, by rw [sg_F_ga f66 rfl]; exact a2, by rw [sg_F_ga f66 rfl]; exact a3, by rw [sg_F_ga f66 rfl]; exact a4, a5, fun i y hy => ?_⟩
              rw [sg_F_gal f66 rfl, sg_F_ga f66 rfl, sg_F_ga f66 rfl]; exact a6 i y hy
            · rw [show sg_g σ66 101 = sg_g σ59 101 from funext fun _ => sg_F_ga f66 rfl, show sg_g σ66 102 = sg_g σ59 102 from funext fun _ => sg_F_ga f66 rfl]; exact w5
            · rw [e66, sg_gw_k _ _ _ _ _ _ (by decide), e63, sg_gw_e _ _ _ _ (by decide)]
            · rw [e66, sg_gw_e _ _ _ _ (by decide)]
          · rcases h59 with ⟨h, -⟩ | ⟨-, h⟩
            · exact absurd h d
            · exact k1 t N _ σ59 hB hV h u1 u2
