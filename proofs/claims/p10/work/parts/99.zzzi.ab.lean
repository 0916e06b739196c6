/-! flat() of the reference, with what it shows. -/
theorem m_showEX {σ : sg_S} {Q : sg_S → Prop} (he : ¬ sg_g σ 88 83 = 0) (k : ∀ σ', (0 ≤ sg_g σ' 88 77 ∧ sg_g σ' 88 77 ≤ 80000) → sg_F [78088, 79088] σ σ' → (∀ i, sg_g σ' 136 i = sg_g σ 136 i) → Q σ') : V_showFlat σ Q := by
  unfold V_showFlat
  intro σ1 e1
  have F : ∀ σ6, σ6 = sg_w σ1 88 77 0 → sg_F [78088, 79088] σ σ6 := fun σ6 e6 => by rw [e6, e1]; exact sg_F_w (sg_F_w (sg_F_r _ _) rfl _) rfl _
  refine ⟨fun _ => ⟨fun _ σ6 e6 => k σ6 ?_ (F σ6 e6) (fun i => sg_F_ga (F σ6 e6) rfl), fun z => absurd z he⟩, fun z => absurd z he⟩
  rw [e6, sg_gw_e _ _ _ _ ⟨by decide, by decide⟩]; decide
theorem m_showZX {σ : sg_S} {Q : sg_S → Prop} (he : ¬ sg_g σ 88 53 = 0) (k : ∀ σ', (0 ≤ sg_g σ' 88 76 ∧ sg_g σ' 88 76 ≤ 80000) → sg_F [77088, 79088] σ σ' → (∀ i, sg_g σ' 136 i = sg_g σ 136 i) → Q σ') : V_showNested σ Q := by
  unfold V_showNested
  intro σ1 e1
  have F : ∀ σ6, σ6 = sg_w σ1 88 76 0 → sg_F [77088, 79088] σ σ6 := fun σ6 e6 => by rw [e6, e1]; exact sg_F_w (sg_F_w (sg_F_r _ _) rfl _) rfl _
  refine ⟨fun _ => ⟨fun _ σ6 e6 => k σ6 ?_ (F σ6 e6) (fun i => sg_F_ga (F σ6 e6) rfl), fun z => absurd z he⟩, fun z => absurd z he⟩
  rw [e6, sg_gw_e _ _ _ _ (by decide)]; decide
section BOX
variable {A : aT} {D : List aDf} {T B c : Int → Int} {O : Int → Nat → List Int} {r : Int}
theorem xq_flatX {σ : sg_S} {Q : Int → sg_S → Prop} (hX : pgX σ A D T B) (hr : sg_g σ 88 27 = r) (hty : tyN A (kDl D []) T B 201 [] r) (hfr : frA A (aRt D ++ [r])) (hO : okO A B O) (hG : gaH A B c O) (hcb : ∀ y, sg_g σ 116 y = c y) (h28 : ¬ sg_g σ 88 28 = 0) (h82 : 0 ≤ sg_g σ 88 82 ∧ sg_g σ 88 82 < 20) (k : ∀ σ', sg_F [119, 120, 121, 126, 127, 128, 133, 134, 135, 136, 137, 138, 139, 140, 141, 142, 143, 144, 145, 146, 147, 148, 149, 150, 151, 1088, 47088, 50088, 63088, 71088, 74088, 78088, 79088, 82088, 83088, 84088, 85088, 86088, 87088, 88088, 92088, 94088, 100088, 103088, 104088] σ σ' → sg_g σ' 88 82 = sg_g σ 88 82 + 1 → (0 ≤ sg_g σ' 88 77 ∧ sg_g σ' 88 77 ≤ 80000) → sg_g σ' 88 83 = fRe (fxA A D T B O r) → fcX σ' (fRt (fxA A D T B O r)) → (∀ i, i < 80000 → sg_g σ' 136 i = sg_g σ 136 i) → (∀ v s' ρ', fxA A D T B O r = .inr (v, s', ρ') → ∃ w0, v = [w0] ∧ (txF (T r).toNat w0).length ≤ 79000 ∧ (imF (T r).toNat w0).length ≤ 6000 ∧ rShw 77 80000 σ' (T r).toNat w0) → sg_g σ' 88 81 = 1 → Q (fRe (fxA A D T B O r)) σ') : V_flat σ Q := by
  unfold V_flat
  intro σ1 e1
  have f1 : sg_F [1088] σ σ1 := by rw [e1]; exact sg_F_w (sg_F_r _ _) rfl _
  refine ⟨fun c28 => ⟨fun c82 => ?_, fun z => by omega⟩, fun z => absurd z h28⟩
  obtain ⟨lev, hlv⟩ := lvP_ex hfr
  obtain ⟨hP, hD, eT, eB, hA, hdt⟩ := id hX
  obtain ⟨L0, g1, g2, g3⟩ := hlv.2
  have hst : stN A D T B lev D.length 201 L0 [] r := ⟨by rw [List.take_of_length_le (Nat.le_refl _)]; exact hty, g1, g2, fun y hy => ⟨(g3 y hy).1, by have := (g3 y hy).2; omega⟩, fun p hp => (by cases hp)⟩
  obtain ⟨w1, w2, w3, -⟩ := stN_w hst
  refine ⟨⟨by omega, by omega⟩, fun σ7 e7 σ10 e10 σ13 e13 σ16 e16 σ19 e19 σ22 e22 σ25 e25 σ28 e28 σ31 e31 σ34 e34 σ37 e37 => ?_⟩
  have F37 : sg_F [1088, 63088, 71088, 74088, 82088, 83088, 85088, 86088, 87088, 88088, 92088, 100088] σ σ37 := by
    rw [e37, e34, e31, e28, e25, e22, e19, e16, e13, e10, e7]
    exact sg_F_w (sg_F_w (sg_F_w (sg_F_w (sg_F_w (sg_F_w (sg_F_w (sg_F_w (sg_F_w (sg_F_w (sg_F_w (sg_F_m f1 rfl) rfl _) rfl _) rfl _) rfl _) rfl _) rfl _) rfl _) rfl _) rfl _) rfl _) rfl _
  have z : sg_R 0 := ⟨by decide, by decide⟩
  have c73 : sg_g σ37 88 73 = 0 := by rw [e37, sg_gw_e _ _ _ _ z]
  have c99 : sg_g σ37 88 99 = 0 := by rw [e37, sg_gw_k _ _ _ _ _ _ (by decide), e34, sg_gw_e _ _ _ _ z]
  have c70 : sg_g σ37 88 70 = 0 := by rw [e37, sg_gw_k _ _ _ _ _ _ (by decide), e34, sg_gw_k _ _ _ _ _ _ (by decide), e31, sg_gw_e _ _ _ _ z]
  have c62 : sg_g σ37 88 62 = 0 := by rw [e37, sg_gw_k _ _ _ _ _ _ (by decide), e34, sg_gw_k _ _ _ _ _ _ (by decide), e31, sg_gw_k _ _ _ _ _ _ (by decide), e28, sg_gw_e _ _ _ _ z]
  have c91 : sg_g σ37 88 91 = 0 := by rw [e37, sg_gw_k _ _ _ _ _ _ (by decide), e34, sg_gw_k _ _ _ _ _ _ (by decide), e31, sg_gw_k _ _ _ _ _ _ (by decide), e28, sg_gw_k _ _ _ _ _ _ (by decide), e25, sg_gw_e _ _ _ _ z]
  have c87 : sg_g σ37 88 87 = 0 := by rw [e37, sg_gw_k _ _ _ _ _ _ (by decide), e34, sg_gw_k _ _ _ _ _ _ (by decide), e31, sg_gw_k _ _ _ _ _ _ (by decide), e28, sg_gw_k _ _ _ _ _ _ (by decide), e25, sg_gw_k _ _ _ _ _ _ (by decide), e22, sg_gw_e _ _ _ _ z]
  have c86 : sg_g σ37 88 86 = 0 := by rw [e37, sg_gw_k _ _ _ _ _ _ (by decide), e34, sg_gw_k _ _ _ _ _ _ (by decide), e31, sg_gw_k _ _ _ _ _ _ (by decide), e28, sg_gw_k _ _ _ _ _ _ (by decide), e25, sg_gw_k _ _ _ _ _ _ (by decide), e22, sg_gw_k _ _ _ _ _ _ (by decide), e19, sg_gw_e _ _ _ _ z]
  have c85 : sg_g σ37 88 85 = 0 := by rw [e37, sg_gw_k _ _ _ _ _ _ (by decide), e34, sg_gw_k _ _ _ _ _ _ (by decide), e31, sg_gw_k _ _ _ _ _ _ (by decide), e28, sg_gw_k _ _ _ _ _ _ (by decide), e25, sg_gw_k _ _ _ _ _ _ (by decide), e22, sg_gw_k _ _ _ _ _ _ (by decide), e19, sg_gw_k _ _ _ _ _ _ (by decide), e16, sg_gw_e _ _ _ _ z]
  have c84 : sg_g σ37 88 84 = 0 := by rw [e37, sg_gw_k _ _ _ _ _ _ (by decide), e34, sg_gw_k _ _ _ _ _ _ (by decide), e31, sg_gw_k _ _ _ _ _ _ (by decide), e28, sg_gw_k _ _ _ _ _ _ (by decide), e25, sg_gw_k _ _ _ _ _ _ (by decide), e22, sg_gw_k _ _ _ _ _ _ (by decide), e19, sg_gw_k _ _ _ _ _ _ (by decide), e16, sg_gw_k _ _ _ _ _ _ (by decide), e13, sg_gw_e _ _ _ _ z]
  have c82' : sg_g σ37 88 82 = sg_g σ 88 82 + 1 := by rw [e37, sg_gw_k _ _ _ _ _ _ (by decide), e34, sg_gw_k _ _ _ _ _ _ (by decide), e31, sg_gw_k _ _ _ _ _ _ (by decide), e28, sg_gw_k _ _ _ _ _ _ (by decide), e25, sg_gw_k _ _ _ _ _ _ (by decide), e22, sg_gw_k _ _ _ _ _ _ (by decide), e19, sg_gw_k _ _ _ _ _ _ (by decide), e16, sg_gw_k _ _ _ _ _ _ (by decide), e13, sg_gw_k _ _ _ _ _ _ (by decide), e10, sg_gw_k _ _ _ _ _ _ (by decide), e7, sg_gw_e _ _ _ _ ⟨by omega, by omega⟩]
  have c81' : sg_g σ37 88 81 = 1 := by rw [e37, sg_gw_k _ _ _ _ _ _ (by decide), e34, sg_gw_k _ _ _ _ _ _ (by decide), e31, sg_gw_k _ _ _ _ _ _ (by decide), e28, sg_gw_k _ _ _ _ _ _ (by decide), e25, sg_gw_k _ _ _ _ _ _ (by decide), e22, sg_gw_k _ _ _ _ _ _ (by decide), e19, sg_gw_k _ _ _ _ _ _ (by decide), e16, sg_gw_k _ _ _ _ _ _ (by decide), e13, sg_gw_k _ _ _ _ _ _ (by decide), e10, sg_gw_e _ _ _ _ (by decide)]
  have N37 : fNw σ37 := ⟨⟨⟨by omega, by omega⟩, ⟨by omega, by omega⟩, ⟨by omega, by omega⟩, ⟨by omega, by omega, by omega⟩, by omega, by omega⟩, fun i a b => by omega, by omega, by omega, by omega⟩
  have hX37 : pgX σ37 A D T B := pgX_F F37 rfl hX
  have S37 : fSw σ37 σ37 0 0 0 (0, 0, 0) := ⟨sg_F_r _ _, c73, ⟨c62, c70, c99⟩, ⟨c84, c85, c86, ⟨by decide, by decide⟩, by decide, by decide⟩, N37⟩
  have hcb37 : ∀ y, sg_g σ37 116 y = c y := fun y => by rw [sg_F_ga F37 rfl]; exact hcb y
  obtain ⟨X, hXd⟩ : ∃ X : sg_S → Prop, X = fun σ' => sg_F flL σ37 σ' ∧ sg_g σ' 88 73 = fRe (fxA A D T B O r) ∧ fcX σ' (fRt (fxA A D T B O r)) ∧ ((sg_g σ' 88 73 = 0 ∧ ∃ w0 R s' ρ', fxA A D T B O r = .inr ([w0], s', ρ') ∧ (sg_g σ' 88 91 ≤ 60000 ∧ sg_g σ' 88 87 ≤ 30000) ∧ fX σ' 6000 (sg_g σ' 133 0) (T r).toNat [w0] R ∧ exF (T r).toNat [w0] ≤ 6000) ∨ (¬ sg_g σ' 88 73 = 0 ∧ ∃ e, fxA A D T B O r = .inl e)) := ⟨_, rfl⟩
  have hC := cFr_all (X := X) hX37 hlv hO hG hcb37 D.length
  have hc := fxC_ok hX37 hlv hO D.length
  have hcx := cXk_all hX37 hlv hO D.length
  rw [hr]
  refine gfN_all (X := X) hX37 hlv hO hG hcb37 hC hc 201 r L0 [] hst σ37 4000 1 (fun _ => []) 0 0 0 (0, 0, 0) S37 (by decide) (fun p hp => (by cases hp)) (by decide) ?_ _ (fun σ41 R41 f41 => ?_)
  · have pk := fx_ok hX37 hlv hO hc 201 r L0 [] hst 1 (fun _ => []) (0, 0, 0)
    have pe := fe_ok hX37 hlv hO hc hcx 201 r L0 [] hst 1 (fun _ => []) (0, 0, 0)
    have hXd' := hXd
    unfold fxA at hXd'
    generalize fxN A D T B O (fxC A D T B O D.length) 201 r 1 (fun _ => []) (0, 0, 0) = res at hXd' pk pe
    match res, hXd', pk, pe with
    | .inl (e, s'), hXd', _, _ =>
      intro σ' y1 y2 y3 y4
      rw [hXd']
      exact ⟨y1, y2, y4, Or.inr ⟨fun w => y3 (y2.symm.trans w), _, rfl⟩⟩
    | .inr (v, s', ρ'), hXd', pk, pe =>
      intro σ' m' S' K' hv hm'
      obtain ⟨a1, a2, ⟨a3, a4, a5⟩, c', ⟨⟨i1, i2, i3, i4, i5⟩, -⟩⟩ := S'
      refine rf_e (by omega) ?_
      rw [hXd']
      obtain ⟨R, hR⟩ := hv
      obtain ⟨pl, -⟩ := pk v s' ρ' (fun p hp => (by cases hp)) rfl
      obtain ⟨px, -⟩ := pe v s' ρ' 0 (fun p hp => (by cases hp)) (by decide) rfl
      have c5 := c'.2.2.2.2.2
      obtain ⟨w0, rfl⟩ : ∃ w0, v = [w0] := by
        match v, pl with
        | [w0], _ => exact ⟨w0, rfl⟩
      refine ⟨a1, a2, c', Or.inl ⟨a2, w0, R, s', ρ', rfl, ⟨by omega, by omega⟩, hR, by omega⟩⟩
  · refine ⟨fun n σ46 => Rf X n σ46, X, ⟨4000, R41⟩, fun n σ46 f46 R46 => ?_, fun σ46 f46 hX46 σ59 e59 => ?_⟩
    · cases n with
      | zero => exact ⟨fun z => R46.1 z, fun z => ⟨fun w => R46.2.1 w, fun w => (R46.2.2 z w).elim⟩⟩
      | succ n => exact ⟨fun z => R46.1 z, fun z => ⟨fun w => R46.2.1 w, fun w => R46.2.2 z w _ (fun σ' hr' => ⟨n, Nat.lt_succ_self n, hr'⟩)⟩⟩
    · rw [hXd] at hX46
      obtain ⟨x1, x2, x3, x4⟩ := hX46
      have F46 : sg_F [119, 120, 121, 126, 127, 128, 133, 134, 135, 139, 140, 141, 142, 143, 144, 145, 146, 147, 148, 149, 150, 1088, 47088, 50088, 63088, 71088, 74088, 82088, 83088, 85088, 86088, 87088, 88088, 92088, 94088, 100088, 103088, 104088] σ σ46 := sg_F_t (sg_F_m F37 rfl) (sg_F_m x1 rfl)
      have f59 : sg_F [84088] σ46 σ59 := by rw [e59]; exact sg_F_w (sg_F_r _ _) rfl _
      have F59 : sg_F [119, 120, 121, 126, 127, 128, 133, 134, 135, 139, 140, 141, 142, 143, 144, 145, 146, 147, 148, 149, 150, 1088, 47088, 50088, 63088, 71088, 74088, 82088, 83088, 84088, 85088, 86088, 87088, 88088, 92088, 94088, 100088, 103088, 104088] σ σ59 := sg_F_t (sg_F_m F46 rfl) (sg_F_m f59 rfl)
      have c83 : sg_g σ59 88 83 = sg_g σ46 88 73 := by rw [e59, sg_gw_e _ _ _ _ (sg_Rg _ _ _)]
      have b82 : sg_g σ59 88 82 = sg_g σ 88 82 + 1 := by rw [sg_F_g f59 (by rfl), sg_F_g x1 (by rfl)]; exact c82'
      have c81 : sg_g σ59 88 81 = 1 := by rw [sg_F_g f59 (by rfl), sg_F_g x1 (by rfl)]; exact c81'
      have r136 : ∀ i, sg_g σ59 136 i = sg_g σ 136 i := fun i => by rw [sg_F_ga (a := 136) f59 rfl, sg_F_ga (a := 136) x1 rfl, sg_F_ga (a := 136) F37 rfl]
      have fin : ∀ σ63, (0 ≤ sg_g σ63 88 77 ∧ sg_g σ63 88 77 ≤ 80000) → sg_F [136, 137, 138, 151, 78088, 79088] σ59 σ63 → (∀ i, i < 80000 → sg_g σ63 136 i = sg_g σ59 136 i) → (∀ v s' ρ', fxA A D T B O r = .inr (v, s', ρ') → ∃ w0, v = [w0] ∧ (txF (T r).toNat w0).length ≤ 79000 ∧ (imF (T r).toNat w0).length ≤ 6000 ∧ rShw 77 80000 σ63 (T r).toNat w0) → Q (sg_g σ46 88 73) σ63 := fun σ63 h f g1 g2 => by
        rw [x2]
        exact k σ63 (sg_F_t (sg_F_m F59 rfl) (sg_F_m f rfl)) (by rw [sg_F_g f (by rfl)]; exact b82) h (by rw [sg_F_g f (by rfl), c83]; exact x2) (fcX_F f rfl (fcX_F f59 rfl x3)) (fun i hi => by rw [g1 i hi, r136]) g2 (by rw [sg_F_g f (by rfl)]; exact c81)
      rcases x4 with ⟨h0, w0, R, s', ρ', ef, ⟨q1, q2⟩, hR, hE⟩ | ⟨h0, e, ef⟩
      · have e27 : sg_g σ59 88 27 = r := by rw [sg_F_g F59 (by rfl)]; exact hr
        have g91 : sg_g σ59 88 91 = sg_g σ46 88 91 := sg_F_g f59 (by rfl)
        have g87 : sg_g σ59 88 87 = sg_g σ46 88 87 := sg_F_g f59 (by rfl)
        have w31 := w3.1
        have w32 := w3.2
        have il := imF_e (T r).toNat w0
        have tl := tx_b (T r).toNat w0
        have e133 : sg_g σ59 133 0 = sg_g σ46 133 0 := sg_F_ga (a := 133) f59 rfl
        refine m_showFX (K := (T r).toNat) (w0 := w0) (R := R) (by rw [c83]; exact h0) (by rw [e27]; omega) ?_ (by omega) ⟨by omega, by omega⟩ ?_ (by omega) (fun σ63 s1 s2 s3 s4 _ => fin σ63 (by rw [s1]; omega) s4 s3 (fun v s'' ρ'' e2 => ?_))
        · rw [e27, sg_F_ga (a := 101) F59 rfl, eT]; omega
        · rw [e133]
          exact fX_up (fEx_F f59 rfl) hR
        · rw [ef] at e2
          cases e2
          exact ⟨w0, rfl, by omega, by omega, s1, s2⟩
      · refine m_showEX (by rw [c83]; exact h0) (fun σ63 a b c _ => fin σ63 a (sg_F_m b rfl) (fun i _ => c i) (fun v s'' ρ'' e2 => ?_))
        rw [ef] at e2
        cases e2
end BOX
/-! READ of both sides, once more: runs are forgotten. -/
theorem q_readR {σ : sg_S} {c : tkC} {Q : Int → sg_S → Prop} (hb : bY c σ) (hr : rsv c.2.2.1) (k1 : ∀ t N q σ', tkB c t N → wT t → ¬ accP t N → sg_g σ' 88 28 = 0 → sg_g σ' 88 2 = sg_g σ 88 2 → (sg_g σ' 88 51 = 0 ∧ sg_g σ' 88 81 = 0) → Q q σ') (k2 : ∀ t N A D r q σ', tkB c t N → wT t → accP t N → aPg t N aE0 = some (A, D, r) → trT σ' A → dfR σ' D → sg_g σ' 88 27 = r → (∃ T B, kPg A D r T = some (sg_g σ' 101) ∧ sg_g σ' 102 = kPB A D r B) → sg_g σ' 88 28 = 1 → sg_g σ' 88 2 = 0 → (sg_g σ' 88 51 = 0 ∧ sg_g σ' 88 81 = 0) → Q q σ') : V_readW σ Q := by
  unfold V_readW
  intro σ1 e1 σ4 e4 σ7 e7 σ10 e10 σ13 e13 σ16 e16 σ19 e19 σ22 e22
  have F22 : sg_F [1088, 8088, 9088, 20088, 29088, 30088, 52088, 82088] σ σ22 := by
    rw [e22, e19, e16, e13, e10, e7, e4, e1]
    exact sg_F_w (sg_F_w (sg_F_w (sg_F_w (sg_F_w (sg_F_w (sg_F_w (sg_F_w (sg_F_r _ _) rfl _) rfl _) rfl _) rfl _) rfl _) rfl _) rfl _) rfl _
  have b22 : bY c σ22 := ⟨hb.1, by rw [sg_F_g F22 (by rfl)]; exact hb.2.1, fun p a b => by rw [sg_F_ga F22 rfl]; exact hb.2.2 p a b⟩
  have g28 : sg_g σ22 88 28 = 0 := by
    rw [e22, sg_gw_k _ _ _ _ _ _ (by decide), e19, sg_gw_k _ _ _ _ _ _ (by decide), e16, sg_gw_k _ _ _ _ _ _ (by decide), e13, sg_gw_k _ _ _ _ _ _ (by decide), e10, sg_gw_k _ _ _ _ _ _ (by decide), e7, sg_gw_k _ _ _ _ _ _ (by decide), e4, sg_gw_e _ _ _ _ (by decide)]
  have g51 : sg_g σ22 88 51 = 0 := by
    rw [e22, sg_gw_k _ _ _ _ _ _ (by decide), e19, sg_gw_k _ _ _ _ _ _ (by decide), e16, sg_gw_k _ _ _ _ _ _ (by decide), e13, sg_gw_k _ _ _ _ _ _ (by decide), e10, sg_gw_k _ _ _ _ _ _ (by decide), e7, sg_gw_e _ _ _ _ (by decide)]
  have g81 : sg_g σ22 88 81 = 0 := by
    rw [e22, sg_gw_k _ _ _ _ _ _ (by decide), e19, sg_gw_k _ _ _ _ _ _ (by decide), e16, sg_gw_k _ _ _ _ _ _ (by decide), e13, sg_gw_k _ _ _ _ _ _ (by decide), e10, sg_gw_e _ _ _ _ (by decide)]
  have g29 : sg_g σ22 88 29 = 0 := by
    rw [e22, sg_gw_k _ _ _ _ _ _ (by decide), e19, sg_gw_k _ _ _ _ _ _ (by decide), e16, sg_gw_k _ _ _ _ _ _ (by decide), e13, sg_gw_e _ _ _ _ (by decide)]
  have g8 : sg_g σ22 88 8 = 0 := by
    rw [e22, sg_gw_k _ _ _ _ _ _ (by decide), e19, sg_gw_k _ _ _ _ _ _ (by decide), e16, sg_gw_e _ _ _ _ (by decide)]
  have g19 : sg_g σ22 88 19 = 0 := by
    rw [e22, sg_gw_k _ _ _ _ _ _ (by decide), e19, sg_gw_e _ _ _ _ (by decide)]
  have g7 : sg_g σ22 88 7 = 0 := by rw [e22, sg_gw_e _ _ _ _ (by decide)]
  refine s_cut b22 (fun t0 N σ26 hR0 hT0 f26 => ?_)
  obtain ⟨hB, hV⟩ := tkU_B hb.1 hr hR0 hT0
  have hR := tkU_R hR0
  obtain ⟨t, ht⟩ : ∃ t, t = tkU t0 N := ⟨_, rfl⟩
  rw [← ht] at hB hV hR
  have hN0 := hB.2.2.2.2.1
  have R0 : Rq t N σ26 0 0 aE0 := by
    refine ⟨hR, by rw [sg_F_g f26 (by rfl)]; exact g29, by rw [sg_F_g f26 (by rfl)]; exact g7, Nat.zero_le _, ⟨by rw [sg_F_g f26 (by rfl)]; exact g8, Int.le_refl _, by decide, fun k a b => ?_⟩, fun k a b => ?_, sg_Rg _ _ _⟩
    · exact absurd b (by simp only [aE0]; omega)
    · exact absurd b (by simp only [aE0]; omega)
  have D0 : dfR σ26 [] := ⟨by rw [sg_F_g f26 (by rfl)]; exact g19, by decide, fun d x hx => by cases hx⟩
  have dn : p_told 6579558 := Or.inl rfl
  have dv : v_told 6579558 = 6606 := by decide
  generalize hz : aDfs t N 12 [] 0 aE0 = z
  refine ⟨fun k σ31 => (∃ i A D m, k = m + 1 ∧ D.length + m = 12 ∧ Rq t N σ31 0 i A ∧ dfR σ31 D ∧ aDfs t N m D i A = z) ∨ (¬ sg_g σ31 88 29 = 0 ∧ z = none), fun σ31 => (∃ i A D, Rq t N σ31 0 i A ∧ dfR σ31 D ∧ z = some (i, A, D)) ∨ (¬ sg_g σ31 88 29 = 0 ∧ z = none), ⟨13, Or.inl ⟨0, aE0, [], 12, rfl, rfl, R0, D0, hz⟩⟩, ?_, ?_⟩
  · rintro k σ31 fr hI
    refine ⟨fun d => ?_, fun d => ?_⟩
    · rcases hI with ⟨i, A, D, m, -, -, h1, -⟩ | h
      · exact absurd h1.2.1 d
      · exact Or.inr h
    · rcases hI with ⟨i, A, D, m, em, hm, h1, h2, h3⟩ | ⟨h, -⟩
      rotate_left
      · exact absurd d h
      have vw := vq_wo h1 6579558 6606 dv
      refine ⟨pq_wo h1 dn, fun y => ?_, fun y => ?_⟩
      · have wo : ¬ aWo t i 6606 = true := fun w => by rw [vw, if_pos w] at y; cases y
        left
        refine ⟨i, A, D, h1, h2, ?_⟩
        rw [← h3]
        cases m with
        | zero => unfold aDfs; rw [if_neg wo]
        | succ m => unfold aDfs; rw [if_neg wo]
      · have wo : aWo t i 6606 = true := by
          refine Decidable.byContradiction (fun w => y ?_)
          rw [vw, if_neg w]
        have hi : i < N := by
          have h4 := h1.2.2.2.1
          rcases Nat.lt_or_ge i N with q | q
          · exact q
          · have : i = N := by omega
            subst this
            have w2 := wo_2 wo
            rcases hN0 with w | w <;> (rw [w2] at w; cases w)
        refine s_def h1 h2 hi (fun i' A' x l12 hd hx σ' r' d' _ => ?_) (fun hno σ' f' _ _ => ⟨0, by omega, Or.inr ⟨f', ?_⟩⟩)
        · obtain ⟨m', rfl⟩ : ∃ m', m = m' + 1 := ⟨m - 1, by omega⟩
          refine ⟨m' + 1, by omega, Or.inl ⟨i', A', D ++ [x], m', rfl, by rw [List.length_append]; simp only [List.length_cons, List.length_nil]; omega, r', d', ?_⟩⟩
          rw [← h3]
          conv => rhs; unfold aDfs
          rw [if_pos wo, hd]
        · rw [← h3]
          cases m with
          | zero => unfold aDfs; rw [if_pos wo]
          | succ m =>
            unfold aDfs
            rw [if_pos wo]
            rcases hno with w | w
            · omega
            · rw [w]
  · intro σ31 fr31 h31
    have hpg : ∀ y, z = y → aPg t N aE0 = (match y with
      | none => none
      | some (i, A1, D) => match (aLv t 12).1 i A1 with
        | none => none
        | some (i2, A2, q) => if t.1 i2 = 0 then some (A2, D, q) else none) := fun y hy => by
      subst hy
      unfold aPg
      rw [hz]
      cases z with
      | none => rfl
      | some v =>
        obtain ⟨i, A1, D⟩ := v
        simp only
        cases (aLv t 12).1 i A1 with
        | none => rfl
        | some w => rfl
    refine ⟨fun σ47 => (∃ i A D q, Rq t N σ47 0 i A ∧ dfR σ47 D ∧ sg_g σ47 88 27 = q ∧ aPg t N aE0 = (if t.1 i = 0 then some (A, D, q) else none)) ∨ (¬ sg_g σ47 88 29 = 0 ∧ aPg t N aE0 = none), ⟨fun d => ?_, fun d => ?_⟩, ?_⟩
    · rcases h31 with ⟨i, A, D, h1, -⟩ | ⟨h, h2⟩
      · exact absurd h1.2.1 d
      · exact Or.inr ⟨h, hpg _ h2⟩
    · rcases h31 with ⟨i, A, D, h1, h2, h3⟩ | ⟨h, -⟩
      rotate_left
      · exact absurd d h
      refine s_whole (i := i) (A := A) h1 (fun i' A' q hq σ85 r85 hqr rq f85 σ90 e90 => ?_) (fun hq σ85 f85 _ rq f85' σ90 e90 => ?_)
      · left
        have f90 : sg_F [28088] σ85 σ90 := by rw [e90]; exact sg_F_w (sg_F_r _ _) rfl _
        have D85 : dfR σ85 D := by
          refine ⟨by rw [sg_F_g f85 (by rfl)]; exact h2.1, h2.2.1, fun j x hj => ?_⟩
          obtain ⟨a1, a2, a3, a4, a5, a6⟩ := h2.2.2 j x hj
          refine ⟨by rw [sg_F_gal f85 rfl]; exact a1, by rw [sg_F_ga f85 rfl]; exact a2, by rw [sg_F_ga f85 rfl]; exact a3, by rw [sg_F_ga f85 rfl]; exact a4, a5, fun i y hy => ?_⟩
          rw [sg_F_gal f85 rfl, sg_F_ga f85 rfl, sg_F_ga f85 rfl]; exact a6 i y hy
        have D90 : dfR σ90 D := by
          refine ⟨by rw [sg_F_g f90 (by rfl)]; exact D85.1, D85.2.1, fun j x hj => ?_⟩
          obtain ⟨a1, a2, a3, a4, a5, a6⟩ := D85.2.2 j x hj
          refine ⟨by rw [sg_F_gal f90 rfl]; exact a1, by rw [sg_F_ga f90 rfl]; exact a2, by rw [sg_F_ga f90 rfl]; exact a3, by rw [sg_F_ga f90 rfl]; exact a4, a5, fun i y hy => ?_⟩
          rw [sg_F_gal f90 rfl, sg_F_ga f90 rfl, sg_F_ga f90 rfl]; exact a6 i y hy
        refine ⟨i', A', D, q, ?_, D90, by rw [e90, sg_gw_e _ _ _ _ rq], ?_⟩
        · obtain ⟨r1, r2, r3, r4, r5, r6, r7⟩ := r85
          refine ⟨?_, by rw [sg_F_g f90 (by rfl)]; exact r2, by rw [sg_F_g f90 (by rfl)]; exact r3, r4, ?_, r6, sg_Rg _ _ _⟩
          · rw [show sg_g σ90 90 = sg_g σ85 90 from funext fun _ => sg_F_ga f90 rfl, show sg_g σ90 91 = sg_g σ85 91 from funext fun _ => sg_F_ga f90 rfl, show sg_gl σ90 92 = sg_gl σ85 92 from funext fun _ => sg_F_gal f90 rfl]
            exact r1
          · have tt : trT σ85 A' ∨ True := Or.inr trivial
            rw [sg_F_g f90 (by rfl), show sg_g σ90 93 = sg_g σ85 93 from funext fun _ => sg_F_ga f90 rfl, show sg_g σ90 94 = sg_g σ85 94 from funext fun _ => sg_F_ga f90 rfl, show sg_gl σ90 95 = sg_gl σ85 95 from funext fun _ => sg_F_gal f90 rfl, show sg_g σ90 96 = sg_g σ85 96 from funext fun _ => sg_F_ga f90 rfl, show sg_g σ90 97 = sg_g σ85 97 from funext fun _ => sg_F_ga f90 rfl, show sg_g σ90 98 = sg_g σ85 98 from funext fun _ => sg_F_ga f90 rfl, show sg_gl σ90 99 = sg_gl σ85 99 from funext fun _ => sg_F_gal f90 rfl, show sg_g σ90 100 = sg_g σ85 100 from funext fun _ => sg_F_ga f90 rfl]
            exact r5
        · rw [hpg _ h3]
          simp only
          rw [hq]
      · right
        refine ⟨by rw [e90, sg_gw_k _ _ _ _ _ _ (by decide)]; exact f85, ?_⟩
        rw [hpg _ h3]
        simp only
        rw [hq]
    · intro σ47 f47 h47
      refine ⟨fun σ53 => (sg_g σ53 88 29 = 0 ∧ ∃ i A D q, Rq t N σ53 0 i A ∧ dfR σ53 D ∧ sg_g σ53 88 27 = q ∧ aPg t N aE0 = some (A, D, q)) ∨ (¬ sg_g σ53 88 29 = 0 ∧ aPg t N aE0 = none), ⟨fun d => ?_, fun d => ?_⟩, ?_⟩
      · rcases h47 with ⟨i, A, D, q, h1, -⟩ | h
        · exact absurd h1.2.1 d
        · exact Or.inr h
      · rcases h47 with ⟨i, A, D, q, h1, h2, h3, h4⟩ | ⟨h, -⟩
        rotate_left
        · exact absurd d h
        obtain ⟨q1, q2, q3, q4, q5, q6, q7⟩ := Rq_t h1
        have e90 : sg_g σ26 90 (sg_g σ47 88 7) = t.1 i := by
          rw [h1.2.2.1]; exact (hR.2.1 i h1.2.2.2.1).1
        rw [e90]
        refine ⟨⟨q4, q5⟩, fun y => Or.inl ⟨d, i, A, D, q, h1, h2, h3, by rw [h4, if_pos y]⟩, fun y => q_wrong (by decide) (fun σ' w1 w2 _ => Or.inr ⟨w1, by rw [h4, if_neg y]⟩)⟩
      · intro σ53 f53 h53
        have base : ∀ σ59, sg_F [101, 102, 113, 114, 115, 116, 117, 118, 30088, 31088, 38088, 43088, 46088] σ53 σ59 → (sg_g σ59 88 28 = 0 ∧ sg_g σ59 88 2 = sg_g σ 88 2) ∧ sg_g σ59 88 51 = 0 ∧ sg_g σ59 88 81 = 0 := fun σ59 f59 => by
          refine ⟨⟨?_, ?_⟩, ?_, ?_⟩
          · rw [sg_F_g f59 (by rfl), sg_F_g f53 (by rfl), sg_F_g f47 (by rfl), sg_F_g fr31 (by rfl), sg_F_g f26 (by rfl)]; exact g28
          · rw [sg_F_g f59 (by rfl), sg_F_g f53 (by rfl), sg_F_g f47 (by rfl), sg_F_g fr31 (by rfl), sg_F_g f26 (by rfl), sg_F_g F22 (by rfl)]
          · rw [sg_F_g f59 (by rfl), sg_F_g f53 (by rfl), sg_F_g f47 (by rfl), sg_F_g fr31 (by rfl), sg_F_g f26 (by rfl)]; exact g51
          · rw [sg_F_g f59 (by rfl), sg_F_g f53 (by rfl), sg_F_g f47 (by rfl), sg_F_g fr31 (by rfl), sg_F_g f26 (by rfl)]; exact g81
        refine ⟨fun σ59 => (sg_g σ59 88 29 = 0 ∧ ∃ A D q, trT σ59 A ∧ dfR σ59 D ∧ sg_g σ59 88 27 = q ∧ aPg t N aE0 = some (A, D, q) ∧ (∃ T B, kPg A D q T = some (sg_g σ59 101) ∧ sg_g σ59 102 = kPB A D q B) ∧ accP t N) ∨ (¬ sg_g σ59 88 29 = 0 ∧ ¬ accP t N), ⟨fun d => ?_, fun d => ?_⟩, ?_⟩
        · rcases h53 with ⟨h, -⟩ | ⟨h, h2⟩
          · exact absurd h d
          · refine Or.inr ⟨h, ?_⟩
            rintro ⟨A', D', k', z1, z2⟩
            rw [h2] at z1; cases z1
        · rcases h53 with ⟨-, i, A, D, q, h1, h2, h3, h4⟩ | ⟨h, -⟩
          rotate_left
          · exact absurd d h
          have hp := t_pg h4 ⟨Int.le_refl _, by decide⟩
          have hp2 := t_pg2 h4 ⟨Int.le_refl _, by decide⟩ rfl
          have tr : trT σ53 A := ⟨h1.2.2.2.2.1, frA_k hp2⟩
          refine q_look tr (fun L a b => ndl 200 L a (fun x hx => by have := b x hx; have := hp.2.2.2; omega)) h2 hp.1 hp.2.2.1 h3 d (fun σ' y1 y2 f' => Or.inr ⟨y2, ?_⟩) (fun σ' y1 yB y2 f' => Or.inl ⟨y2, A, D, q, trT_F tr f' rfl, ?_, by rw [sg_F_g f' (by rfl)]; exact h3, h4, ⟨_, _, y1, yB⟩, A, D, q, h4, fun y => ?_⟩)
          · rintro ⟨A', D', k', z1, z2⟩
            rw [h4] at z1
            cases z1
            exact z2 ((kPg_ag A D q _ _).mp y1)
          · refine ⟨by rw [sg_F_g f' (by rfl)]; exact h2.1, h2.2.1, fun j x hj => ?_⟩
            obtain ⟨a1, a2, a3, a4, a5, a6⟩ := h2.2.2 j x hj
            refine ⟨by rw [sg_F_gal f' rfl]; exact a1, by rw [sg_F_ga f' rfl]; exact a2, by rw [sg_F_ga f' rfl]; exact a3, by rw [sg_F_ga f' rfl]; exact a4, a5, fun i y hy => ?_⟩
            rw [sg_F_gal f' rfl, sg_F_ga f' rfl, sg_F_ga f' rfl]; exact a6 i y hy
          · have := (kPg_ag A D q _ (sg_g σ53 101)).mp y
            rw [this] at y1; cases y1
        · intro σ59 f59 h59
          obtain ⟨⟨u1, u2⟩, u3, u4⟩ := base σ59 f59
          refine ⟨fun d σ63 e63 σ66 e66 => ?_, fun d => ?_⟩
          · rcases h59 with ⟨-, A, D, q, w1, w2, w3, w4, w5, w6⟩ | ⟨h, -⟩
            rotate_left
            · exact absurd d h
            have f66 : sg_F [29088, 3088] σ59 σ66 := by rw [e66, e63]; exact sg_F_w (sg_F_w (sg_F_r _ _) rfl _) rfl _
            refine k2 t N A D q _ σ66 hB hV w6 w4 (trT_F w1 f66 rfl) ?_ (by rw [sg_F_g f66 (by rfl)]; exact w3) ?_ ?_ ?_ ⟨by rw [sg_F_g f66 (by rfl)]; exact u3, by rw [sg_F_g f66 (by rfl)]; exact u4⟩
            · refine ⟨by rw [sg_F_g f66 (by rfl)]; exact w2.1, w2.2.1, fun j x hj => ?_⟩
              obtain ⟨a1, a2, a3, a4, a5, a6⟩ := w2.2.2 j x hj
              refine ⟨by rw [sg_F_gal f66 rfl]; exact a1, by rw [sg_F_ga f66 rfl]; exact a2, by rw [sg_F_ga f66 rfl]; exact a3, by rw [sg_F_ga f66 rfl]; exact a4, a5, fun i y hy => ?_⟩
              rw [sg_F_gal f66 rfl, sg_F_ga f66 rfl, sg_F_ga f66 rfl]; exact a6 i y hy
            · rw [show sg_g σ66 101 = sg_g σ59 101 from funext fun _ => sg_F_ga f66 rfl, show sg_g σ66 102 = sg_g σ59 102 from funext fun _ => sg_F_ga f66 rfl]; exact w5
            · rw [e66, sg_gw_k _ _ _ _ _ _ (by decide), e63, sg_gw_e _ _ _ _ (by decide)]
            · rw [e66, sg_gw_e _ _ _ _ (by decide)]
          · rcases h59 with ⟨h, -⟩ | ⟨-, h⟩
            · exact absurd h d
            · exact k1 t N _ σ59 hB hV h u1 u2 ⟨u3, u4⟩
theorem c_readR {σ : sg_S} {c : tkC} {t : aK} {N : Nat} {Q : Int → sg_S → Prop} (hB : tkB c t N) (hV : wT t) (hb : tb σ = c.1) (hg : sg_gl σ 37 = c.2.2.1) (hn : sg_g σ 0 8 = c.2.1) (h7 : (sg_gl σ 36 7, sg_g σ 36 6) = c.2.2.2) (k1 : ∀ q σ', sg_g σ' 45 11 = 0 → sg_g σ' 61 11 = 0 → Q q σ') : V_cRead σ Q := by
  unfold V_cRead
  intro σ1 e1
  unfold V_cForget45
  intro σ5 e5 f5
  unfold V_cForget61
  intro σ11 e11 f11
  have F11 : sg_F [11000, 12045, 12061] σ σ11 := by rw [e11, e5, e1]; exact sg_F_w (sg_F_w (sg_F_w (sg_F_r _ _) rfl _) rfl _) rfl _
  have p45 : sg_g σ11 45 11 = 0 := by rw [e11, sg_gw_c _ _ _ _ _ _ (by decide), e5, sg_gw_e _ _ _ _ (by decide)]
  have p61 : sg_g σ11 61 11 = 0 := by rw [e11, sg_gw_e _ _ _ _ (by decide)]
  have p11 : sg_g σ11 0 10 = 0 := by rw [e11, sg_gw_c _ _ _ _ _ _ (by decide), e5, sg_gw_c _ _ _ _ _ _ (by decide), e1, sg_gw_e _ _ _ _ (by decide)]
  unfold V_cParse
  intro z
  refine wk_post (prs_ok3 z σ11 (sg_g σ 0 8) hB (by rw [← hb]; exact tb_eq (fun q => sg_F_ga F11 rfl)) (by rw [← hg]; exact funext (fun q => sg_F_gal F11 rfl)) hn (by rw [← h7]; exact Prod.ext (sg_F_gal F11 rfl) (sg_F_ga F11 rfl))) ?_
  rintro v σ17 ⟨q, rfl, hF, hq⟩
  refine ⟨q, rfl, ?_, sg_F_m hF rfl, ?_⟩
  · rcases hq with ⟨-, -, -, -, -, -, h1, -⟩ | ⟨-, h1⟩
    · rw [h1]; decide
    · exact h1
  intro rq f17 v24 e24 r24 σ27 e27
  have s27 : ∀ σ33, sg_F [6, 16, 24, 29, 30, 31, 32, 33, 34, 39, 40, 41, 42, 43, 44, 7028, 10000, 10038, 11038, 12038, 13038, 14038] σ27 σ33 → sg_g σ33 45 11 = 0 ∧ sg_g σ33 61 11 = 0 := fun σ33 f33 => ⟨by
    rw [sg_F_g f33 (by rfl), e27, sg_gw_c _ _ _ _ _ _ (by decide), sg_F_g f17 (by rfl)]; exact p45, by
    rw [sg_F_g f33 (by rfl), e27, sg_gw_c _ _ _ _ _ _ (by decide), sg_F_g f17 (by rfl)]; exact p61⟩
  rcases hq with ⟨τ', A, D, k, Rs, x1, x2, x3, x4, x5, x6, x7⟩ | ⟨x2, x3⟩
  · have hc := w_pg hV x1 wA_0
    have hp := t_pg x1 ⟨Int.le_refl _, by decide⟩
    have hp2 := t_pg2 x1 ⟨Int.le_refl _, by decide⟩ rfl
    have f27 : sg_F [10000] σ17 σ27 := by rw [e27]; exact sg_F_w (sg_F_r _ _) rfl _
    have W27 := ckW_F (te_W x3 x5 hc.1) f27 rfl
    have D27 := cD2_F (te_D x3 x6) f27 rfl
    have n27 : nmR σ27 A := fun j z0 z1 z => by
      have e5 : sg_g σ17 5 j = sg_g τ' 5 j := ag_g x3 rfl j
      rw [sg_F_ga f27 rfl, e5]
      exact x7 j z0 z1 z
    refine ⟨fun v σ33 => (ckA3 σ33 A D k ∨ ¬ sg_g σ33 38 13 = 0) ∧ sg_F [6, 16, 24, 29, 30, 31, 32, 33, 34, 39, 40, 41, 42, 43, 44, 7028, 10000, 10038, 11038, 12038, 13038, 14038] σ27 σ33, ⟨fun h => absurd h (by omega), fun _ => ?_⟩, ?_⟩
    · rw [x4]
      refine d3_check W27 D27 hp.1 hc.2 hp2 (fun p σ' y1 rp f' σ51 e51 => ?_) (fun p σ' y1 y2 y3 rp f' σ51 e51 => ?_)
      · have f51 : sg_F [10000] σ' σ51 := by rw [e51]; exact sg_F_w (sg_F_r _ _) rfl _
        exact ⟨Or.inr (by rw [sg_F_g f51 (by rfl)]; exact y1), sg_F_t (sg_F_m f' rfl) (sg_F_m f51 rfl)⟩
      · have f51 : sg_F [10000] σ' σ51 := by rw [e51]; exact sg_F_w (sg_F_r _ _) rfl _
        exact ⟨Or.inl (ckA3_F y2 f51 rfl), sg_F_t (sg_F_m f' rfl) (sg_F_m f51 rfl)⟩
    · intro v35 σ33 r35 f33 h33
      have u1 := s27 σ33 f33
      refine ⟨fun h => ?_, fun h => k1 _ σ33 u1.1 u1.2⟩
      intro σ39 e39 σ42 e42
      have f42 : sg_F [9000, 11000] σ33 σ42 := by rw [e42, e39]; exact sg_F_w (sg_F_w (sg_F_r _ _) rfl _) rfl _
      exact k1 _ σ42 (by rw [sg_F_g f42 (by rfl)]; exact u1.1) (by rw [sg_F_g f42 (by rfl)]; exact u1.2)
  · refine ⟨fun v σ33 => 0 ≤ v, ⟨fun _ => x2, fun h => absurd h (by omega)⟩, ?_⟩
    intro v35 σ33 r35 f33 h33
    exact ⟨fun h => absurd h (by omega), fun _ => k1 _ σ33 (s27 σ33 f33).1 (s27 σ33 f33).2⟩
/-! THE LAW'S STATE, fifth: both sides show the same. -/
/-- how deep what the PROGRAM comes to is -/
def kT (σ : sg_S) : Nat := (sg_g σ 101 (sg_g σ 88 27)).toNat
def rzN (σ : sg_S) : Prop := sg_g σ 45 11 = sg_g σ 88 51 ∧ (sg_g σ 88 51 = 0 ∨ (sg_g σ 45 10 = sg_g σ 88 53 ∧ (¬ sg_g σ 88 53 = 0 ∨ (sg_g σ 88 53 = 0 ∧ ∃ v, (txF (kT σ) v).length ≤ 79000 ∧ (imF (kT σ) v).length ≤ 3001 ∧ cShw 49 51 52 σ (kT σ) v ∧ rShw 76 0 σ (kT σ) v ∧ vkF (kT σ) v))))
def rzF (σ : sg_S) : Prop := sg_g σ 61 11 = sg_g σ 88 81 ∧ (sg_g σ 88 81 = 0 ∨ (sg_g σ 61 10 = sg_g σ 88 83 ∧ (¬ sg_g σ 88 83 = 0 ∨ (sg_g σ 88 83 = 0 ∧ ∃ v, (txF (kT σ) v).length ≤ 79000 ∧ (imF (kT σ) v).length ≤ 6001 ∧ cShw 65 67 68 σ (kT σ) v ∧ rShw 77 80000 σ (kT σ) v ∧ vkF (kT σ) v))))
def okN0 (L : List Nat) : Bool := !sg_cv L 45 11 && !sg_cv L 88 51 && !sg_cv L 45 10 && !sg_cv L 88 53 && !sg_cv L 49 5 && !sg_cv L 49 2 && sg_ca L 51 && sg_ca L 52 && !sg_cv L 88 76 && sg_ca L 101 && !sg_cv L 88 27
def okF0 (L : List Nat) : Bool := !sg_cv L 61 11 && !sg_cv L 88 81 && !sg_cv L 61 10 && !sg_cv L 88 83 && !sg_cv L 65 5 && !sg_cv L 65 2 && sg_ca L 67 && sg_ca L 68 && !sg_cv L 88 77 && sg_ca L 101 && !sg_cv L 88 27
theorem rzN_G {L : List Nat} {σ σ' : sg_S} (h : rzN σ) (f : sg_F L σ σ') (hL : okN0 L = true) (hr : ∀ i, i < 80000 → sg_g σ' 136 i = sg_g σ 136 i) : rzN σ' := by
  unfold okN0 at hL
  simp only [Bool.and_eq_true, Bool.not_eq_true'] at hL
  obtain ⟨⟨⟨⟨⟨⟨⟨⟨⟨⟨l1, l2⟩, l3⟩, l4⟩, l5⟩, l6⟩, l7⟩, l8⟩, l9⟩, l10⟩, l11⟩ := hL
  have eK : kT σ' = kT σ := by unfold kT; rw [sg_F_g f l11, sg_F_ga f l10]
  obtain ⟨a1, a2⟩ := h
  refine ⟨by rw [sg_F_g f l1, sg_F_g f l2]; exact a1, ?_⟩
  rw [sg_F_g f l2, sg_F_g f l3, sg_F_g f l4, eK]
  rcases a2 with q | ⟨q1, q | ⟨q2, v, q3, q4, ⟨c1, c2, c3, c4⟩, ⟨d1, d2⟩, q5⟩⟩
  · exact Or.inl q
  · exact Or.inr ⟨q1, Or.inl q⟩
  · refine Or.inr ⟨q1, Or.inr ⟨q2, v, q3, q4, ⟨by rw [sg_F_g f l5]; exact c1, fun i x hx hl => by rw [sg_F_ga f l7]; exact c2 i x hx hl, by rw [sg_F_g f l6]; exact c3, fun i x hx => by rw [sg_F_ga f l8]; exact c4 i x hx⟩, ⟨by rw [sg_F_g f l9]; exact d1, fun i x hx => ?_⟩, q5⟩⟩
    have hi := gE_l hx
    rw [hr _ (by omega)]
    exact d2 i x hx
theorem rzF_G {L : List Nat} {σ σ' : sg_S} (h : rzF σ) (f : sg_F L σ σ') (hL : okF0 L = true) (hr : ∀ i, 80000 ≤ i → sg_g σ' 136 i = sg_g σ 136 i) : rzF σ' := by
  unfold okF0 at hL
  simp only [Bool.and_eq_true, Bool.not_eq_true'] at hL
  obtain ⟨⟨⟨⟨⟨⟨⟨⟨⟨⟨l1, l2⟩, l3⟩, l4⟩, l5⟩, l6⟩, l7⟩, l8⟩, l9⟩, l10⟩, l11⟩ := hL
  have eK : kT σ' = kT σ := by unfold kT; rw [sg_F_g f l11, sg_F_ga f l10]
  obtain ⟨a1, a2⟩ := h
  refine ⟨by rw [sg_F_g f l1, sg_F_g f l2]; exact a1, ?_⟩
  rw [sg_F_g f l2, sg_F_g f l3, sg_F_g f l4, eK]
  rcases a2 with q | ⟨q1, q | ⟨q2, v, q3, q4, ⟨c1, c2, c3, c4⟩, ⟨d1, d2⟩, q5⟩⟩
  · exact Or.inl q
  · exact Or.inr ⟨q1, Or.inl q⟩
  · refine Or.inr ⟨q1, Or.inr ⟨q2, v, q3, q4, ⟨by rw [sg_F_g f l5]; exact c1, fun i x hx hl => by rw [sg_F_ga f l7]; exact c2 i x hx hl, by rw [sg_F_g f l6]; exact c3, fun i x hx => by rw [sg_F_ga f l8]; exact c4 i x hx⟩, ⟨by rw [sg_F_g f l9]; exact d1, fun i x hx => ?_⟩, q5⟩⟩
    rw [hr _ (by omega)]
    exact d2 i x hx
def lkV (σ : sg_S) : Prop := lkZ σ ∧ rzN σ ∧ rzF σ
def okV8 (L : List Nat) : Bool := okZ8 L && (okN0 L && okF0 L && sg_ca L 136)
theorem lkV_F {L : List Nat} {σ σ' : sg_S} (h : lkV σ) (f : sg_F L σ σ') (hL : okV8 L = true) : lkV σ' := by
  unfold okV8 at hL
  simp only [Bool.and_eq_true] at hL
  obtain ⟨l1, ⟨l2, l3⟩, l4⟩ := hL
  exact ⟨lkZ_F h.1 f l1, rzN_G h.2.1 f l2 (fun _ _ => sg_F_ga f l4), rzF_G h.2.2 f l3 (fun _ _ => sg_F_ga f l4)⟩
def lwV (σ : sg_S) : Prop := lwI σ ∧ lkV σ
/-- no run -/
theorem rs_0 {σ : sg_S} (h1 : sg_g σ 45 11 = 0) (h2 : sg_g σ 61 11 = 0) (h3 : sg_g σ 88 51 = 0) (h4 : sg_g σ 88 81 = 0) : rzN σ ∧ rzF σ := ⟨⟨by rw [h1, h3], Or.inl h3⟩, ⟨by rw [h2, h4], Or.inl h4⟩⟩
/-! The small calls of both sides keep the fifth state. -/
section LVC
variable {σ : sg_S}
theorem lv_c_fault (z : Value) (h : lwV σ) : wx z 0 13 0 [(0, .inr (.inr (.ref 0)))] [] σ (lwA (fun _ σ' => lwV σ')) := wk_post (w_cFault z σ) (by rintro v σ' ⟨rfl, rfl⟩; exact ⟨_, rfl, sg_Rg _ _ _, h⟩)
theorem lv_r_fault (z : Value) (h : lwV σ) : wx z 0 228 0 [(0, .inr (.inr (.ref 88)))] [] σ (lwA (fun _ σ' => lwV σ')) := by
  have hK := h.2
  replace h := h.1
  exact wk_post (w_fault z σ (fun _ σ' => lwI σ') (by
    unfold V_fault
    intro σ1 e1
    exact lwI_F h (L := [1088]) (by rw [e1]; exact sg_F_w (sg_F_r _ _) rfl _) rfl)) (by rintro v σ' ⟨q, e, r, f9, w⟩; exact ⟨q, e, r, w, lkV_F hK f9 rfl⟩)
theorem lv_v {j : Nat} {d : Nat} {ls : bm_L} {x : Int} (z : Value) (h : lwV σ) (w : wx z d j 0 ls [] σ (fun v σ' => v = some (.inl x) ∧ σ' = σ)) : wx z d j 0 ls [] σ (lwA (fun _ σ' => lwV σ')) := wk_rg (wk_post w (by rintro v σ' ⟨rfl, rfl⟩; exact ⟨⟨_, rfl⟩, h⟩))
theorem lv_c_about (z : Value) {a : Int} (ra : sg_R a) (h : lwV σ) : wx z 1 2 0 [(0, .inr (.inr (.ref 0))), (1, .inl (a))] [] σ (lwA (fun _ σ' => lwV σ')) := lv_v z h (w_cAbout z σ a ra)
theorem lv_c_node (z : Value) {a b : Int} (ra : sg_R a) (rb : sg_R b) (h : lwV σ) : wx z 1 20 0 [(0, .inr (.inr (.ref 0))), (1, .inl (a)), (2, .inl (b))] [] σ (lwA (fun _ σ' => lwV σ')) := lv_v z h (w_cNode z σ a b ra rb)
theorem lv_c_meter (z : Value) {a : Int} (ra : sg_R a) (h : lwV σ) : wx z 0 18 0 [(0, .inr (.inr (.ref 0))), (1, .inl (a))] [] σ (lwA (fun _ σ' => lwV σ')) := lv_v z h (w_cMeter z σ a ra)
theorem lv_c_shown (z : Value) {a : Int} (ra : sg_R a) (h : lwV σ) : wx z 0 24 0 [(0, .inr (.inr (.ref 0))), (1, .inl (a))] [] σ (lwA (fun _ σ' => lwV σ')) := lv_v z h (w_cShown z σ a ra)
theorem lv_r_about (z : Value) {a : Int} (ra : sg_R a) (h : lwV σ) : wx z 1 209 0 [(0, .inr (.inr (.ref 88))), (1, .inl a)] [] σ (lwA (fun _ σ' => lwV σ')) := by
  have hK := h.2
  replace h := h.1
  exact wk_post (w_about z σ a (fun _ σ' => lwI σ') ra (by
    unfold V_about
    intro σ1 e1
    have h1 := lw_1088 h e1
    exact ⟨fun _ => ⟨fun _ => ⟨fun y => ⟨fun _ => ⟨fun _ => ⟨(lw_root h.2.2.2.2.2.1 y).1, h1⟩, fun _ => h1⟩, fun _ => h1⟩, fun _ => h1⟩, fun _ => h1⟩, fun _ => h1⟩)) (by rintro v σ' ⟨q, e, r, f9, w⟩; exact ⟨q, e, r, w, lkV_F hK f9 rfl⟩)
theorem lv_r_node (z : Value) {a b : Int} (ra : sg_R a) (rb : sg_R b) (h : lwV σ) : wx z 1 295 0 [(0, .inr (.inr (.ref 88))), (1, .inl a), (2, .inl b)] [] σ (lwA (fun _ σ' => lwV σ')) := by
  have hK := h.2
  replace h := h.1
  exact wk_post (w_node z σ a b (fun _ σ' => lwI σ') ra rb (by
    unfold V_node
    intro σ1 e1
    have h1 := lw_1088 h e1
    refine ⟨fun y => ?_, fun _ => h1⟩
    have r := lw_root h.2.2.2.2.2.1 y
    have ii : ¬ v_in a 0 (sg_g σ 88 8 - 1) = 0 → 0 ≤ a ∧ a < 210 := fun w => by
      unfold v_in at w
      split at w
      · exact absurd rfl w
      · split at w
        · exact absurd rfl w
        · omega
    exact ⟨⟨by omega, by omega⟩, fun w => ⟨fun _ => ⟨fun _ => h1, fun _ => ⟨ii w, h1⟩⟩, fun _ => ⟨ii w, h1⟩⟩, fun _ => h1⟩)) (by rintro v σ' ⟨q, e, r, f9, w⟩; exact ⟨q, e, r, w, lkV_F hK f9 rfl⟩)
theorem lv_r_meter (z : Value) {a : Int} (ra : sg_R a) (h : lwV σ) : wx z 1 291 0 [(0, .inr (.inr (.ref 88))), (1, .inl a)] [] σ (lwA (fun _ σ' => lwV σ')) := by
  have hK := h.2
  replace h := h.1
  exact wk_post (w_meter z σ a (fun _ σ' => lwI σ') ra (by
    unfold V_meter
    intro σ1 e1
    have h1 := lw_1088 h e1
    exact ⟨fun _ => ⟨fun _ => ⟨fun _ => ⟨fun _ => ⟨fun _ => h1, fun _ => h1⟩, fun _ => h1⟩, fun _ => h1⟩, fun _ => ⟨fun _ => h1, fun _ => ⟨fun _ => ⟨fun _ => h1, fun _ => h1⟩, fun _ => ⟨fun _ => ⟨fun _ => h1, fun _ => h1⟩, fun _ => h1⟩⟩⟩⟩, fun _ => h1⟩)) (by rintro v σ' ⟨q, e, r, f9, w⟩; exact ⟨q, e, r, w, lkV_F hK f9 rfl⟩)
theorem lv_r_shown (z : Value) {a : Int} (ra : sg_R a) (h : lwV σ) : wx z 1 328 0 [(0, .inr (.inr (.ref 88))), (1, .inl a)] [] σ (lwA (fun _ σ' => lwV σ')) := by
  have hK := h.2
  replace h := h.1
  exact wk_post (w_shown z σ a (fun _ σ' => lwI σ') ra (by
    unfold V_shown
    intro σ1 e1
    have h1 := lw_1088 h e1
    exact ⟨fun _ => ⟨fun _ => h1, fun _ => h1⟩, fun _ => h1⟩)) (by rintro v σ' ⟨q, e, r, f9, w⟩; exact ⟨q, e, r, w, lkV_F hK f9 rfl⟩)
theorem lv_r_byteAt (z : Value) {a b : Int} (ra : sg_R a) (rb : sg_R b) (h : lwV σ) : wx z 1 215 0 [(0, .inr (.inr (.ref 88))), (1, .inl a), (2, .inl b)] [] σ (lwA (fun _ σ' => lwV σ')) := by
  have hK := h.2
  replace h := h.1
  exact wk_post (w_byteAt z σ a b (fun _ σ' => lwI σ') ra rb (by
    unfold V_byteAt
    intro σ1 e1
    have h1 := lw_1088 h e1
    have h76 := h.2.2.2.2.2.2.2.2.1
    have h77 := h.2.2.2.2.2.2.2.2.2
    refine ⟨fun _ v7 e7 r7 => ?_, fun _ => h1⟩
    have b7 : 0 ≤ v7 ∧ v7 ≤ 80000 := by rw [e7]; split <;> assumption
    refine ⟨⟨by omega, by omega⟩, fun _ => h1, fun w => ⟨fun _ => h1, fun w2 v15 e15 r15 => ?_⟩⟩
    have b0 : 0 ≤ b := by
      unfold v_in at w
      split at w
      · exact absurd rfl w
      · omega
    have b15 : v15 = 0 ∨ v15 = 80000 := by rw [e15]; split <;> simp
    exact ⟨⟨by omega, by omega⟩, ⟨by omega, by omega⟩, h1⟩)) (by rintro v σ' ⟨q, e, r, f9, w⟩; exact ⟨q, e, r, w, lkV_F hK f9 rfl⟩)
theorem lv_r_alike (z : Value) (h : lwV σ) : wx z 0 213 0 [(0, .inr (.inr (.ref 88)))] [] σ (lwA (fun _ σ' => lwV σ')) := by
  have hK := h.2
  replace h := h.1
  exact wk_post (w_alike z σ (fun _ σ' => lwI σ') (by
    unfold V_alike
    intro σ1 e1
    have h1 := lw_1088 h e1
    have h76 := h.2.2.2.2.2.2.2.2.1
    refine ⟨fun _ => h1, fun _ => ⟨fun _ => h1, fun _ => ⟨fun _ => h1, fun _ => ⟨fun _ => ⟨fun _ => ⟨fun _ => h1, fun _ => ⟨fun _ => h1, fun _ => h1⟩⟩, fun _ => ⟨fun _ v14 e14 r14 => ?_, fun _ => ⟨fun _ => h1, fun _ => ⟨fun _ => h1, fun _ => h1⟩⟩⟩⟩, fun _ => h1⟩⟩⟩⟩
    refine ⟨fun m v w => m = (80000 - w).toNat ∧ 0 ≤ w ∧ w ≤ 80000, fun _ => True, ⟨_, rfl, by omega, by omega⟩, ?_, fun v17 r17 _ => ⟨fun _ => h1, fun _ => h1⟩⟩
    rintro m v w rv rw' ⟨em, w1, w2⟩
    exact ⟨fun _ => trivial, fun y => ⟨fun _ => trivial, fun _ => ⟨⟨by omega, by omega⟩, ⟨by omega, by omega⟩, ⟨by omega, by omega⟩, fun v42 _ _ => ⟨⟨by omega, by omega⟩, _, by omega, rfl, by omega, by omega⟩⟩⟩⟩)) (by rintro v σ' ⟨q, e, r, f9, w⟩; exact ⟨q, e, r, w, lkV_F hK f9 rfl⟩)
theorem lv_c_byteAt (z : Value) {a b : Int} (ra : sg_R a) (rb : sg_R b) (h : lwV σ) : wx z 1 8 0 [(0, .inr (.inr (.ref 0))), (1, .inl a), (2, .inl b)] [] σ (lwA (fun _ σ' => lwV σ')) := by
  have hK := h.2
  replace h := h.1
  exact wk_post (w_cByteAt z σ a b (fun _ σ' => lwI σ') ra rb (by
    unfold V_cByteAt
    have p1 : p_cAt51 σ b := ⟨fun _ => trivial, fun y => ⟨fun _ => trivial, fun y2 => ⟨⟨y, y2⟩, trivial⟩⟩⟩
    have p2 : p_cAt67 σ b := ⟨fun _ => trivial, fun y => ⟨fun _ => trivial, fun y2 => ⟨⟨y, y2⟩, trivial⟩⟩⟩
    exact ⟨fun _ => ⟨fun _ => h, fun _ => ⟨fun _ => ⟨fun _ => h, fun _ v5 _ _ => ⟨fun _ => ⟨p1, h⟩, fun _ => h⟩⟩, fun _ => h⟩⟩, fun _ => ⟨fun _ => h, fun _ => ⟨fun _ => ⟨fun _ => h, fun _ v5 _ _ => ⟨fun _ => ⟨p2, h⟩, fun _ => h⟩⟩, fun _ => h⟩⟩⟩)) (by rintro v σ' ⟨q, e, r, f9, w⟩; exact ⟨q, e, r, w, by rw [← f9]; exact hK⟩)
theorem lv_c_alike (z : Value) (h : lwV σ) : wx z 2 3 0 [(0, .inr (.inr (.ref 0)))] [] σ (lwA (fun _ σ' => lwV σ')) := by
  have hK := h.2
  replace h := h.1
  exact wk_post (w_cAlike z σ (fun _ σ' => lwI σ') (by
    have sm : ∀ R : Int → sg_S → Prop, R 0 σ → R 1 σ → V_iSame4965 σ R := fun R r0 r1 => by
      unfold V_iSame4965
      have r := sg_Rg σ 49 2
      refine ⟨fun _ => ⟨fun m v => m = (2147483647 - v).toNat ∧ 0 ≤ v, True, ⟨_, rfl, by omega⟩, ?_, fun _ => r1⟩, fun _ => r0⟩
      rintro m v rv ⟨em, v0⟩
      exact ⟨fun _ => trivial, fun y => ⟨fun _ => ⟨⟨by omega, by have := r.2; omega⟩, _, by have := r.2; omega, rfl, by omega⟩, fun _ => r0⟩⟩
    unfold V_cAlike
    have s1 : ∀ (P : Prop), V_iSame4965 σ (fun q8 _ => (q8 = 0 ∨ q8 = 1) → ((q8 = 0 → lwI σ) ∧ (¬ q8 = 0 → lwI σ))) := fun _ => sm _ (fun _ => ⟨fun _ => h, fun _ => h⟩) (fun _ => ⟨fun _ => h, fun _ => h⟩)
    exact ⟨fun _ => h, fun _ => ⟨fun _ => h, fun _ => ⟨fun _ => h, fun _ => ⟨fun _ => ⟨fun _ => ⟨fun _ => h, fun _ => ⟨fun _ => s1 True, fun _ => h⟩⟩, fun _ => ⟨fun _ => ⟨fun _ => h, fun _ => ⟨fun _ => s1 True, fun _ => h⟩⟩, fun _ => h⟩⟩, fun _ => h⟩⟩⟩⟩)) (by rintro v σ' ⟨q, e, r, f9, w⟩; exact ⟨q, e, r, w, by rw [← f9]; exact hK⟩)
end LVC
/-! feed, cut, read of both sides keep the fifth state. -/
abbrev lwP5 (z : Value) (d1 j1 : Nat) (l1 : bm_L) (d2 j2 : Nat) (l2 : bm_L) (σ : sg_S) (R : Int → Int → Prop) : Prop := wx z d1 j1 0 l1 [] σ (lwA (fun q σ1 => wx z d2 j2 0 l2 [] σ1 (lwA (fun q' σ2 => R q q' ∧ lwV σ2))))
theorem lv_feed (z : Value) {σ : sg_S} {a : Int} (ra : sg_RL a) (h : lwV σ) : lwP5 z 1 14 [(0, .inr (.inr (.ref 0))), (1, .inr (.inl a))] 0 229 [(0, .inr (.inr (.ref 88))), (1, .inr (.inl a))] σ (fun q q' => q' = q) := by
  have hK := h.2
  replace h := h.1
  obtain ⟨n, hn, h1, h2⟩ := bt_n a
  obtain ⟨a1, a2, a3, -⟩ := id h
  refine wk_post (w_cFeed z σ a (fun q σ1 => wx z 0 229 0 [(0, .inr (.inr (.ref 88))), (1, .inr (.inl a))] [] σ1 (lwA (fun q' σ2 => q' = q ∧ lwV σ2))) ra (c_feed hn h1 h2 a1 (fun hb => ?_) (fun hb σ1 f1 e8 o1 o2 => ?_))) (by rintro v σ' ⟨q, e, r, -, w⟩; exact ⟨q, e, r, w⟩)
  · refine wk_post (w_feed z σ a (fun q' σ2 => q' = -3 ∧ lwI σ2) ra (q_feed hn h1 h2 (by rw [a2]; exact a1) (fun _ σ2 f => ⟨rfl, lwI_F h f rfl⟩) (fun hc => absurd hc (by rw [a2]; omega)))) (by rintro v σ' ⟨q, e, r, f9, w⟩; exact ⟨q, e, r, w.1, w.2, lkV_F hK f9 rfl⟩)
  · have e2 : sg_g σ1 88 2 = sg_g σ 0 8 := by rw [sg_F_g f1 (by rfl)]; exact a2
    refine wk_post (w_feed z σ1 a (fun q' σ2 => q' = sg_g σ 0 8 + n ∧ lwI σ2) ra (q_feed hn h1 h2 (by rw [e2]; exact a1) (fun hc => absurd hc (by rw [e2]; omega)) (fun _ σ2 f2 g1 g2 g3 => ⟨by rw [e2], ?_⟩))) (by rintro v σ' ⟨q, e, r, f9, w⟩; exact ⟨q, e, r, w.1, w.2, lkV_F (lkV_F hK f1 rfl) f9 rfl⟩)
    have F : sg_F [1, 89, 9000, 1088, 3088] σ σ2 := sg_F_t (sg_F_m f1 rfl) (sg_F_m f2 rfl)
    have e8' : sg_g σ2 0 8 = sg_g σ 0 8 + n := by rw [sg_F_g f2 (by rfl)]; exact e8
    have tt : ∀ p, tb σ2 p = tb σ1 p := fun p => by unfold tb; rw [sg_F_ga f2 rfl]
    refine lw_tape h F rfl rfl rfl ⟨by omega, by omega⟩ (by rw [g1, e2, e8']) (fun p p0 p1 => ?_)
    rw [tt]
    by_cases c : p < sg_g σ 0 8
    · rw [g2 p (by rw [e2]; exact c), sg_F_ga f1 rfl, o1 p c]
      exact a3 p p0 c
    · obtain ⟨k, ek⟩ : ∃ k : Nat, p = sg_g σ 0 8 + k := ⟨(p - sg_g σ 0 8).toNat, by omega⟩
      have kn : k < n := by omega
      have u := g3 k kn
      rw [e2, ← ek] at u
      rw [u, ek, o2 k kn]
theorem lv_cut (z : Value) {σ : sg_S} {a : Int} (ra : sg_R a) (h : lwV σ) : lwP5 z 0 11 [(0, .inr (.inr (.ref 0))), (1, .inl a)] 1 219 [(0, .inr (.inr (.ref 88))), (1, .inl a)] σ (fun q q' => q' = q) := by
  have hK := h.2
  replace h := h.1
  obtain ⟨a1, a2, a3, -⟩ := id h
  have no : v_in a 0 (sg_g σ 88 2) = 0 → wx z 1 219 0 [(0, .inr (.inr (.ref 88))), (1, .inl a)] [] σ (lwA (fun q' σ2 => q' = -2 ∧ lwV σ2)) := fun hv => by
    refine wk_post (w_cut z σ a (fun q' σ2 => q' = -2 ∧ lwI σ2) ra ?_) (by rintro v σ' ⟨q, e, r, f9, w⟩; exact ⟨q, e, r, w.1, w.2, lkV_F hK f9 rfl⟩)
    unfold V_cut
    intro σ1 e1
    exact ⟨fun y => absurd hv y, fun _ => ⟨rfl, lw_1088 h e1⟩⟩
  refine wk_post (w_cCut z σ a (fun q σ1 => wx z 1 219 0 [(0, .inr (.inr (.ref 88))), (1, .inl a)] [] σ1 (lwA (fun q' σ2 => q' = q ∧ lwV σ2))) ra ?_) (by rintro v σ' ⟨q, e, r, -, w⟩; exact ⟨q, e, r, w⟩)
  unfold V_cCut
  refine ⟨fun y => no (by unfold v_in; rw [if_pos y]), fun y => ⟨fun y2 => ⟨⟨by omega, by omega⟩, fun σ4 e4 => ?_⟩, fun y2 => no (by unfold v_in; rw [if_neg (by omega), if_pos (by omega)])⟩⟩
  have f4 : sg_F [9000] σ σ4 := by rw [e4]; exact sg_F_w (sg_F_r _ _) rfl _
  have g2 : sg_g σ4 88 2 = sg_g σ 0 8 := by rw [sg_F_g f4 (by rfl)]; exact a2
  have g8 : sg_g σ4 0 8 = a := by rw [e4, sg_gw_e _ _ _ _ ra]
  refine wk_post (w_cut z σ4 a (fun q' σ2 => q' = sg_g σ 0 8 - a ∧ lwI σ2) ra ?_) (by rintro v σ' ⟨q, e, r, f9, w⟩; exact ⟨q, e, r, w.1, w.2, lkV_F (lkV_F hK f4 rfl) f9 rfl⟩)
  unfold V_cut
  rw [g2]
  refine fun σ1 e1 => ⟨fun _ => ⟨⟨by omega, by omega⟩, fun σ6 e6 => ⟨rfl, ?_⟩⟩, fun y3 => absurd y3 (by unfold v_in; rw [if_neg (by omega), if_neg (by omega)]; decide)⟩
  have f6 : sg_F [1088, 3088] σ4 σ6 := by rw [e6, e1]; exact sg_F_w (sg_F_w (sg_F_r _ _) rfl _) rfl _
  have F : sg_F [9000, 1088, 3088] σ σ6 := sg_F_t (sg_F_m f4 rfl) (sg_F_m f6 rfl)
  have k8 : sg_g σ6 0 8 = a := by rw [sg_F_g f6 (by rfl)]; exact g8
  refine lw_tape h F rfl rfl rfl ⟨by omega, by omega⟩ (by rw [e6, sg_gw_e _ _ _ _ ra, ← e6, k8]) (fun p p0 p1 => ?_)
  have t1 : tb σ6 p = tb σ p := by unfold tb; rw [sg_F_ga F rfl]
  rw [t1, sg_F_ga F rfl]
  exact a3 p p0 (by omega)
theorem lv_of (z : Value) {σ : sg_S} {d1 j1 d2 j2 : Nat} {l1 l2 : bm_L} (h1 : wx z d1 j1 0 l1 [] σ (lwA (fun _ σ' => lwV σ'))) (h2 : ∀ σ1, lwV σ1 → wx z d2 j2 0 l2 [] σ1 (lwA (fun _ σ' => lwV σ'))) : lwP5 z d1 j1 l1 d2 j2 l2 σ (fun _ _ => True) :=
  wk_post h1 (by rintro v σ' ⟨q, e, r, w⟩; exact ⟨q, e, r, wk_post (h2 σ' w) (by rintro v2 σ2 ⟨q2, e2, r2, w2⟩; exact ⟨q2, e2, r2, trivial, w2⟩)⟩)
theorem lv_read (z : Value) {σ : sg_S} (h : lwV σ) : lwP5 z 895 23 [(0, .inr (.inr (.ref 0)))] 10 310 [(0, .inr (.inr (.ref 88)))] σ (fun _ _ => True) := by
  obtain ⟨a1, a2, a3, a4, a5, a6, a7, a8, a9, a10⟩ := h.1
  have hC := h.2.1.2.1
  obtain ⟨c, ec⟩ : ∃ c : tkC, c = (tb σ, sg_g σ 0 8, sg_gl σ 37, (sg_gl σ 36 7, sg_g σ 36 6)) := ⟨_, rfl⟩
  have c1 : tb σ = c.1 := by rw [ec]
  have c2 : sg_g σ 0 8 = c.2.1 := by rw [ec]
  have c3 : sg_gl σ 37 = c.2.2.1 := by rw [ec]
  have c4 : (sg_gl σ 36 7, sg_g σ 36 6) = c.2.2.2 := by rw [ec]
  have hok : tkOK c := ⟨by rw [← c2]; exact a1.1, by rw [← c2]; exact a1.2, fun p => by rw [← c1]; exact tb_r σ p⟩
  have hb : bY c σ := ⟨hok, by rw [← c2]; exact a2, fun p p0 p1 => by rw [← c1]; exact a3 p p0 (by rw [c2]; exact p1)⟩
  have hr : rsv c.2.2.1 := by rw [← c3]; exact a4
  obtain ⟨t, N, hB, hV⟩ := tk_ex hb hr
  have r4 := w_cRead z σ (fun _ σ' => sg_g σ' 45 11 = 0 ∧ sg_g σ' 61 11 = 0) (c_readR hB hV c1 c3 c2 c4 (fun _ _ a b => ⟨a, b⟩))
  refine wk_post (wk_and r4 (cr8 z σ hB hV c1 c3 c2 c4)) ?_
  rintro v σ1 ⟨⟨⟨q, e, rq, f1, hR⟩, hLk⟩, v4, σ4, ⟨_, _, _, _, u45, u61⟩, H4⟩
  refine ⟨q, e, rq, ?_⟩
  have w45 : sg_g σ4 45 ((11 : Nat) : Int) = sg_g σ1 45 ((11 : Nat) : Int) := sgH_fd (a := 45) (k := 11) rfl rfl H4
  have w61 : sg_g σ4 61 ((11 : Nat) : Int) = sg_g σ1 61 ((11 : Nat) : Int) := sgH_fd (a := 61) (k := 11) rfl rfl H4
  rw [show ((11 : Nat) : Int) = 11 from rfl] at w45 w61
  rw [w45] at u45
  rw [w61] at u61
  have b1 : bY c σ1 := ⟨hok, by rw [sg_F_g f1 (by rfl)]; exact hb.2.1, fun p p0 p1 => by rw [sg_F_ga f1 rfl]; exact hb.2.2 p p0 p1⟩
  refine wk_post (w_readW z σ1 (fun _ σ2 => ((¬ accP t N ∧ sg_g σ2 88 28 = 0 ∧ sg_g σ2 88 2 = sg_g σ1 88 2) ∨ (accP t N ∧ sg_g σ2 88 2 = 0 ∧ rfR σ2 ∧ lkS8 c σ2)) ∧ (sg_g σ2 88 51 = 0 ∧ sg_g σ2 88 81 = 0)) (q_readR b1 hr ?_ ?_)) ?_
  · intro t' N' q' σ2 hB' hV' na g28 g2 gr
    exact ⟨Or.inl ⟨fun y => na ((accP_eq hB hV hB' hV' c1 c3 c2 c4).mp y), g28, g2⟩, gr⟩
  · rintro t' N' A D r q' σ2 hB' hV' ya hp tr df g27 ⟨T, B, hk, hBo⟩ g28 g2 gr
    have p1 := t_pg hp ⟨Int.le_refl _, by decide⟩
    have p2 := t_pg2 hp ⟨Int.le_refl _, by decide⟩ rfl
    obtain ⟨L, x1, x2, x3, -⟩ := id p2
    have ty := tyP (T2 := sg_g σ2 101) (B2 := sg_g σ2 102) D [] 0 T (sg_g σ2 101) B L x1 x2 x3 (fun d hd => by simp at hd) (fun c hc => by simp at hc) (fun x hx => (p1.1 x hx).2.1) hk (fun _ _ => rfl) (fun x _ => congrFun hBo x) (fun c hc => by simp at hc)
    have hX : pgX σ2 A D (sg_g σ2 101) (sg_g σ2 102) := ⟨tr, df, fun _ => rfl, fun _ => rfl, p1.2.2.2.2, fun j x hj => by
      have w := (ty.1 j x hj).1
      rw [Nat.zero_add] at w
      exact w⟩
    exact ⟨Or.inr ⟨(accP_eq hB hV hB' hV' c1 c3 c2 c4).mpr ya, g2, Or.inr ⟨g28, A, D, r, hX, g27, ty.2, p2⟩, t', N', A, D, r, T, B, hB', hV', hp, tr, df, g27, hk, g28, hBo, hX, ty.2⟩, gr⟩
  · rintro v' σ2 ⟨q', e', rq', f2, hQ, gr⟩
    refine ⟨q', e', rq', trivial, ?_⟩
    have rs2 : rzN σ2 ∧ rzF σ2 := rs_0 (by rw [sg_F_g f2 (by rfl)]; exact u45) (by rw [sg_F_g f2 (by rfl)]; exact u61) gr.1 gr.2
    have e37 : sg_gl σ2 37 = sg_gl σ 37 := funext fun x => by rw [sg_F_gal f2 rfl, sg_F_gal f1 rfl]
    have k8 : sg_g σ2 0 8 = sg_g σ1 0 8 := sg_F_g f2 (by rfl)
    have k10 : sg_g σ2 0 10 = sg_g σ1 0 10 := sg_F_g f2 (by rfl)
    have rest : ((0 ≤ sg_g σ2 88 52 ∧ sg_g σ2 88 52 ≤ 20) ∧ (0 ≤ sg_g σ2 88 82 ∧ sg_g σ2 88 82 ≤ 20) ∧ (0 ≤ sg_g σ2 88 76 ∧ sg_g σ2 88 76 ≤ 80000) ∧ (0 ≤ sg_g σ2 88 77 ∧ sg_g σ2 88 77 ≤ 80000)) := by
      rw [sg_F_g f2 (a := 88) (k := 52) (by rfl), sg_F_g f2 (a := 88) (k := 82) (by rfl), sg_F_g f2 (a := 88) (k := 76) (by rfl), sg_F_g f2 (a := 88) (k := 77) (by rfl), sg_F_g f1 (a := 88) (k := 52) (by rfl), sg_F_g f1 (a := 88) (k := 82) (by rfl), sg_F_g f1 (a := 88) (k := 76) (by rfl), sg_F_g f1 (a := 88) (k := 77) (by rfl)]
      exact ⟨a7, a8, a9, a10⟩
    have hC2 : sg_g σ2 0 11 = sg_g σ2 88 52 ∧ sg_g σ2 0 12 = sg_g σ2 88 82 := by
      rw [sg_F_g f2 (a := 0) (k := 11) (by rfl), sg_F_g f2 (a := 88) (k := 52) (by rfl), sg_F_g f1 (a := 0) (k := 11) (by rfl), sg_F_g f1 (a := 88) (k := 52) (by rfl), sg_F_g f2 (a := 0) (k := 12) (by rfl), sg_F_g f2 (a := 88) (k := 82) (by rfl), sg_F_g f1 (a := 0) (k := 12) (by rfl), sg_F_g f1 (a := 88) (k := 82) (by rfl)]
      exact hC
    rcases hR with ⟨n1, n2, n3⟩ | ⟨n1, n2, n3, A1, D1, q1, n4, n5⟩
    · rcases hQ with ⟨-, m2, m3⟩ | ⟨m1, -, -, -⟩
      · refine ⟨?_, ⟨⟨by rw [k10, n2, m2], Or.inl m2⟩, hC2, Or.inl m2⟩, rs2⟩
        refine ⟨by rw [k8, n3]; exact a1, by rw [m3, k8, n3, sg_F_g f1 (by rfl)]; exact a2, fun p p0 p1 => ?_, by rw [e37]; exact a4, Or.inl (by rw [k10]; exact n2), Or.inl m2, rest⟩
        rw [k8, n3] at p1
        have t1 : tb σ2 p = tb σ p := by unfold tb; rw [sg_F_ga f2 rfl, sg_F_ga f1 rfl]
        rw [t1, sg_F_ga f2 rfl, sg_F_ga f1 rfl]
        exact a3 p p0 p1
      · exact absurd m1 n1
    · rcases hQ with ⟨m1, -⟩ | ⟨-, m2, m3, m4⟩
      · exact absurd n1 m1
      · have n10 : ¬ sg_g σ1 0 10 = 0 := by rw [n2]; decide
        refine ⟨?_, ⟨lkS_of (lkS8_lk m4) f2 n2 (fun t' N' b1 b2 => (hLk t' N' b1 b2).resolve_left n10), hC2, Or.inr ?_⟩, rs2⟩
        rotate_left
        · obtain ⟨t2, N2, A, D, r, T, B, s1, s2, s3, s4, s5, s6, s7, s8, s9, s10, s11⟩ := m4
          have e := pg_same hB s1 aE0
          rw [n4, s3] at e
          cases e
          have C2 := clR_F n5 f2 rfl
          refine ⟨_, _, _, C2, s10, s6, s11, ⟨B, fun x _ _ => congrFun s9 x⟩, fun n z1 z2 => ?_⟩
          obtain ⟨-, -, ⟨L, x1, x2, x3, x4⟩, -, ⟨T1, Tf, u1, u2⟩, -⟩ := C2
          rw [u2 n z1]
          exact kPg_e2 x1 u1 s7 n (x4 n z1 z2)
        refine ⟨by rw [k8, n3]; decide, by rw [m2, k8, n3], fun p p0 p1 => ?_, by rw [e37]; exact a4, Or.inr ⟨by rw [k10]; exact n2, flR_F (clR_fl n5) f2 rfl⟩, m3, rest⟩
        rw [k8, n3] at p1
        omega
/-! nested of both sides, with what is shown. -/
set_option maxRecDepth 10000 in
/-- the class's run -/
theorem cN8X {σ : sg_S} {A : aT} {D : List aDf} {k : Int} {B B0 : Int → Int} {Q : Int → sg_S → Prop} (h : clR σ A D k) (hB : ∀ x, 0 ≤ x → x < A.1 → B x = kPB A D k B0 x) (kk : ∀ σ', sg_g σ' 45 11 = 1 → sg_g σ' 45 10 = ansF (evN A (sg_g σ 6) B (eC A D (sg_g σ 6) B D.length) 201 k (fun _ => nmF 0) 0) → (∀ v w' s' ρ', evN A (sg_g σ 6) B (eC A D (sg_g σ 6) B D.length) 201 k (fun _ => nmF 0) 0 = .inr (v, w', s', ρ') → (imF (sg_g σ 6 k).toNat v).length ≤ 3001 ∧ vkF (sg_g σ 6 k).toNat v ∧ cShw 49 51 52 σ' (sg_g σ 6 k).toNat v) → Q (ansF (evN A (sg_g σ 6) B (eC A D (sg_g σ 6) B D.length) 201 k (fun _ => nmF 0) 0)) σ') : V_mnRun σ (sg_g σ 6 k) Q := by
  obtain ⟨b2, b3, b4, b5, ⟨T, Tf, t1, t2⟩, b6, b7, b8, b9, b10⟩ := h
  obtain ⟨a1, a2, a3, a4⟩ := asm8 b2 b3 b4 b5 t1 t2 b6 b7 b8 b9 hB
  have ht : 0 ≤ sg_g σ 6 k ∧ sg_g σ 6 k ≤ 3 := by
    obtain ⟨L, ds, sc, -, -, -, -, ty, -⟩ := a2
    exact ty.2.2.1
  refine n_run (B := B) b2 a4 (fun b hb => hb) a1 a2 a3 ?_
  rw [Int.toNat_natCast]
  generalize evN A (sg_g σ 6) B (eC A D (sg_g σ 6) B D.length) 201 k (fun _ => nmF 0) 0 = r at kk
  match r, kk with
  | .inl (e, w'), kk =>
    intro σ8 _ e10 e0 _
    refine n_concE (fun z => e0 (e10.symm.trans z)) (fun σ23 f23 g11 _ => ?_)
    rw [e10]
    exact kk σ23 g11 (by rw [sg_F_g f23 (by rfl)]; exact e10) (fun v w1 s1 ρ1 q => by cases q)
  | .inr (v, w', s', ρ'), kk =>
    rintro σ8 _ ⟨e10, -, -, e7⟩ e20 hv
    have hl : (imF (sg_g σ 6 k).toNat v).length ≤ 3001 := by
      have c := imF_c (sg_g σ 6 k).toNat v
      have c3 : cnvF (sg_g σ 6 k).toNat v ≤ 3000 := by
        generalize (sg_g σ 6 k).toNat = d at hv
        cases d with
        | zero => simp only [cnvF]; decide
        | succ d => exact hv.2.2.1
      omega
    refine n_concX (K := (sg_g σ 6 k).toNat) (v := v) (by omega) (by omega) e10 e7 e20.2 hv hl (fun σ23 f23 g11 gs _ => ?_)
    rw [e10]
    exact kk σ23 g11 (by rw [sg_F_g f23 (by rfl)]; exact e10) (fun v1 w1 s1 ρ1 q => by cases q; exact ⟨hl, cv_vk hv (sg_Rg _ _ _), gs⟩)
abbrev nqL : List Nat := [45, 46, 47, 48, 49, 50, 51, 52, 53, 54, 55, 56, 57, 58, 59, 60, 12000]
abbrev nwL : List Nat := [122, 123, 124, 125, 126, 127, 128, 129, 130, 131, 132, 133, 134, 135, 136, 137, 138, 1088, 52088, 53088, 54088, 55088, 56088, 57088, 61088, 63088, 71088, 74088, 77088, 79088]
set_option maxRecDepth 10000 in
theorem lv_nested (z : Value) {σ : sg_S} (h : lwV σ) : lwP5 z 9 19 [(0, .inr (.inr (.ref 0)))] 6 292 [(0, .inr (.inr (.ref 88)))] σ (fun q q' => q' = q) := by
  obtain ⟨hI, ⟨hR, ⟨hC, hC12⟩, hY⟩, hN, hF⟩ := id h
  have h52 := hI.2.2.2.2.2.2.1
  -- the reference's run, once the class has run
  have ref : ∀ (σ1 : sg_S) (a : Int), sg_F nqL σ σ1 → ((sg_g σ 88 28 = 0 ∧ a = -4 ∧ σ1 = σ) ∨ (¬ sg_g σ 88 28 = 0 ∧ sg_g σ 88 52 = 20 ∧ a = -3 ∧ σ1 = σ) ∨ (¬ sg_g σ 88 28 = 0 ∧ ¬ sg_g σ 88 52 = 20 ∧ sg_g σ1 0 11 = sg_g σ 0 11 + 1 ∧ ∃ A D k, pgX σ A D (sg_g σ 101) (sg_g σ 102) ∧ sg_g σ 88 27 = k ∧ tyN A (kDl D []) (sg_g σ 101) (sg_g σ 102) 201 [] k ∧ a = ansF (evN A (sg_g σ 101) (sg_g σ 102) (eC A D (sg_g σ 101) (sg_g σ 102) D.length) 201 k (fun _ => nmF 0) 0) ∧ sg_g σ1 45 11 = 1 ∧ sg_g σ1 45 10 = a ∧ ∀ v w' s' ρ', evN A (sg_g σ 101) (sg_g σ 102) (eC A D (sg_g σ 101) (sg_g σ 102) D.length) 201 k (fun _ => nmF 0) 0 = .inr (v, w', s', ρ') → (imF (sg_g σ 101 k).toNat v).length ≤ 3001 ∧ vkF (sg_g σ 101 k).toNat v ∧ cShw 49 51 52 σ1 (sg_g σ 101 k).toNat v)) → wx z 6 292 0 [(0, .inr (.inr (.ref 88)))] [] σ1 (lwA (fun q' σ2 => q' = a ∧ lwV σ2)) := fun σ1 a f1 hc => by
    have I1 : lwI σ1 := lwI_F hI f1 rfl
    have R1 : lkR σ1 := lkR_F hR f1 rfl
    have F1 : rzF σ1 := rzF_G hF f1 rfl (fun _ _ => sg_F_ga f1 rfl)
    have Y1 : sg_g σ1 88 28 = 0 ∨ lyR σ1 := by
      rw [sg_F_g f1 (by rfl)]
      exact hY.imp id (fun w => lyR_F w f1 rfl)
    have e52 : sg_g σ1 88 52 = sg_g σ 88 52 := sg_F_g f1 (by rfl)
    have e28 : sg_g σ1 88 28 = sg_g σ 88 28 := sg_F_g f1 (by rfl)
    have e27 : sg_g σ1 88 27 = sg_g σ 88 27 := sg_F_g f1 (by rfl)
    have e101 : sg_g σ1 101 = sg_g σ 101 := funext fun x => sg_F_ga f1 rfl
    -- what the end keeps
    have fin : ∀ σ2, sg_F nwL σ1 σ2 → sg_g σ1 0 11 = sg_g σ2 88 52 → (0 ≤ sg_g σ2 88 52 ∧ sg_g σ2 88 52 ≤ 20) → (0 ≤ sg_g σ2 88 76 ∧ sg_g σ2 88 76 ≤ 80000) → (∀ i, 80000 ≤ i → sg_g σ2 136 i = sg_g σ1 136 i) → rzN σ2 → lwV σ2 := fun σ2 f g1 b1 b2 g136 gN => by
      obtain ⟨a1, c2, c3, c4, c5, c6, a7, a8, a9, a10⟩ := I1
      have e37 : sg_gl σ2 37 = sg_gl σ1 37 := funext fun x => sg_F_gal f rfl
      refine ⟨⟨by rw [sg_F_g f (by rfl)]; exact a1, by rw [sg_F_g f (by rfl), sg_F_g f (by rfl)]; exact c2, fun p z1 z2 => ?_, by rw [e37]; exact c4, ?_, rfR_F c6 f rfl rfl rfl rfl rfl, b1, by rw [sg_F_g f (by rfl)]; exact a8, b2, by rw [sg_F_g f (by rfl)]; exact a10⟩, ⟨lkR_F R1 f rfl, ⟨by rw [sg_F_g f (by rfl)]; exact g1, by rw [sg_F_g f (a := 0) (k := 12) (by rfl), sg_F_g f (a := 88) (k := 82) (by rfl), sg_F_g f1 (a := 0) (k := 12) (by rfl), sg_F_g f1 (a := 88) (k := 82) (by rfl)]; exact hC12⟩, ?_⟩, gN, rzF_G F1 f rfl g136⟩
      · rw [sg_F_g f (by rfl)] at z2
        rw [sg_F_ga f rfl, c3 p z1 z2]
        unfold tb
        rw [sg_F_ga f rfl]
      · rw [sg_F_g f (by rfl)]
        rcases c5 with q | ⟨q1, q2⟩
        · exact Or.inl q
        · exact Or.inr ⟨q1, flR_F q2 f rfl⟩
      · rw [sg_F_g f (by rfl)]
        exact Y1.imp id (fun w => lyR_F w f rfl)
    have b76 := I1.2.2.2.2.2.2.2.2.1
    rcases hc with ⟨h28, rfl, es⟩ | ⟨h28, h20, rfl, es⟩ | ⟨h28, h20, h11, A, D, k, hX, hk, hr, rfl, g11, g10, gs⟩
    · rw [es]
      refine wk_post (w_nested z σ (fun q' σ2 => q' = -4 ∧ lwV σ2) (x_nested (A := aE0) (D := []) (T := fun _ => 0) (B := fun _ => 0) (r := 0) (fun _ σ2 e2 => ⟨rfl, ?_⟩) (fun q => absurd h28 q) (fun q => absurd h28 q) h52 (fun q => absurd h28 q))) (by rintro v σ' ⟨q, e, r, -, w⟩; exact ⟨q, e, r, w⟩)
      have f2 : sg_F [1088] σ σ2 := by rw [e2]; exact sg_F_w (sg_F_r _ _) rfl _
      exact ⟨lwI_F hI f2 rfl, lkV_F h.2 f2 rfl⟩
    · rw [es]
      obtain ⟨A, D, k, y1, y2, y3, y4, y5, y6⟩ := hY.resolve_left h28
      refine wk_post (w_nested z σ (fun q' σ2 => q' = -3 ∧ lwV σ2) (x_nested (A := A) (D := D) (T := sg_g σ 101) (B := sg_g σ 102) (r := k) (fun q => absurd q h28) (fun _ _ σ2 e2 => ⟨rfl, ?_⟩) (fun _ => ⟨y2, y3, y4⟩) h52 (fun _ q => absurd h20 q))) (by rintro v σ' ⟨q, e, r, -, w⟩; exact ⟨q, e, r, w⟩)
      have f2 : sg_F [1088] σ σ2 := by rw [e2]; exact sg_F_w (sg_F_r _ _) rfl _
      exact ⟨lwI_F hI f2 rfl, lkV_F h.2 f2 rfl⟩
    · have hX1 : pgX σ1 A D (sg_g σ 101) (sg_g σ 102) := pgX_F f1 rfl hX
      refine wk_post (w_nested z σ1 (fun q' σ2 => q' = ansF (evN A (sg_g σ 101) (sg_g σ 102) (eC A D (sg_g σ 101) (sg_g σ 102) D.length) 201 k (fun _ => nmF 0) 0) ∧ lwV σ2) (x_nested (A := A) (D := D) (T := sg_g σ 101) (B := sg_g σ 102) (r := k) (fun q => absurd (e28.symm.trans q) h28) (fun _ q => absurd (e52.symm.trans q) h20) (fun _ => ⟨hX1, e27.trans hk, hr⟩) (by rw [e52]; exact h52) (fun _ _ => ?_))) (by rintro v σ' ⟨q, e, r, -, w⟩; exact ⟨q, e, r, w⟩)
      have kin := hr.2.2.1
      have kr := hr.2.1
      have hA := hX.2.2.2.2.1
      have s50 : ∀ σ37 σ50 σ54, sg_F nsL σ1 σ37 → σ50 = sg_w σ37 88 53 (sg_g σ37 88 73) → sg_F shL σ50 σ54 → sg_g σ37 88 52 = sg_g σ1 88 52 + 1 → (0 ≤ sg_g σ54 88 76 ∧ sg_g σ54 88 76 ≤ 80000) → (∀ i, 80000 ≤ i → sg_g σ54 136 i = sg_g σ50 136 i) → rzN σ54 → lwV σ54 := fun σ37 σ50 σ54 f37 e50 f54 g52 b g136 gN => by
        have f50 : sg_F [54088] σ37 σ50 := by rw [e50]; exact sg_F_w (sg_F_r _ _) rfl _
        have F : sg_F nwL σ1 σ54 := sg_F_t (sg_F_m f37 rfl) (sg_F_t (sg_F_m f50 rfl) (sg_F_m f54 rfl))
        have e : sg_g σ54 88 52 = sg_g σ 88 52 + 1 := by rw [sg_F_g f54 (by rfl), sg_F_g f50 (by rfl), g52, e52]
        exact fin σ54 F (by rw [h11, hC, e]) (by rw [e]; omega) b (fun i hi => by rw [g136 i hi, sg_F_ga f50 rfl, sg_F_ga f37 rfl]) gN
      generalize evN A (sg_g σ 101) (sg_g σ 102) (eC A D (sg_g σ 101) (sg_g σ 102) D.length) 201 k (fun _ => nmF 0) 0 = r at g10 gs
      match r, g10, gs with
      | .inl (e, w'), g10, _ =>
        intro σ37 σ50 f37 g73 g0 _ g52 g51 e50
        have f50 : sg_F [54088] σ37 σ50 := by rw [e50]; exact sg_F_w (sg_F_r _ _) rfl _
        have e53 : sg_g σ50 88 53 = e := by rw [e50, sg_gw_e _ _ _ _ (sg_Rg _ _ _)]; exact g73
        refine m_showZX (by rw [e53]; exact g0) (fun σ54 b f54 f136 f54' => ⟨g73, s50 σ37 σ50 σ54 f37 e50 f54' g52 b (fun i _ => f136 i) ?_⟩)
        have c53 : sg_g σ54 88 53 = e := by rw [sg_F_g f54 (by rfl)]; exact e53
        have c51 : sg_g σ54 88 51 = 1 := by rw [sg_F_g f54 (by rfl), sg_F_g f50 (by rfl)]; exact g51
        refine ⟨?_, Or.inr ⟨?_, Or.inl (by rw [c53]; exact g0)⟩⟩
        · rw [c51, sg_F_g f54 (by rfl), sg_F_g f50 (by rfl), sg_F_g f37 (by rfl)]; exact g11
        · rw [c53, sg_F_g f54 (by rfl), sg_F_g f50 (by rfl), sg_F_g f37 (by rfl)]; exact g10
      | .inr (v, w', s', ρ'), g10, gs =>
        intro σ37 σ50 f37 g73 _ _ g52 g51 g56 gv e50
        obtain ⟨gl, gvk, gc1, gc2, gc3, gc4⟩ := gs v w' s' ρ' rfl
        have f50 : sg_F [54088] σ37 σ50 := by rw [e50]; exact sg_F_w (sg_F_r _ _) rfl _
        have g27 : sg_g σ50 88 27 = k := by rw [sg_F_g f50 (by rfl), sg_F_g f37 (by rfl), e27]; exact hk
        have e53 : sg_g σ50 88 53 = 0 := by rw [e50, sg_gw_e _ _ _ _ (sg_Rg _ _ _)]; exact g73
        have tl := tx_b (sg_g σ 101 k).toNat v
        have k1 := kin.1
        have k2 := kin.2
        have t101 : sg_g σ50 101 k = sg_g σ 101 k := by rw [sg_F_ga f50 rfl, sg_F_ga f37 rfl, e101]
        refine m_showVX (K := (sg_g σ 101 k).toNat) (v := v) e53 (by rw [g27]; omega) (by rw [g27, t101]; omega) (by omega) (by rw [sg_F_g f50 (a := 88) (k := 56) (by rfl), sg_F_g f50 (a := 88) (k := 60) (by rfl)]; exact g56) (by rw [sg_F_ga f50 rfl]; exact rvF_F gv f50 rfl) (by omega) (fun σ54 y1 y2 y3 f54 f54' => ⟨g73, s50 σ37 σ50 σ54 f37 e50 f54' g52 (by rw [y1]; omega) y3 ?_⟩)
        have c53 : sg_g σ54 88 53 = 0 := by rw [sg_F_g f54 (by rfl)]; exact e53
        have c51 : sg_g σ54 88 51 = 1 := by rw [sg_F_g f54 (by rfl), sg_F_g f50 (by rfl)]; exact g51
        have cK : kT σ54 = (sg_g σ 101 k).toNat := by
          unfold kT
          have a27 : sg_g σ54 88 27 = k := by rw [sg_F_g f54 (by rfl)]; exact g27
          rw [a27, sg_F_ga f54 rfl, t101]
        have FF : sg_F nwL σ1 σ54 := sg_F_t (sg_F_m f37 rfl) (sg_F_t (sg_F_m f50 rfl) (sg_F_m f54 rfl))
        refine ⟨?_, Or.inr ⟨?_, Or.inr ⟨c53, v, ?_⟩⟩⟩
        · rw [c51, sg_F_g FF (by rfl)]; exact g11
        · rw [c53, sg_F_g FF (by rfl)]; exact g10
        · rw [cK]
          refine ⟨by omega, gl, ⟨by rw [sg_F_g FF (by rfl)]; exact gc1, fun i x hx hl => by rw [sg_F_ga FF rfl]; exact gc2 i x hx hl, by rw [sg_F_g FF (by rfl)]; exact gc3, fun i x hx => by rw [sg_F_ga FF rfl]; exact gc4 i x hx⟩, ⟨y1, fun i x hx => ?_⟩, gvk⟩
          rw [Int.zero_add]
          exact y2 i x hx
  -- the class's run
  have rD : sg_R (sg_g σ 0 11) := sg_Rg _ _ _
  refine wk_post (w_cNested z σ (fun q σ1 => sg_F nqL σ σ1 → wx z 6 292 0 [(0, .inr (.inr (.ref 88)))] [] σ1 (lwA (fun q' σ2 => q' = q ∧ lwV σ2))) ?_) (by rintro v σ' ⟨q, e, r, f9, w⟩; exact ⟨q, e, r, w f9⟩)
  unfold V_cNested
  have e10 := hR.1
  refine ⟨fun h10 => ⟨fun h11 => ⟨⟨by have := rD.1; omega, by omega⟩, fun σ4 e4 => ?_⟩, fun h11 f1 => ?_⟩, fun h10 f1 => ?_⟩
  · have h28 : ¬ sg_g σ 88 28 = 0 := by rw [← e10]; exact h10
    obtain ⟨A, D, k, a1, a2, a3, a4, ⟨B0, a5⟩, a6⟩ := hY.resolve_left h28
    have f4 : sg_F [12000] σ σ4 := by rw [e4]; exact sg_F_w (sg_F_r _ _) rfl _
    have c4 := clR_F a1 f4 rfl
    have kr := a4.2.1
    have hA := a2.2.2.2.2.1
    have e35 : sg_g σ 35 4 = k := a1.2.2.2.2.2.2.2.2.2
    have e6 : sx_at σ 6 200 (sg_g σ 35 4) = sg_g σ4 6 k := by rw [e35, xa_in ⟨kr.1, by omega⟩, sg_F_ga f4 rfl]
    rw [e6]
    obtain ⟨L, x1, x2, x3, x4⟩ := a1.2.2.1
    have eT : evN A (sg_g σ4 6) (sg_g σ 102) (eC A D (sg_g σ4 6) (sg_g σ 102) D.length) 201 k = evN A (sg_g σ 101) (sg_g σ 102) (eC A D (sg_g σ 101) (sg_g σ 102) D.length) 201 k := ev_T x1 (fun x hx => by rw [sg_F_ga f4 rfl]; exact a6 x (x3 x hx).1 (x3 x hx).2)
    have e6k : sg_g σ4 6 k = sg_g σ 101 k := by rw [sg_F_ga f4 rfl]; exact a6 k kr.1 kr.2
    unfold V_nRun
    intro z'
    refine wk_post (w_mnRun z' σ4 (sg_g σ4 6 k) (fun q σ8 => q = ansF (evN A (sg_g σ 101) (sg_g σ 102) (eC A D (sg_g σ 101) (sg_g σ 102) D.length) 201 k (fun _ => nmF 0) 0) ∧ sg_g σ8 45 11 = 1 ∧ sg_g σ8 45 10 = ansF (evN A (sg_g σ 101) (sg_g σ 102) (eC A D (sg_g σ 101) (sg_g σ 102) D.length) 201 k (fun _ => nmF 0) 0) ∧ ∀ v w' s' ρ', evN A (sg_g σ 101) (sg_g σ 102) (eC A D (sg_g σ 101) (sg_g σ 102) D.length) 201 k (fun _ => nmF 0) 0 = .inr (v, w', s', ρ') → (imF (sg_g σ 101 k).toNat v).length ≤ 3001 ∧ vkF (sg_g σ 101 k).toNat v ∧ cShw 49 51 52 σ8 (sg_g σ 101 k).toNat v) (sg_Rg _ _ _) (cN8X (B := sg_g σ 102) c4 a5 (fun σ' u1 u2 u3 => by rw [eT] at u2 u3 ⊢; rw [e6k] at u3; exact ⟨rfl, u1, u2, u3⟩))) ?_
    rintro v σ8 ⟨q, rfl, rq, f8, hq, u1, u2, u3⟩
    refine ⟨q, rfl, rq, sg_F_m f8 rfl, fun _ f9 f1 => ?_⟩
    rw [hq]
    refine ref σ8 _ f1 (Or.inr (Or.inr ⟨h28, by omega, ?_, A, D, k, a2, a3, a4, rfl, u1, u2, u3⟩))
    rw [sg_F_g f9 (by rfl), e4, sg_gw_e _ _ _ _ ⟨by have := rD.1; omega, by omega⟩]
  · have h28 : ¬ sg_g σ 88 28 = 0 := by rw [← e10]; exact h10
    exact ref σ (-3) f1 (Or.inr (Or.inl ⟨h28, by omega, rfl, rfl⟩))
  · have h28 : sg_g σ 88 28 = 0 := by rw [← e10]; exact h10
    exact ref σ (-4) f1 (Or.inl ⟨h28, rfl, rfl⟩)
/-! flat of both sides, with what is shown. -/
/-- the class's run -/
theorem cF9X {σ : sg_S} {A : aT} {D : List aDf} {k : Int} {B0 : Int → Int} {O : Int → Nat → List Int} {Q : Int → sg_S → Prop} (h : clR σ A D k) (hX : pgX σ A D (sg_g σ 101) (sg_g σ 102)) (hB : ∀ x, 0 ≤ x → x < A.1 → sg_g σ 102 x = kPB A D k B0 x) (hT6 : ∀ n, 0 ≤ n → n < A.1 → sg_g σ 6 n = sg_g σ 101 n) (hO : okO A (sg_g σ 102) O) (kk : ∀ σ', sg_g σ' 61 11 = 1 → sg_g σ' 61 10 = fRe (fxA A D (sg_g σ 101) (sg_g σ 102) O k) → (∀ v s' ρ', fxA A D (sg_g σ 101) (sg_g σ 102) O k = .inr (v, s', ρ') → ∃ w0, v = [w0] ∧ (imF (sg_g σ 6 k).toNat w0).length ≤ 6001 ∧ vkF (sg_g σ 6 k).toNat w0 ∧ cShw 65 67 68 σ' (sg_g σ 6 k).toNat w0) → (∀ e, fxA A D (sg_g σ 101) (sg_g σ 102) O k = .inl e → ¬ e.1 = 0) → Q (fRe (fxA A D (sg_g σ 101) (sg_g σ 102) O k)) σ') : V_mRun σ (sg_g σ 6 k) Q := by
  obtain ⟨b2, b3, b4, b5, ⟨T, Tf, t1, t2⟩, b6, b7, b8, b9, b10⟩ := id h
  obtain ⟨LA, f1, f2, f3, f4⟩ := id b4
  obtain ⟨td, tk⟩ := ty8 h hB
  have vb := nm_vb td tk f1
  obtain ⟨-, -, -, a4⟩ := asm8 b2 b3 b4 b5 t1 t2 b6 b7 b8 b9 hB
  obtain ⟨y0, hi⟩ := hi_6 a4 (fun y z1 z2 ky => vb y (f4 y z1 z2) ky)
  have eB : ∀ x, 0 ≤ x → x < A.1 → sg_g (sT6 σ A.1 y0) 102 x = sg_g σ 102 x := fun x z1 z2 => by rw [sT6_b, if_pos ⟨z1, z2⟩]
  have hB' : ∀ x, 0 ≤ x → x < A.1 → sg_g (sT6 σ A.1 y0) 102 x = kPB A D k B0 x := fun x z1 z2 => (eB x z1 z2).trans (hB x z1 z2)
  obtain ⟨td', tk'⟩ := ty8 h hB'
  have hX' := pgX_6 (y0 := y0) hX td'
  obtain ⟨c1, c2, c3, -⟩ := asm8 b2 b3 b4 b5 t1 t2 b6 b7 b8 b9 hB'
  obtain ⟨H, fs, d1, d2, d3⟩ := asm b2 b3 b4 ⟨fun j x hx => ⟨_, _, _, td' j x hx⟩, _, _, _, tk'⟩ b6 b7
  obtain ⟨O', o1, o2⟩ := S_ex A (sg_g (sT6 σ A.1 y0) 102) (slF σ) hi
  have kin := tk.2.2.1
  have hA := hX.2.2.2.2.1
  have hk : ∀ n, 0 ≤ n → n < A.1 → nW A n ∧ ∀ y ∈ A.2.2.2.2.1 n, 0 ≤ y ∧ y < A.1 := fun n z1 z2 => by
    obtain ⟨Lx, u1, -⟩ := fT_nod LA.length _ LA (Nat.le_refl _) f1 (f4 n z1 z2)
    obtain ⟨L1, L2, e1, w1, w2, w3⟩ := fT_inv u1
    exact ⟨w1, (b2.2.2 n z1 z2).2⟩
  have eq9 : r9 (fxA A D (sg_g σ 6) (sg_g (sT6 σ A.1 y0) 102) O' k) (fxA A D (sg_g σ 101) (sg_g σ 102) O k) := by
    refine fxA_pm f1 (fun x hx => ⟨hT6 x (f3 x hx).1 (f3 x hx).2, eB x (f3 x hx).1 (f3 x hx).2, ?_⟩)
    obtain ⟨Lx, u1, u2⟩ := fT_nod LA.length _ LA (Nat.le_refl _) f1 hx
    refine oPm_ok u1 o1 hO (fun y hy => eB y (f3 y (u2 y hy)).1 (f3 y (u2 y hy)).2) (fun y hy ky => bTy_T hA hk hT6 ?_)
    rw [eB y (f3 y (u2 y hy)).1 (f3 y (u2 y hy)).2]
    exact vb y (u2 y hy) ky
  have eq := fRe_r eq9
  refine y_run (vb := vbF A D) b2 b3 a4 (fun b hb => hb) o1 o2 hX' b4 tk' d1 c1 d2 c2 c3 (fun σ8 f8 e10 _ ev en => ?_)
  rcases r9_c eq9 with ⟨⟨e1, es⟩, e', g1, g2, g3⟩ | ⟨⟨v, s', ρ'⟩, g1, g2⟩
  · have z : ¬ sg_g σ8 61 10 = 0 := by
      have := en _ g1
      rw [e10, g1]
      exact this
    refine y_concE z (fun σ23 f23 g11 _ => ?_)
    rw [sg_F_g f23 (by rfl), e10, eq]
    exact kk σ23 g11 (by rw [sg_F_g f23 (by rfl), e10, eq]) (fun v s' ρ' q => by rw [g2] at q; cases q) (fun e q => by
      rw [g2] at q
      cases q
      rw [← g3]
      exact en _ g1)
  · obtain ⟨v1, v2, v3, v4, v5⟩ := ev v s' ρ' g1
    obtain ⟨w0, rfl⟩ : ∃ w0, v = [w0] := by
      match v, v2 with
      | [w0], _ => exact ⟨w0, rfl⟩
    have z0 : sg_g σ8 61 10 = 0 := by rw [e10, g1]; rfl
    have il := imF_e (sg_g σ 6 k).toNat w0
    have k1 := kin.1
    have k2 := kin.2
    refine y_concX (K := (sg_g σ 6 k).toNat) (w0 := w0) (by omega) (by omega) z0 v1 v3 v4 (by omega) (fun σ23 f23 g11 gs _ => ?_)
    rw [sg_F_g f23 (by rfl), e10, eq]
    exact kk σ23 g11 (by rw [sg_F_g f23 (by rfl), e10, eq]) (fun v s'' ρ'' q => by rw [g2] at q; cases q; exact ⟨w0, rfl, by omega, yX_vk v4 w0 (by simp), gs⟩) (fun e q => by rw [g2] at q; cases q)
theorem lv_flat (z : Value) {σ : sg_S} (h : lwV σ) : lwP5 z 9 15 [(0, .inr (.inr (.ref 0)))] 6 231 [(0, .inr (.inr (.ref 88)))] σ (fun q q' => q' = q) := by
  obtain ⟨hI, ⟨hR, ⟨hC11, hC⟩, hY⟩, hN, hF⟩ := id h
  have h82 := hI.2.2.2.2.2.2.2.1
  -- the reference's run, once the class has run
  have ref : ∀ (σ1 : sg_S) (a : Int), sg_F cfL σ σ1 → ((sg_g σ 88 28 = 0 ∧ a = -4 ∧ σ1 = σ) ∨ (¬ sg_g σ 88 28 = 0 ∧ sg_g σ 88 82 = 20 ∧ a = -3 ∧ σ1 = σ) ∨ (¬ sg_g σ 88 28 = 0 ∧ ¬ sg_g σ 88 82 = 20 ∧ sg_g σ1 0 12 = sg_g σ 0 12 + 1 ∧ ∃ A D k O, pgX σ A D (sg_g σ 101) (sg_g σ 102) ∧ sg_g σ 88 27 = k ∧ tyN A (kDl D []) (sg_g σ 101) (sg_g σ 102) 201 [] k ∧ frA A (aRt D ++ [k]) ∧ okO A (sg_g σ 102) O ∧ gaH A (sg_g σ 102) (sg_g σ 116) O ∧ a = fRe (fxA A D (sg_g σ 101) (sg_g σ 102) O k) ∧ sg_g σ1 61 11 = 1 ∧ sg_g σ1 61 10 = a ∧ (∀ v s' ρ', fxA A D (sg_g σ 101) (sg_g σ 102) O k = .inr (v, s', ρ') → ∃ w0, v = [w0] ∧ (imF (sg_g σ 101 k).toNat w0).length ≤ 6001 ∧ vkF (sg_g σ 101 k).toNat w0 ∧ cShw 65 67 68 σ1 (sg_g σ 101 k).toNat w0) ∧ ∀ e, fxA A D (sg_g σ 101) (sg_g σ 102) O k = .inl e → ¬ e.1 = 0)) → wx z 6 231 0 [(0, .inr (.inr (.ref 88)))] [] σ1 (lwA (fun q' σ2 => q' = a ∧ lwV σ2)) := fun σ1 a f1 hc => by
    have I1 : lwI σ1 := lwI_F hI f1 rfl
    have R1 : lkR σ1 := lkR_F hR f1 rfl
    have N1 : rzN σ1 := rzN_G hN f1 rfl (fun _ _ => sg_F_ga f1 rfl)
    have Y1 : sg_g σ1 88 28 = 0 ∨ lyR σ1 := by
      rw [sg_F_g f1 (by rfl)]
      exact hY.imp id (fun w => lyR_F w f1 rfl)
    have e82 : sg_g σ1 88 82 = sg_g σ 88 82 := sg_F_g f1 (by rfl)
    have e28 : sg_g σ1 88 28 = sg_g σ 88 28 := sg_F_g f1 (by rfl)
    have e27 : sg_g σ1 88 27 = sg_g σ 88 27 := sg_F_g f1 (by rfl)
    rcases hc with ⟨h28, rfl, es⟩ | ⟨h28, h20, rfl, es⟩ | ⟨h28, h20, h12, A, D, k, O, hX, hk, hr, hfr, hO, hG, rfl, g11, g10, gs, gz⟩
    · rw [es]
      refine wk_post (w_flat z σ (fun q' σ2 => q' = -4 ∧ lwV σ2) ?_) (by rintro v σ' ⟨q, e, r, -, w⟩; exact ⟨q, e, r, w⟩)
      unfold V_flat
      intro σ2 e2
      refine ⟨fun q => absurd h28 q, fun _ => ⟨rfl, ?_⟩⟩
      have f2 : sg_F [1088] σ σ2 := by rw [e2]; exact sg_F_w (sg_F_r _ _) rfl _
      exact ⟨lwI_F hI f2 rfl, lkV_F h.2 f2 rfl⟩
    · rw [es]
      refine wk_post (w_flat z σ (fun q' σ2 => q' = -3 ∧ lwV σ2) ?_) (by rintro v σ' ⟨q, e, r, -, w⟩; exact ⟨q, e, r, w⟩)
      unfold V_flat
      intro σ2 e2
      refine ⟨fun _ => ⟨fun q => absurd h20 q, fun _ => ⟨rfl, ?_⟩⟩, fun q => absurd q h28⟩
      have f2 : sg_F [1088] σ σ2 := by rw [e2]; exact sg_F_w (sg_F_r _ _) rfl _
      exact ⟨lwI_F hI f2 rfl, lkV_F h.2 f2 rfl⟩
    · have hX1 : pgX σ1 A D (sg_g σ 101) (sg_g σ 102) := pgX_F f1 rfl hX
      refine wk_post (w_flat z σ1 (fun q' σ2 => q' = fRe (fxA A D (sg_g σ 101) (sg_g σ 102) O k) ∧ lwV σ2) (xq_flatX (c := sg_g σ 116) hX1 (e27.trans hk) hr hfr hO hG (fun y => sg_F_ga f1 rfl) (fun q => h28 (e28.symm.trans q)) ⟨by rw [e82]; exact h82.1, by rw [e82]; have := h82.2; omega⟩ (fun σ2 f2 g82 g77 g83 _ g136 gv g81 => ⟨rfl, ?_⟩))) (by rintro v σ' ⟨q, e, r, -, w⟩; exact ⟨q, e, r, w⟩)
      have b1 : 0 ≤ sg_g σ2 88 82 ∧ sg_g σ2 88 82 ≤ 20 := by rw [g82, e82]; have := h82.1; have := h82.2; exact ⟨by omega, by omega⟩
      have f : sg_F rfL σ1 σ2 := sg_F_m f2 rfl
      have gF : rzF σ2 := by
        refine ⟨?_, Or.inr ⟨?_, ?_⟩⟩
        · rw [g81, sg_F_g f (by rfl)]; exact g11
        · rw [g83, sg_F_g f (by rfl)]; exact g10
        · have cK : kT σ2 = (sg_g σ 101 k).toNat := by
            unfold kT
            have a27 : sg_g σ2 88 27 = k := by rw [sg_F_g f (by rfl)]; exact e27.trans hk
            rw [a27, sg_F_ga f rfl, sg_F_ga f1 rfl]
          generalize fxA A D (sg_g σ 101) (sg_g σ 102) O k = res at g83 gv gs gz
          match res, g83, gv, gs, gz with
          | .inl (e, s'), g83, _, _, gz => exact Or.inl (by rw [g83]; exact gz (e, s') rfl)
          | .inr (v, s', ρ'), g83, gv, gs, _ =>
            obtain ⟨w0, q1, q2, q3, q4, q5⟩ := gv v s' ρ' rfl
            obtain ⟨w1, p1, p2, p3, c1, c2, c3, c4⟩ := gs v s' ρ' rfl
            rw [q1] at p1
            cases p1
            refine Or.inr ⟨g83, w0, ?_⟩
            rw [cK]
            exact ⟨q2, p2, ⟨by rw [sg_F_g f (by rfl)]; exact c1, fun i x hx hl => by rw [sg_F_ga f rfl]; exact c2 i x hx hl, by rw [sg_F_g f (by rfl)]; exact c3, fun i x hx => by rw [sg_F_ga f rfl]; exact c4 i x hx⟩, ⟨q4, q5⟩, p3⟩
      obtain ⟨a1, c2, c3, c4, c5, c6, a7, a8, a9, a10⟩ := I1
      have e37 : sg_gl σ2 37 = sg_gl σ1 37 := funext fun x => sg_F_gal f rfl
      refine ⟨⟨by rw [sg_F_g f (by rfl)]; exact a1, by rw [sg_F_g f (by rfl), sg_F_g f (by rfl)]; exact c2, fun p z1 z2 => ?_, by rw [e37]; exact c4, ?_, rfR_F c6 f rfl rfl rfl rfl rfl, by rw [sg_F_g f (by rfl)]; exact a7, b1, by rw [sg_F_g f (by rfl)]; exact a9, g77⟩, ⟨lkR_F R1 f rfl, ⟨by rw [sg_F_g f (a := 0) (k := 11) (by rfl), sg_F_g f (a := 88) (k := 52) (by rfl), sg_F_g f1 (a := 0) (k := 11) (by rfl), sg_F_g f1 (a := 88) (k := 52) (by rfl)]; exact hC11, by rw [sg_F_g f (a := 0) (k := 12) (by rfl), h12, hC, g82, e82]⟩, ?_⟩, rzN_G N1 f rfl g136, gF⟩
      · rw [sg_F_g f (by rfl)] at z2
        rw [sg_F_ga f rfl, c3 p z1 z2]
        unfold tb
        rw [sg_F_ga f rfl]
      · rw [sg_F_g f (by rfl)]
        rcases c5 with q | ⟨q1, q2⟩
        · exact Or.inl q
        · exact Or.inr ⟨q1, flR_F q2 f rfl⟩
      · rw [sg_F_g f (by rfl)]
        exact Y1.imp id (fun w => lyR_F w f rfl)
  -- the class's run
  have rD : sg_R (sg_g σ 0 12) := sg_Rg _ _ _
  refine wk_post (w_cFlat z σ (fun q σ1 => sg_F cfL σ σ1 → wx z 6 231 0 [(0, .inr (.inr (.ref 88)))] [] σ1 (lwA (fun q' σ2 => q' = q ∧ lwV σ2))) ?_) (by rintro v σ' ⟨q, e, r, f9, w⟩; exact ⟨q, e, r, w f9⟩)
  unfold V_cFlat
  have e10 := hR.1
  refine ⟨fun h10 => ⟨fun h12 => ⟨⟨by have := rD.1; omega, by omega⟩, fun σ4 e4 => ?_⟩, fun h12 f1 => ?_⟩, fun h10 f1 => ?_⟩
  · have h28 : ¬ sg_g σ 88 28 = 0 := by rw [← e10]; exact h10
    obtain ⟨A, D, k, a1, a2, a3, a4, ⟨B0, a5⟩, a6⟩ := hY.resolve_left h28
    have f4 : sg_F [13000] σ σ4 := by rw [e4]; exact sg_F_w (sg_F_r _ _) rfl _
    have c4 := clR_F a1 f4 rfl
    have kr := a4.2.1
    have hA := a2.2.2.2.2.1
    have e35 : sg_g σ 35 4 = k := a1.2.2.2.2.2.2.2.2.2
    have e6 : sx_at σ 6 200 (sg_g σ 35 4) = sg_g σ4 6 k := by rw [e35, xa_in ⟨kr.1, by omega⟩, sg_F_ga f4 rfl]
    rw [e6]
    obtain ⟨O, o1, o2⟩ := O_ex A (sg_g σ 102) (sg_g σ 116)
    have e101 : sg_g σ4 101 = sg_g σ 101 := funext fun x => sg_F_ga f4 rfl
    have e102 : sg_g σ4 102 = sg_g σ 102 := funext fun x => sg_F_ga f4 rfl
    have e6k : sg_g σ4 6 k = sg_g σ 101 k := by rw [sg_F_ga f4 rfl]; exact a6 k kr.1 kr.2
    have n12 : sg_g σ4 0 12 = sg_g σ 0 12 + 1 := by rw [e4, sg_gw_e _ _ _ _ ⟨by have := rD.1; omega, by omega⟩]
    refine cF9X (O := O) (B0 := B0) c4 (by rw [e101, e102]; exact pgX_F f4 rfl a2) (fun x z1 z2 => by rw [e102]; exact a5 x z1 z2) (fun n z1 z2 => by rw [e101, sg_F_ga f4 rfl]; exact a6 n z1 z2) (by rw [e102]; exact o1) (fun σ8 u1 u2 u3 u4 => ?_)
    rw [e101, e102] at u2 u3 u4 ⊢
    rw [e6k] at u3
    intro _ f9 f1
    exact ref σ8 _ f1 (Or.inr (Or.inr ⟨h28, by omega, by rw [sg_F_g f9 (by rfl)]; exact n12, A, D, k, O, a2, a3, a4, a1.2.2.1, o1, o2, rfl, u1, u2, u3, u4⟩))
  · have h28 : ¬ sg_g σ 88 28 = 0 := by rw [← e10]; exact h10
    exact ref σ (-3) f1 (Or.inr (Or.inl ⟨h28, by omega, rfl, rfl⟩))
  · have h28 : sg_g σ 88 28 = 0 := by rw [← e10]; exact h10
    exact ref σ (-4) f1 (Or.inl ⟨h28, rfl, rfl⟩)
/-! shown, byteAt of both sides: the answers are alike. -/
section LVS
variable {σ : sg_S}
theorem lv_shown (z : Value) {a : Int} (ra : sg_R a) (h : lwV σ) : lwP5 z 0 24 [(0, .inr (.inr (.ref 0))), (1, .inl (a))] 1 328 [(0, .inr (.inr (.ref 88))), (1, .inl a)] σ (fun q q' => q' = q) := by
  obtain ⟨hI, hZ, hN, hF⟩ := id h
  refine wk_post (w_cShown z σ a ra) ?_
  rintro v σ1 ⟨rfl, rfl⟩
  have rs : sg_R (v_cShown σ1 a) := by
    unfold v_cShown
    repeat' split
    all_goals first | exact sg_Rg _ _ _ | decide
  refine ⟨_, rfl, rs, wk_post (w_shown z σ1 a (fun q' σ' => q' = v_cShown σ1 a ∧ lwI σ') ra ?_) (by rintro v σ' ⟨q, e, r, f9, w⟩; exact ⟨q, e, r, w.1, w.2, lkV_F h.2 f9 rfl⟩)⟩
  unfold V_shown
  intro σ2 e2
  have h1 := lw_1088 hI e2
  obtain ⟨n1, n2⟩ := hN
  obtain ⟨g1, g2⟩ := hF
  unfold v_hasCome v_cShown
  rw [n1, g1]
  by_cases a0 : a = 0
  · rw [if_pos a0, if_pos a0]
    rcases n2 with q | ⟨q1, q | ⟨q2, v, q3, q4, c, d, -⟩⟩
    · rw [if_pos q, if_pos q]
      exact ⟨fun w => absurd rfl w, fun _ => ⟨rfl, h1⟩⟩
    · by_cases p : sg_g σ1 88 51 = 0
      · rw [if_pos p, if_pos p]
        exact ⟨fun w => absurd rfl w, fun _ => ⟨rfl, h1⟩⟩
      · rw [if_neg p, if_neg p, if_pos q, q1, if_pos q]
        exact ⟨fun w => absurd rfl w, fun _ => ⟨rfl, h1⟩⟩
    · by_cases p : sg_g σ1 88 51 = 0
      · rw [if_pos p, if_pos p]
        exact ⟨fun w => absurd rfl w, fun _ => ⟨rfl, h1⟩⟩
      · rw [if_neg p, if_neg p, if_neg (fun w => w q2), q1, if_neg (fun w => w q2)]
        exact ⟨fun _ => ⟨fun _ => ⟨by rw [c.1, d.1], h1⟩, fun w => absurd a0 w⟩, fun w => (by cases w)⟩
  · rw [if_neg a0, if_neg a0]
    rcases g2 with q | ⟨q1, q | ⟨q2, v, q3, q4, c, d, -⟩⟩
    · rw [if_pos q, if_pos q]
      exact ⟨fun w => absurd rfl w, fun _ => ⟨rfl, h1⟩⟩
    · by_cases p : sg_g σ1 88 81 = 0
      · rw [if_pos p, if_pos p]
        exact ⟨fun w => absurd rfl w, fun _ => ⟨rfl, h1⟩⟩
      · rw [if_neg p, if_neg p, if_pos q, q1, if_pos q]
        exact ⟨fun w => absurd rfl w, fun _ => ⟨rfl, h1⟩⟩
    · by_cases p : sg_g σ1 88 81 = 0
      · rw [if_pos p, if_pos p]
        exact ⟨fun w => absurd rfl w, fun _ => ⟨rfl, h1⟩⟩
      · rw [if_neg p, if_neg p, if_neg (fun w => w q2), q1, if_neg (fun w => w q2)]
        exact ⟨fun _ => ⟨fun w => absurd w a0, fun _ => ⟨by rw [c.1, d.1], h1⟩⟩, fun w => (by cases w)⟩
/-- letters are bytes -/
theorem tx_r : ∀ {d : Nat} {v : vaF} {x : Int}, x ∈ txF d v → 0 ≤ x ∧ x < 128
  | 0, v, x, h => by
    simp only [txF, txN] at h
    split at h
    · rcases List.mem_cons.mp h with q | q
      · rw [q]; decide
      · have := dgs_r q; omega
    · have := dgs_r h; omega
  | d + 1, v, x, h => by
    simp only [txF] at h
    have rr : ∀ l : List vaF, x ∈ txR (txF d) l → 0 ≤ x ∧ x < 128 := fun l => by
      induction l with
      | nil => intro h; cases h
      | cons w r ih =>
        intro h
        simp only [txR] at h
        rcases List.mem_cons.mp h with q | q
        · rw [q]; decide
        · rcases List.mem_append.mp q with q | q
          · exact tx_r q
          · exact ih q
    rcases List.mem_cons.mp h with q | q
    · rw [q]; decide
    · rcases List.mem_append.mp q with q | q
      · cases e : itF v with
        | nil => rw [e] at q; cases q
        | cons w r =>
          rw [e] at q
          simp only [txL] at q
          rcases List.mem_append.mp q with q | q
          · exact tx_r q
          · exact rr r q
      · rcases List.mem_cons.mp q with q | q
        · rw [q]; decide
        · cases q
theorem a255 {c : Int} (h : 0 ≤ c ∧ c < 128) : (sg_i c &&& sg_i 255).toInt = c := by
  have k : ∀ n : Nat, n < 128 → (sg_i (n : Int) &&& sg_i 255).toInt = (n : Int) := by decide +kernel
  have := k c.toNat (by omega)
  rw [show ((c.toNat : Nat) : Int) = c by omega] at this
  exact this
theorem lv_byteAt (z : Value) {a b : Int} (ra : sg_R a) (rb : sg_R b) (h : lwV σ) : lwP5 z 1 8 [(0, .inr (.inr (.ref 0))), (1, .inl a), (2, .inl b)] 1 215 [(0, .inr (.inr (.ref 88))), (1, .inl a), (2, .inl b)] σ (fun q q' => q' = q) := by
  obtain ⟨hI, hZ, hN, hF⟩ := id h
  have h76 := hI.2.2.2.2.2.2.2.2.1
  have h77 := hI.2.2.2.2.2.2.2.2.2
  obtain ⟨n1, n2⟩ := hN
  obtain ⟨g1, g2⟩ := hF
  -- the reference answers q
  have ref : ∀ q : Int, (∀ σ2, σ2 = sg_w σ 88 0 0 → V_byteAt σ a b (fun q' σ' => q' = q ∧ σ' = σ2)) → wx z 1 215 0 [(0, .inr (.inr (.ref 88))), (1, .inl a), (2, .inl b)] [] σ (lwA (fun q' σ' => q' = q ∧ lwV σ')) := fun q hq => by
    refine wk_post (w_byteAt z σ a b (fun q' σ' => q' = q ∧ σ' = sg_w σ 88 0 0) ra rb (hq _ rfl)) ?_
    rintro v σ' ⟨q', e, r, f9, w1, w2⟩
    exact ⟨q', e, r, w1, lw_1088 hI w2, lkV_F h.2 f9 rfl⟩
  have no : v_hasCome σ a = 0 → wx z 1 215 0 [(0, .inr (.inr (.ref 88))), (1, .inl a), (2, .inl b)] [] σ (lwA (fun q' σ' => q' = -4 ∧ lwV σ')) := fun hc => ref (-4) (fun σ2 e2 => by
    unfold V_byteAt
    intro σ3 e3
    exact ⟨fun w => absurd hc w, fun _ => ⟨rfl, by rw [e2, e3]⟩⟩)
  have p1 : p_cAt51 σ b := ⟨fun _ => trivial, fun y => ⟨fun _ => trivial, fun y2 => ⟨⟨y, y2⟩, trivial⟩⟩⟩
  have p2 : p_cAt67 σ b := ⟨fun _ => trivial, fun y => ⟨fun _ => trivial, fun y2 => ⟨⟨y, y2⟩, trivial⟩⟩⟩
  refine wk_post (w_cByteAt z σ a b (fun q σ1 => wx z 1 215 0 [(0, .inr (.inr (.ref 88))), (1, .inl a), (2, .inl b)] [] σ (lwA (fun q' σ' => q' = q ∧ lwV σ'))) ra rb ?_) (by rintro v σ' ⟨q, e, r, f9, w⟩; rw [← f9]; exact ⟨q, e, r, w⟩)
  unfold V_cByteAt
  refine ⟨fun a0 => ⟨fun y => no ?_, fun y => ⟨fun y2 => ?_, fun y2 => no ?_⟩⟩, fun a0 => ⟨fun y => no ?_, fun y => ⟨fun y2 => ?_, fun y2 => no ?_⟩⟩⟩
  · unfold v_hasCome
    rw [if_pos a0, ← n1, if_pos y]
  · rw [n1] at y
    obtain ⟨q1, q2, v, q3, q4, c, d, -⟩ : sg_g σ 45 10 = sg_g σ 88 53 ∧ sg_g σ 88 53 = 0 ∧ ∃ v, (txF (kT σ) v).length ≤ 79000 ∧ (imF (kT σ) v).length ≤ 3001 ∧ cShw 49 51 52 σ (kT σ) v ∧ rShw 76 0 σ (kT σ) v ∧ vkF (kT σ) v := by
      rcases n2 with q | ⟨q1, q | q⟩
      · exact absurd q y
      · exact absurd (q1.symm.trans y2) q
      · exact ⟨q1, q⟩
    have hc : v_hasCome σ a = 1 := by unfold v_hasCome; rw [if_pos a0, if_neg y, if_neg (fun w => w q2)]
    have c1 := c.1
    have d1 := d.1
    have go : ∀ q : Int, ((¬ (0 ≤ b ∧ b < (txF (kT σ) v).length ∧ b < 2000) → q = -1) ∧ ((0 ≤ b ∧ b < (txF (kT σ) v).length ∧ b < 2000) → q = sg_g σ 136 b)) → wx z 1 215 0 [(0, .inr (.inr (.ref 88))), (1, .inl a), (2, .inl b)] [] σ (lwA (fun q' σ' => q' = q ∧ lwV σ')) := fun q hq => ref q (fun σ2 e2 => by
      unfold V_byteAt
      intro σ3 e3
      refine ⟨fun _ v7 e7 r7 => ?_, fun w => absurd (hc.symm.trans w) (by decide)⟩
      rw [if_pos a0] at e7
      refine ⟨⟨by omega, by omega⟩, fun w => ⟨(hq.1 (fun p => ?_)).symm, by rw [e2, e3]⟩, fun w => ⟨fun w2 => ⟨(hq.1 (fun p => by omega)).symm, by rw [e2, e3]⟩, fun w2 v15 e15 r15 => ?_⟩⟩
      · unfold v_in at w
        rw [if_neg (by omega), if_neg (by omega)] at w
        cases w
      · have bb : 0 ≤ b ∧ b < (txF (kT σ) v).length := by
          unfold v_in at w
          split at w
          · exact absurd rfl w
          · split at w
            · exact absurd rfl w
            · omega
        rw [if_pos a0] at e15
        refine ⟨⟨by omega, by omega⟩, ⟨by omega, by omega⟩, ?_, by rw [e2, e3]⟩
        rw [e15, Int.add_zero]
        exact (hq.2 ⟨bb.1, bb.2, w2⟩).symm)
    refine ⟨fun b0 => go (-1) ⟨fun _ => rfl, fun w => by omega⟩, fun b0 v5 e5 r5 => ⟨fun bl => ⟨p1, go _ ⟨fun w => ?_, fun w => ?_⟩⟩, fun bl => go (-1) ⟨fun _ => rfl, fun w => ?_⟩⟩⟩
    · exfalso
      rw [c1] at e5
      split at e5 <;> omega
    · obtain ⟨x, hx⟩ : ∃ x, (txF (kT σ) v)[b.toNat]? = some x := ⟨_, List.getElem?_eq_getElem (by omega)⟩
      have t1 := c.2.1 b.toNat x hx (by omega)
      have t2 := d.2 b.toNat x hx
      rw [show ((b.toNat : Nat) : Int) = b by omega] at t1 t2
      rw [Int.zero_add] at t2
      unfold v_cAt51
      rw [if_neg (by omega), if_neg (by omega), t1, t2]
      exact a255 (tx_r (List.mem_of_getElem? hx))
    · exfalso
      rw [c1] at e5
      split at e5 <;> omega
  · rw [n1] at y
    unfold v_hasCome
    rw [if_pos a0, if_neg y]
    rcases n2 with q | ⟨q1, q⟩
    · exact absurd q y
    · rw [if_pos (by rw [← q1]; exact y2)]
  · unfold v_hasCome
    rw [if_neg a0, ← g1, if_pos y]
  · rw [g1] at y
    obtain ⟨q1, q2, v, q3, q4, c, d, -⟩ : sg_g σ 61 10 = sg_g σ 88 83 ∧ sg_g σ 88 83 = 0 ∧ ∃ v, (txF (kT σ) v).length ≤ 79000 ∧ (imF (kT σ) v).length ≤ 6001 ∧ cShw 65 67 68 σ (kT σ) v ∧ rShw 77 80000 σ (kT σ) v ∧ vkF (kT σ) v := by
      rcases g2 with q | ⟨q1, q | q⟩
      · exact absurd q y
      · exact absurd (q1.symm.trans y2) q
      · exact ⟨q1, q⟩
    have hc : v_hasCome σ a = 1 := by unfold v_hasCome; rw [if_neg a0, if_neg y, if_neg (fun w => w q2)]
    have c1 := c.1
    have d1 := d.1
    have go : ∀ q : Int, ((¬ (0 ≤ b ∧ b < (txF (kT σ) v).length ∧ b < 2000) → q = -1) ∧ ((0 ≤ b ∧ b < (txF (kT σ) v).length ∧ b < 2000) → q = sg_g σ 136 (b + 80000))) → wx z 1 215 0 [(0, .inr (.inr (.ref 88))), (1, .inl a), (2, .inl b)] [] σ (lwA (fun q' σ' => q' = q ∧ lwV σ')) := fun q hq => ref q (fun σ2 e2 => by
      unfold V_byteAt
      intro σ3 e3
      refine ⟨fun _ v7 e7 r7 => ?_, fun w => absurd (hc.symm.trans w) (by decide)⟩
      rw [if_neg a0] at e7
      refine ⟨⟨by omega, by omega⟩, fun w => ⟨(hq.1 (fun p => ?_)).symm, by rw [e2, e3]⟩, fun w => ⟨fun w2 => ⟨(hq.1 (fun p => by omega)).symm, by rw [e2, e3]⟩, fun w2 v15 e15 r15 => ?_⟩⟩
      · unfold v_in at w
        rw [if_neg (by omega), if_neg (by omega)] at w
        cases w
      · have bb : 0 ≤ b ∧ b < (txF (kT σ) v).length := by
          unfold v_in at w
          split at w
          · exact absurd rfl w
          · split at w
            · exact absurd rfl w
            · omega
        rw [if_neg a0] at e15
        refine ⟨⟨by omega, by omega⟩, ⟨by omega, by omega⟩, ?_, by rw [e2, e3]⟩
        rw [e15]
        exact (hq.2 ⟨bb.1, bb.2, w2⟩).symm)
    refine ⟨fun b0 => go (-1) ⟨fun _ => rfl, fun w => by omega⟩, fun b0 v5 e5 r5 => ⟨fun bl => ⟨p2, go _ ⟨fun w => ?_, fun w => ?_⟩⟩, fun bl => go (-1) ⟨fun _ => rfl, fun w => ?_⟩⟩⟩
    · exfalso
      rw [c1] at e5
      split at e5 <;> omega
    · obtain ⟨x, hx⟩ : ∃ x, (txF (kT σ) v)[b.toNat]? = some x := ⟨_, List.getElem?_eq_getElem (by omega)⟩
      have t1 := c.2.1 b.toNat x hx (by omega)
      have t2 := d.2 b.toNat x hx
      rw [show ((b.toNat : Nat) : Int) = b by omega] at t1 t2
      rw [Int.add_comm 80000 b] at t2
      unfold v_cAt67
      rw [if_neg (by omega), if_neg (by omega), t1, t2]
      exact a255 (tx_r (List.mem_of_getElem? hx))
    · exfalso
      rw [c1] at e5
      split at e5 <;> omega
  · rw [g1] at y
    unfold v_hasCome
    rw [if_neg a0, if_neg y]
    rcases g2 with q | ⟨q1, q⟩
    · exact absurd q y
    · rw [if_pos (by rw [← q1]; exact y2)]
end LVS
