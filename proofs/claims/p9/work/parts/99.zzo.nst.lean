/-! nested of the reference is safe. -/
def okX (L : List Nat) : Bool := okT L && !sg_cv L 88 19 && sg_ca L 101 && sg_ca L 102 && sg_ca L 103 && sg_ca L 104 && sg_ca L 105 && sg_ca L 106 && sg_ca L 107 && sg_ca L 108 && sg_ca L 109
theorem dfR_X {L : List Nat} {σ σ' : sg_S} {D : List aDf} (f : sg_F L σ σ') (hL : okX L = true) (h : dfR σ D) : dfR σ' D := by
  simp only [okX, Bool.and_eq_true, Bool.not_eq_true'] at hL
  obtain ⟨⟨⟨⟨⟨⟨⟨⟨⟨⟨l1, l2⟩, l3⟩, l4⟩, l5⟩, l6⟩, l7⟩, l8⟩, l9⟩, l10⟩, l11⟩ := hL
  obtain ⟨a1, a2, a3⟩ := h
  refine ⟨by rw [sg_F_g f l2]; exact a1, a2, fun d x hx => ?_⟩
  obtain ⟨b1, b2, b3, b4, b5, b6⟩ := a3 d x hx
  refine ⟨by rw [sg_F_gal f l5]; exact b1, by rw [sg_F_ga f l6]; exact b2, by rw [sg_F_ga f l7]; exact b3, by rw [sg_F_ga f l8]; exact b4, b5, fun j y hy => ?_⟩
  obtain ⟨c1, c2, c3⟩ := b6 j y hy
  exact ⟨by rw [sg_F_gal f l9]; exact c1, by rw [sg_F_ga f l10]; exact c2, by rw [sg_F_ga f l11]; exact c3⟩
theorem pgX_F {L : List Nat} {σ σ' : sg_S} {A : aT} {D : List aDf} {T B : Int → Int} (f : sg_F L σ σ') (hL : okX L = true) (h : pgX σ A D T B) : pgX σ' A D T B := by
  obtain ⟨a1, a2, a3, a4, a5, a6⟩ := h
  have hL' := hL
  simp only [okX, Bool.and_eq_true, Bool.not_eq_true'] at hL
  obtain ⟨⟨⟨⟨⟨⟨⟨⟨⟨⟨l1, l2⟩, l3⟩, l4⟩, l5⟩, l6⟩, l7⟩, l8⟩, l9⟩, l10⟩, l11⟩ := hL
  exact ⟨trT_F a1 f l1, dfR_X f hL' a2, fun n => by rw [sg_F_ga f l3]; exact a3 n, fun n => by rw [sg_F_ga f l4]; exact a4 n, a5, a6⟩
theorem fO_r {σ : sg_S} {A : aT} {D : List aDf} {T B : Int → Int} {r : Int} (h : tyN A (kDl D []) T B 201 [] r) : fO A D T B σ r := ⟨D.length, 201, [], by rw [List.take_of_length_le (Nat.le_refl _)]; exact h, fun p hp => by cases hp⟩
theorem q_nested {σ : sg_S} {A : aT} {D : List aDf} {T B : Int → Int} {r : Int} {Q : Int → sg_S → Prop} (hR : sg_g σ 88 28 = 0 ∨ (pgX σ A D T B ∧ sg_g σ 88 27 = r ∧ tyN A (kDl D []) T B 201 [] r)) (h52 : 0 ≤ sg_g σ 88 52 ∧ sg_g σ 88 52 ≤ 20) (h76 : 0 ≤ sg_g σ 88 76 ∧ sg_g σ 88 76 ≤ 80000) (k : ∀ q σ', sg_F [122, 123, 124, 125, 126, 127, 128, 129, 130, 131, 132, 133, 134, 135, 136, 137, 138, 1088, 52088, 53088, 54088, 55088, 56088, 57088, 61088, 63088, 71088, 74088, 77088, 79088] σ σ' → (0 ≤ sg_g σ' 88 52 ∧ sg_g σ' 88 52 ≤ 20) → (0 ≤ sg_g σ' 88 76 ∧ sg_g σ' 88 76 ≤ 80000) → Q q σ') : V_nested σ Q := by
  unfold V_nested
  intro σ1 e1
  have F1 : sg_F [1088] σ σ1 := by rw [e1]; exact sg_F_w (sg_F_r _ _) rfl _
  have s1 : ∀ q, Q q σ1 := fun q => k q σ1 (sg_F_m F1 rfl) (by rw [sg_F_g F1 (by rfl)]; exact h52) (by rw [sg_F_g F1 (by rfl)]; exact h76)
  refine ⟨fun th => ⟨fun n20 => ⟨⟨by omega, by omega⟩, ?_⟩, fun _ => s1 _⟩, fun _ => s1 _⟩
  obtain ⟨hX, e27, hr⟩ : pgX σ A D T B ∧ sg_g σ 88 27 = r ∧ tyN A (kDl D []) T B 201 [] r := by
    rcases hR with h | h
    · exact absurd h th
    · exact h
  intro σ7 e7 σ10 e10 σ13 e13 σ16 e16 σ19 e19 σ22 e22 σ25 e25 σ28 e28
  have F28 : sg_F [1088, 52088, 53088, 55088, 57088, 61088, 63088, 71088, 74088] σ σ28 := by
    rw [e28, e25, e22, e19, e16, e13, e10, e7, e1]
    exact sg_F_w (sg_F_w (sg_F_w (sg_F_w (sg_F_w (sg_F_w (sg_F_w (sg_F_w (sg_F_w (sg_F_r _ _) rfl _) rfl _) rfl _) rfl _) rfl _) rfl _) rfl _) rfl _) rfl _
  have w52 : sg_g σ28 88 52 = sg_g σ 88 52 + 1 := by
    rw [e28, sg_gw_k _ _ _ _ _ _ (by decide), e25, sg_gw_k _ _ _ _ _ _ (by decide), e22, sg_gw_k _ _ _ _ _ _ (by decide), e19, sg_gw_k _ _ _ _ _ _ (by decide), e16, sg_gw_k _ _ _ _ _ _ (by decide), e13, sg_gw_k _ _ _ _ _ _ (by decide), e10, sg_gw_k _ _ _ _ _ _ (by decide), e7, sg_gw_e _ _ _ _ ⟨by omega, by omega⟩]
  have w54 : sg_g σ28 88 54 = 0 := by
    rw [e28, sg_gw_k _ _ _ _ _ _ (by decide), e25, sg_gw_k _ _ _ _ _ _ (by decide), e22, sg_gw_k _ _ _ _ _ _ (by decide), e19, sg_gw_k _ _ _ _ _ _ (by decide), e16, sg_gw_k _ _ _ _ _ _ (by decide), e13, sg_gw_e _ _ _ _ (by decide)]
  have w56 : sg_g σ28 88 56 = 0 := by
    rw [e28, sg_gw_k _ _ _ _ _ _ (by decide), e25, sg_gw_k _ _ _ _ _ _ (by decide), e22, sg_gw_k _ _ _ _ _ _ (by decide), e19, sg_gw_k _ _ _ _ _ _ (by decide), e16, sg_gw_e _ _ _ _ (by decide)]
  have w60 : sg_g σ28 88 60 = 0 := by
    rw [e28, sg_gw_k _ _ _ _ _ _ (by decide), e25, sg_gw_k _ _ _ _ _ _ (by decide), e22, sg_gw_k _ _ _ _ _ _ (by decide), e19, sg_gw_e _ _ _ _ (by decide)]
  have w62 : sg_g σ28 88 62 = 0 := by
    rw [e28, sg_gw_k _ _ _ _ _ _ (by decide), e25, sg_gw_k _ _ _ _ _ _ (by decide), e22, sg_gw_e _ _ _ _ (by decide)]
  have w70 : sg_g σ28 88 70 = 0 := by
    rw [e28, sg_gw_k _ _ _ _ _ _ (by decide), e25, sg_gw_e _ _ _ _ (by decide)]
  have w73 : sg_g σ28 88 73 = 0 := by rw [e28, sg_gw_e _ _ _ _ (by decide)]
  have hA := hX.2.2.2.2.1
  rw [e27]
  have O28 : fO A D T B σ28 r := fO_r hr
  obtain ⟨u1, u2, u3⟩ := fO_w O28
  refine m_begin (by omega) ⟨by omega, by omega⟩ (by omega) (fun σ32 b1 b2 b3 b4 b5 _ => ?_)
  have X32 : pgX σ32 A D T B := pgX_F (sg_F_t (L := [126, 127, 128, 129, 130, 131, 132, 1088, 52088, 53088, 55088, 57088, 61088, 63088, 71088, 74088]) (sg_F_m F28 rfl) (sg_F_m b5 rfl)) rfl hX
  have i32 : ¬ sg_g σ32 88 73 = 0 ∨ (sg_g σ32 88 73 = 0 ∧ nIv A D T B r σ32) := by
    rcases b1 with b1 | ⟨b1, b6, b7⟩
    · exact Or.inl b1
    · right
      rw [w62] at b3
      obtain ⟨c1, c2, c3, c4⟩ := b3
      have g56 : sg_g σ32 88 56 = 0 := (sg_F_g b5 (by rfl)).trans w56
      have g60 : sg_g σ32 88 60 = 0 := (sg_F_g b5 (by rfl)).trans w60
      have g70 : sg_g σ32 88 70 = 0 := (sg_F_g b5 (by rfl)).trans w70
      refine ⟨b1, ⟨⟨by omega, by omega, by omega, by omega⟩, by omega, by omega, by omega, b7⟩, Or.inr ⟨0, [], ?_⟩⟩
      have z0 : ((0 : Nat) : Int) = 0 := rfl
      refine ⟨by omega, by rw [z0, c3, w70]; decide, by rw [z0, c3, w70, g70]; rfl, fun i y h => (by cases h), by rw [z0, c1]; exact fO_r hr, by rw [z0, c1, c2, c4]; exact fS_0 u1, ?_⟩
      rw [z0, c1, c3, w70]
      exact ⟨rfl, rfl⟩
  refine ⟨fun n σ37 => ¬ sg_g σ37 88 73 = 0 ∧ True ∨ (sg_g σ37 88 73 = 0 ∧ nIv A D T B r σ37 ∧ n = (nM A σ37).toNat + 1), fun σ37 => ¬ sg_g σ37 88 73 = 0 ∨ (sg_g σ37 88 73 = 0 ∧ nIv A D T B r σ37 ∧ sg_g σ37 88 62 = 0), ?_, ?_, ?_⟩
  · rcases i32 with h | ⟨h, h'⟩
    · exact ⟨0, Or.inl ⟨h, trivial⟩⟩
    · exact ⟨_, Or.inr ⟨h, h', rfl⟩⟩
  · rintro n σ37 f37 hI
    refine ⟨fun z => ?_, fun z => ⟨fun y => Or.inl y, fun y => ?_⟩⟩
    · rcases hI with ⟨h, -⟩ | ⟨h1, h2, h3⟩
      · exact Or.inl h
      · have := h2.1.1.2.2.1
        exact Or.inr ⟨h1, h2, by omega⟩
    · rcases hI with ⟨h, -⟩ | ⟨h1, h2, h3⟩
      · exact absurd y h
      · have X37 : pgX σ37 A D T B := pgX_F f37 rfl X32
        obtain ⟨hC, h | ⟨m, ty, hT⟩⟩ := h2
        · omega
        · have fin : ∀ σ', nQ A D T B r σ37 σ' → ∃ m, m < n ∧ (¬ sg_g σ' 88 73 = 0 ∧ True ∨ (sg_g σ' 88 73 = 0 ∧ nIv A D T B r σ' ∧ m = (nM A σ').toNat + 1)) := fun σ' hq => by
            rcases hq with q | ⟨q1, q2, q3⟩
            · exact ⟨0, by omega, Or.inl ⟨q, trivial⟩⟩
            · have q4 := q2.1
              obtain ⟨⟨d1, d2, d3, d4⟩, d5, d6, d7, d8⟩ := q4
              have := nM_le A σ'
              exact ⟨_, by omega, Or.inr ⟨q1, q2, rfl⟩⟩
          exact m_goN X37 hT hC y (fun k15 => m_goE X37 hT hC y k15 (fun σ' hq _ _ => fin σ' hq)) (fun σ' hq _ => fin σ' hq)
  · rintro σ37 f37 hx σ50 e50
    have F50 : sg_F [122, 123, 124, 125, 126, 127, 128, 129, 130, 131, 132, 133, 134, 135, 136, 137, 138, 1088, 52088, 53088, 54088, 55088, 56088, 57088, 61088, 63088, 71088, 74088, 77088, 79088] σ σ50 := by
      rw [e50]
      exact sg_F_w (sg_F_t (sg_F_t (sg_F_m F28 rfl) (sg_F_m b5 rfl)) (sg_F_m f37 rfl)) rfl _
    have g53 : sg_g σ50 88 53 = sg_g σ37 88 73 := by rw [e50, sg_gw_e _ _ _ _ (sg_Rg _ _ _)]
    have g52 : sg_g σ50 88 52 = sg_g σ 88 52 + 1 := by rw [e50, sg_gw_k _ _ _ _ _ _ (by decide), sg_F_g f37 (by rfl), sg_F_g b5 (by rfl)]; exact w52
    have fin : ∀ σ', (0 ≤ sg_g σ' 88 76 ∧ sg_g σ' 88 76 ≤ 80000) → sg_F [136, 137, 138, 77088, 79088] σ50 σ' → sg_F [136, 137, 138, 77088, 79088] σ50 σ' → Q (sg_g σ37 88 73) σ' := fun σ' x1 x2 _ => k _ σ' (sg_F_t F50 (sg_F_m x2 rfl)) (by rw [sg_F_g x2 (by rfl)]; omega) x1
    rcases hx with h | ⟨h1, h2, h3⟩
    · exact m_showZ (by rw [g53]; exact h) fin
    · have F37 : sg_F [54088] σ37 σ50 := by rw [e50]; exact sg_F_w (sg_F_r _ _) rfl _
      obtain ⟨hC, h | ⟨m, ty, hT⟩⟩ := h2
      · obtain ⟨⟨d1, d2, d3, d4⟩, d5, d6, d7, d8⟩ := hC
        have g27 : sg_g σ50 88 27 = r := (sg_F_g F50 (by rfl)).trans e27
        have g101 : sg_g σ50 101 r = T r := by rw [sg_F_ga F50 rfl]; exact hX.2.2.1 r
        have tr := u3.1
        have tr3 := u3.2
        refine m_showV (K := (T r).toNat) (by rw [g53]; exact h1) (by rw [g27]; omega) (by rw [g27, g101]; omega) (by omega) ⟨?_, ?_⟩ ?_ fin
        · rw [sg_F_g F37 (by rfl)]; omega
        · rw [sg_F_g F37 (by rfl)]; omega
        · rw [sg_F_ga F37 rfl]
          exact vU_up (nEx_F F37 rfl) h.2
      · have := hT.1
        omega
