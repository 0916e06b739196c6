/-! flat() of the reference is safe. -/
section GI
variable {A : aT} {D : List aDf} {T B : Int → Int} {lev : Int → Nat} {r : Int}
theorem m_flE {σ : sg_S} {m : Nat} {tys : List (Int × Int × Int)} {Q : sg_S → Prop} (hX : pgX σ A D T B) (hN : fN σ) (h : fTop A D T B lev r σ m tys) (e0 : sg_g σ 88 73 = 0) (k15 : A.2.1 (sg_g σ 126 m) = 15) (k : ∀ σ', fQ A D T B lev r σ σ' → Q σ') : V_flatEach σ m Q := by
  have hh := h
  obtain ⟨fm, j, f, L, sc, X, h1, h2, h3, h4, h5, h6, h7, h8⟩ := h
  rw [fK_15 k15] at h7
  obtain ⟨bd, tl, ea, q⟩ := h7
  rcases q with ⟨i, q1, q2, -⟩ | ⟨ts, q1, -⟩ | ⟨mm, q1, -⟩
  · by_cases c : i = (A.2.2.2.2.2 (sg_g σ 126 m)).length
    · exact m_eB hX hN hh e0 k15 (by omega) k
    · exact m_eA hX hN hh e0 k15 ⟨by omega, by omega⟩ k
  · exact m_eC hX hN hh e0 k15 q1 k
  · exact m_eD hX hN hh e0 k15 q1 k
theorem m_go {σ : sg_S} {Q : sg_S → Prop} (hX : pgX σ A D T B) (hlv : lvP A D lev 0 r) (hI : fIv A D T B lev r σ) (h0 : 0 < sg_g σ 88 62) (e0 : sg_g σ 88 73 = 0) (k : ∀ σ', fQ A D T B lev r σ σ' → Q σ') : V_goFlat σ Q := by
  obtain ⟨hN, ⟨h1, -⟩ | ⟨m, tys, h⟩⟩ := hI
  · omega
  · exact m_goF hX hlv hN h e0 (fun k3 => m_flIf hX hN h e0 k3 (fun σ' hq _ => k σ' hq)) (fun k15 => m_flE hX hN h e0 k15 (fun σ' hq _ => k σ' hq)) k
theorem q_flat {σ : sg_S} {Q : Int → sg_S → Prop} (hR : sg_g σ 88 28 = 0 ∨ (pgX σ A D T B ∧ sg_g σ 88 27 = r ∧ tyN A (kDl D []) T B 201 [] r ∧ frA A (aRt D ++ [r]))) (h82 : 0 ≤ sg_g σ 88 82 ∧ sg_g σ 88 82 ≤ 20) (h77 : 0 ≤ sg_g σ 88 77 ∧ sg_g σ 88 77 ≤ 80000) (k : ∀ q σ', sg_F [119, 120, 121, 126, 127, 128, 133, 134, 135, 136, 137, 138, 139, 140, 141, 142, 143, 144, 145, 146, 147, 148, 149, 150, 151, 1088, 47088, 50088, 63088, 71088, 74088, 78088, 79088, 82088, 83088, 84088, 85088, 86088, 87088, 88088, 92088, 94088, 100088, 103088, 104088] σ σ' → (0 ≤ sg_g σ' 88 82 ∧ sg_g σ' 88 82 ≤ 20) → (0 ≤ sg_g σ' 88 77 ∧ sg_g σ' 88 77 ≤ 80000) → Q q σ') : V_flat σ Q := by
  unfold V_flat
  intro σ1 e1
  have f1 : sg_F [1088] σ σ1 := by rw [e1]; exact sg_F_w (sg_F_r _ _) rfl _
  have fin1 : ∀ q, Q q σ1 := fun q => k q σ1 (sg_F_m f1 rfl) (by rw [sg_F_g f1 (by rfl)]; exact h82) (by rw [sg_F_g f1 (by rfl)]; exact h77)
  refine ⟨fun c28 => ⟨fun c82 => ?_, fun _ => fin1 _⟩, fun _ => fin1 _⟩
  rcases hR with hR | ⟨hX, hr, hty, hfr⟩
  · exact absurd hR c28
  obtain ⟨lev, hlv⟩ := lvP_ex hfr
  obtain ⟨hP, hD, eT, eB, hA, hdt⟩ := id hX
  obtain ⟨L0, g1, g2, g3⟩ := hlv.2
  have hst : stN A D T B lev D.length 201 L0 [] r := ⟨by rw [List.take_of_length_le (Nat.le_refl _)]; exact hty, g1, g2, fun y hy => ⟨(g3 y hy).1, by have := (g3 y hy).2; omega⟩, fun p hp => (by cases hp)⟩
  obtain ⟨w1, w2, w3, -⟩ := stN_w hst
  refine ⟨⟨by omega, by omega⟩, fun σ7 e7 σ10 e10 σ13 e13 σ16 e16 σ19 e19 σ22 e22 σ25 e25 σ28 e28 σ31 e31 σ34 e34 σ37 e37 => ?_⟩
  have F37 : sg_F [1088, 63088, 71088, 74088, 82088, 83088, 85088, 86088, 87088, 88088, 92088, 100088] σ σ37 := by
    rw [e37, e34, e31, e28, e25, e22, e19, e16, e13, e10, e7]
    exact sg_F_w (sg_F_w (sg_F_w (sg_F_w (sg_F_w (sg_F_w (sg_F_w (sg_F_w (sg_F_w (sg_F_w (sg_F_w (sg_F_m f1 rfl) rfl _) rfl _) rfl _) rfl _) rfl _) rfl _) rfl _) rfl _) rfl _) rfl _) rfl _
  have z : sg_R 0 := ⟨by decide, by decide⟩
  have c73 : sg_g σ37 88 73 = 0 := by rw [e37, sg_gw_e _ _ _ _ z]
  have c99 : sg_g σ37 88 99 = 0 := by rw [e37, sg_gw_k _ _ _ _ _ _ (by decide), e34, sg_gw_e _ _ _ _ z]
  have c70 : sg_g σ37 88 70 = 0 := by rw [e37, sg_gw_k _ _ _ _ _ _ (by decide), e34, sg_gw_k _ _ _ _ _ _ (by decide), e31, sg_gw_e _ _ _ _ z]
  have c62 : sg_g σ37 88 62 = 0 := by rw [e37, sg_gw_k _ _ _ _ _ _ (by decide), e34, sg_gw_k _ _ _ _ _ _ (by decide), e31, sg_gw_k _ _ _ _ _ _ (by decide), e28, sg_gw_e _ _ _ _ z]
  have c91 : sg_g σ37 88 91 = 0 := by rw [e37, sg_gw_k _ _ _ _ _ _ (by decide), e34, sg_gw_k _ _ _ _ _ _ (by decide), e31, sg_gw_k _ _ _ _ _ _ (by decide), e28, sg_gw_k _ _ _ _ _ _ (by decide), e25, sg_gw_e _ _ _ _ z]
  have c87 : sg_g σ37 88 87 = 0 := by rw [e37, sg_gw_k _ _ _ _ _ _ (by decide), e34, sg_gw_k _ _ _ _ _ _ (by decide), e31, sg_gw_k _ _ _ _ _ _ (by decide), e28, sg_gw_k _ _ _ _ _ _ (by decide), e25, sg_gw_k _ _ _ _ _ _ (by decide), e22, sg_gw_e _ _ _ _ z]
  have c85 : sg_g σ37 88 85 = 0 := by rw [e37, sg_gw_k _ _ _ _ _ _ (by decide), e34, sg_gw_k _ _ _ _ _ _ (by decide), e31, sg_gw_k _ _ _ _ _ _ (by decide), e28, sg_gw_k _ _ _ _ _ _ (by decide), e25, sg_gw_k _ _ _ _ _ _ (by decide), e22, sg_gw_k _ _ _ _ _ _ (by decide), e19, sg_gw_k _ _ _ _ _ _ (by decide), e16, sg_gw_e _ _ _ _ z]
  have c84 : sg_g σ37 88 84 = 0 := by rw [e37, sg_gw_k _ _ _ _ _ _ (by decide), e34, sg_gw_k _ _ _ _ _ _ (by decide), e31, sg_gw_k _ _ _ _ _ _ (by decide), e28, sg_gw_k _ _ _ _ _ _ (by decide), e25, sg_gw_k _ _ _ _ _ _ (by decide), e22, sg_gw_k _ _ _ _ _ _ (by decide), e19, sg_gw_k _ _ _ _ _ _ (by decide), e16, sg_gw_k _ _ _ _ _ _ (by decide), e13, sg_gw_e _ _ _ _ z]
  have c82' : sg_g σ37 88 82 = sg_g σ 88 82 + 1 := by rw [e37, sg_gw_k _ _ _ _ _ _ (by decide), e34, sg_gw_k _ _ _ _ _ _ (by decide), e31, sg_gw_k _ _ _ _ _ _ (by decide), e28, sg_gw_k _ _ _ _ _ _ (by decide), e25, sg_gw_k _ _ _ _ _ _ (by decide), e22, sg_gw_k _ _ _ _ _ _ (by decide), e19, sg_gw_k _ _ _ _ _ _ (by decide), e16, sg_gw_k _ _ _ _ _ _ (by decide), e13, sg_gw_k _ _ _ _ _ _ (by decide), e10, sg_gw_k _ _ _ _ _ _ (by decide), e7, sg_gw_e _ _ _ _ ⟨by omega, by omega⟩]
  have N37 : fNw σ37 := ⟨⟨⟨by omega, by omega⟩, ⟨by omega, by omega⟩, ⟨by omega, by omega⟩, ⟨by omega, by omega, by omega⟩, by omega, by omega⟩, fun i a b => by omega, by omega, by omega, by omega⟩
  rw [hr]
  refine ev_B (A := A) (D := D) (T := T) (B := B) (lev := lev) (r := r) (M := 0) (X := 0) N37 c73 (by omega) hst (fun p hp => (by cases hp)) ⟨by decide, by decide, by omega⟩ hA ⟨c70, rfl, rfl, rfl, c99⟩ (fun σ41 h41 f41 => ?_)
  refine ⟨fun n σ46 => ¬ sg_g σ46 88 73 = 0 ∨ (sg_g σ46 88 73 = 0 ∧ fIv A D T B lev r σ46 ∧ n = (fM σ46).toNat), fun σ46 => ¬ sg_g σ46 88 73 = 0 ∨ (sg_g σ46 88 73 = 0 ∧ fIv A D T B lev r σ46 ∧ sg_g σ46 88 62 ≤ 0), ?_, ?_, ?_⟩
  · rcases h41 with h | ⟨h1, h2, -⟩
    · exact ⟨0, Or.inl h⟩
    · exact ⟨_, Or.inr ⟨h1, h2, rfl⟩⟩
  · rintro n σ46 f46 hI
    refine ⟨fun c => ?_, fun c => ⟨fun c2 => Or.inl c2, fun c2 => ?_⟩⟩
    · rcases hI with h | ⟨h1, h2, -⟩
      · exact Or.inl h
      · exact Or.inr ⟨h1, h2, c⟩
    · rcases hI with h | ⟨h1, h2, h3⟩
      · exact absurd c2 h
      have F46 : sg_F [119, 120, 121, 126, 127, 128, 133, 134, 135, 139, 140, 141, 142, 143, 144, 145, 146, 147, 148, 149, 150, 1088, 47088, 50088, 63088, 71088, 74088, 82088, 83088, 85088, 86088, 87088, 88088, 92088, 94088, 100088, 103088, 104088] σ σ46 := sg_F_t (sg_F_m F37 rfl) (sg_F_t (sg_F_m f41 rfl) (sg_F_m f46 rfl))
      obtain ⟨hN, -⟩ := id h2
      obtain ⟨⟨i1, -⟩, -⟩ := hN
      refine m_go (pgX_F F46 rfl hX) hlv h2 c h1 (fun σ' hq _ => ?_)
      rcases hq with h | ⟨q1, q2, q3⟩
      · refine ⟨0, ?_, Or.inl h⟩
        rw [h3]
        unfold fM
        omega
      · refine ⟨_, ?_, Or.inr ⟨q1, q2, rfl⟩⟩
        obtain ⟨⟨⟨j1, -, -, j4, -⟩, -⟩, -⟩ := q2
        rw [h3]
        unfold fM at q3 ⊢
        omega
  · rintro σ46 f46 hX46 σ59 e59
    have F46 : sg_F [119, 120, 121, 126, 127, 128, 133, 134, 135, 139, 140, 141, 142, 143, 144, 145, 146, 147, 148, 149, 150, 1088, 47088, 50088, 63088, 71088, 74088, 82088, 83088, 85088, 86088, 87088, 88088, 92088, 94088, 100088, 103088, 104088] σ σ46 := sg_F_t (sg_F_m F37 rfl) (sg_F_t (sg_F_m f41 rfl) (sg_F_m f46 rfl))
    have f59 : sg_F [84088] σ46 σ59 := by rw [e59]; exact sg_F_w (sg_F_r _ _) rfl _
    have F59 : sg_F [119, 120, 121, 126, 127, 128, 133, 134, 135, 139, 140, 141, 142, 143, 144, 145, 146, 147, 148, 149, 150, 1088, 47088, 50088, 63088, 71088, 74088, 82088, 83088, 84088, 85088, 86088, 87088, 88088, 92088, 94088, 100088, 103088, 104088] σ σ59 := sg_F_t (sg_F_m F46 rfl) (sg_F_m f59 rfl)
    have c83 : sg_g σ59 88 83 = sg_g σ46 88 73 := by rw [e59, sg_gw_e _ _ _ _ (sg_Rg _ _ _)]
    have b82 : 0 ≤ sg_g σ59 88 82 ∧ sg_g σ59 88 82 ≤ 20 := by
      rw [sg_F_g f59 (by rfl), sg_F_g f46 (by rfl), sg_F_g f41 (by rfl)]
      omega
    have fin : ∀ σ63, (0 ≤ sg_g σ63 88 77 ∧ sg_g σ63 88 77 ≤ 80000) → sg_F [136, 137, 138, 151, 78088, 79088] σ59 σ63 → Q (sg_g σ46 88 73) σ63 := fun σ63 h f => k _ σ63 (sg_F_t (sg_F_m F59 rfl) (sg_F_m f rfl)) (by rw [sg_F_g f (by rfl)]; exact b82) h
    rcases hX46 with h | ⟨h1, h2, h3⟩
    · exact m_showE (by rw [c83]; exact h) (fun σ63 a b _ => fin σ63 a b)
    · obtain ⟨hN, hv⟩ := h2
      obtain ⟨⟨i1, i2, i3, i4, i5⟩, -, n1, -⟩ := hN
      rcases hv with ⟨-, hv⟩ | ⟨m, tys, ht⟩
      · have e27 : sg_g σ59 88 27 = r := by rw [sg_F_g F59 (by rfl)]; exact hr
        have g91 : sg_g σ59 88 91 = sg_g σ46 88 91 := sg_F_g f59 (by rfl)
        have g87 : sg_g σ59 88 87 = sg_g σ46 88 87 := sg_F_g f59 (by rfl)
        have w31 := w3.1
        have w32 := w3.2
        refine m_showF (K := (T r).toNat) (by rw [c83]; exact h1) (by rw [e27]; omega) ?_ (by omega) ⟨by omega, by omega⟩ ?_ (fun σ63 a b _ => fin σ63 a b)
        · rw [e27, sg_F_ga (a := 101) F59 rfl, eT]; omega
        · rw [sg_F_ga (a := 133) f59 rfl]
          exact fLx_up (fEx_F f59 rfl) (by omega) hv
      · have := ht.1
        omega
end GI
