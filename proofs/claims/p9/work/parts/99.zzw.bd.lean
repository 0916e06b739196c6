/-! works, begin, leave of nested runs of the reference, exactly. -/
theorem x_works {σ : sg_S} {a w : Int} {Q : sg_S → Prop} (h0 : sg_g σ 88 73 = 0) (hw : sg_g σ 88 54 = w) (hw2 : 0 ≤ w ∧ w ≤ 3000) (ha : 0 ≤ a ∧ a ≤ 8040200) (kF : ¬ w + a ≤ 3000 → ∀ σ', sg_g σ' 88 73 = 7 → sg_g σ' 88 54 = w → sg_F [55088, 74088] σ σ' → Q σ') (kS : w + a ≤ 3000 → ∀ σ', sg_g σ' 88 73 = 0 → sg_g σ' 88 54 = w + a → sg_F [55088, 74088] σ σ' → Q σ') : V_works σ a Q := by
  unfold V_works
  rw [hw]
  refine ⟨fun σ4 => (w + a ≤ 3000 ∧ σ4 = σ) ∨ (¬ w + a ≤ 3000 ∧ sg_g σ4 88 73 = 7), ⟨fun h => absurd h0 h, fun _ => ⟨⟨by omega, by omega⟩, fun h2 => Or.inl ⟨h2, rfl⟩, fun h2 σ19 e19 => Or.inr ⟨by omega, by rw [e19, sg_gw_e _ _ _ _ (by decide)]⟩⟩⟩, ?_⟩
  rintro σ4 f4 (⟨h1, rfl⟩ | ⟨h1, h2⟩)
  · refine ⟨fun h => absurd h0 h, fun _ => ⟨⟨by omega, by omega⟩, ⟨by omega, by omega⟩, fun σ14 e14 => kS h1 σ14 ?_ ?_ ?_⟩⟩
    · rw [e14, sg_gw_k _ _ _ _ _ _ (by decide)]; exact h0
    · rw [e14, sg_gw_e _ _ _ _ ⟨by omega, by omega⟩]
    · rw [e14]; exact sg_F_w (sg_F_r _ _) rfl _
  · refine ⟨fun _ => ⟨⟨by omega, by omega⟩, fun σ9 e9 => kF h1 σ9 ?_ ?_ ?_⟩, fun h => by rw [h2] at h; exact absurd h (by decide)⟩
    · rw [e9, sg_gw_k _ _ _ _ _ _ (by decide)]; exact h2
    · rw [e9, sg_gw_e _ _ _ _ ⟨by omega, by omega⟩]; omega
    · rw [e9]; exact sg_F_w (sg_F_m f4 rfl) rfl _
abbrev bgL : List Nat := [126, 127, 128, 129, 130, 131, 132, 55088, 63088, 74088]
theorem x_begin {σ : sg_S} {n w : Int} {Q : sg_S → Prop} (h0 : sg_g σ 88 73 = 0) (hw : sg_g σ 88 54 = w) (hw2 : 0 ≤ w ∧ w ≤ 3000) (hn : sg_R n) (hf : 0 ≤ sg_g σ 88 62 ∧ sg_g σ 88 62 < 4000) (kF : ¬ w + 1 ≤ 3000 → ∀ σ', sg_g σ' 88 73 = 7 → sg_g σ' 88 54 = w → sg_F bgL σ σ' → Q σ') (kS : w + 1 ≤ 3000 → ∀ σ', sg_g σ' 88 73 = 0 → sg_g σ' 88 54 = w + 1 → sg_g σ' 88 62 = sg_g σ 88 62 + 1 → (sg_g σ' 126 (sg_g σ 88 62) = n ∧ sg_g σ' 127 (sg_g σ 88 62) = 0 ∧ sg_g σ' 128 (sg_g σ 88 62) = sg_g σ 88 70 ∧ sg_g σ' 129 (sg_g σ 88 62) = 1 ∧ sg_g σ' 130 (sg_g σ 88 62) = 0 ∧ sg_g σ' 131 (sg_g σ 88 62) = 0 ∧ sg_g σ' 132 (sg_g σ 88 62) = 0) → (∀ i, ¬ i = sg_g σ 88 62 → sg_g σ' 126 i = sg_g σ 126 i ∧ sg_g σ' 127 i = sg_g σ 127 i ∧ sg_g σ' 128 i = sg_g σ 128 i ∧ sg_g σ' 129 i = sg_g σ 129 i ∧ sg_g σ' 130 i = sg_g σ 130 i ∧ sg_g σ' 131 i = sg_g σ 131 i ∧ sg_g σ' 132 i = sg_g σ 132 i) → sg_F bgL σ σ' → Q σ') : V_begin σ n Q := by
  have main : ∀ σ2, sg_F [55088, 74088] σ σ2 → ∀ P : Prop, (∀ σ30, sg_g σ30 88 73 = sg_g σ2 88 73 → sg_g σ30 88 54 = sg_g σ2 88 54 → sg_g σ30 88 62 = sg_g σ 88 62 + 1 → (sg_g σ30 126 (sg_g σ 88 62) = n ∧ sg_g σ30 127 (sg_g σ 88 62) = 0 ∧ sg_g σ30 128 (sg_g σ 88 62) = sg_g σ 88 70 ∧ sg_g σ30 129 (sg_g σ 88 62) = 1 ∧ sg_g σ30 130 (sg_g σ 88 62) = 0 ∧ sg_g σ30 131 (sg_g σ 88 62) = 0 ∧ sg_g σ30 132 (sg_g σ 88 62) = 0) → (∀ i, ¬ i = sg_g σ 88 62 → sg_g σ30 126 i = sg_g σ 126 i ∧ sg_g σ30 127 i = sg_g σ 127 i ∧ sg_g σ30 128 i = sg_g σ 128 i ∧ sg_g σ30 129 i = sg_g σ 129 i ∧ sg_g σ30 130 i = sg_g σ 130 i ∧ sg_g σ30 131 i = sg_g σ 131 i ∧ sg_g σ30 132 i = sg_g σ 132 i) → sg_F bgL σ σ30 → Q σ30) → (0 ≤ (sg_g σ 88 62) ∧ (sg_g σ 88 62) < 4000) ∧ ∀ σ8, σ8 = (sg_w σ2 126 ((sg_g σ 88 62)) (n)) → ∀ σ11, σ11 = (sg_w σ8 127 ((sg_g σ 88 62)) (0)) → ∀ σ14, σ14 = (sg_w σ11 128 ((sg_g σ 88 62)) ((sg_g σ 88 70))) → ∀ σ17, σ17 = (sg_w σ14 129 ((sg_g σ 88 62)) (1)) → ∀ σ20, σ20 = (sg_w σ17 130 ((sg_g σ 88 62)) (0)) → ∀ σ23, σ23 = (sg_w σ20 131 ((sg_g σ 88 62)) (0)) → ∀ σ26, σ26 = (sg_w σ23 132 ((sg_g σ 88 62)) (0)) → sg_R ((sg_g σ 88 62) + 1) ∧ ∀ σ30, σ30 = (sg_w σ26 88 62 (((sg_g σ 88 62) + 1))) → Q σ30 := by
    intro σ2 f2 _ k
    refine ⟨hf, fun σ8 e8 σ11 e11 σ14 e14 σ17 e17 σ20 e20 σ23 e23 σ26 e26 => ⟨⟨by omega, by omega⟩, fun σ30 e30 => ?_⟩⟩
    have f30 : sg_F bgL σ2 σ30 := by
      rw [e30, e26, e23, e20, e17, e14, e11, e8]
      exact sg_F_w (sg_F_w (sg_F_w (sg_F_w (sg_F_w (sg_F_w (sg_F_w (sg_F_w (sg_F_r _ _) rfl _) rfl _) rfl _) rfl _) rfl _) rfl _) rfl _) rfl _
    have G88 : ∀ j, ¬ j = 62 → sg_g σ30 88 j = sg_g σ2 88 j := fun j z => by
      rw [e30, sg_gw_k _ _ _ _ _ _ z, e26, sg_gw_c _ _ _ _ _ _ (by decide), e23, sg_gw_c _ _ _ _ _ _ (by decide), e20, sg_gw_c _ _ _ _ _ _ (by decide), e17, sg_gw_c _ _ _ _ _ _ (by decide), e14, sg_gw_c _ _ _ _ _ _ (by decide), e11, sg_gw_c _ _ _ _ _ _ (by decide), e8, sg_gw_c _ _ _ _ _ _ (by decide)]
    refine k σ30 (G88 73 (by decide)) (G88 54 (by decide)) (by rw [e30, sg_gw_e _ _ _ _ ⟨by omega, by omega⟩]) ⟨?_, ?_, ?_, ?_, ?_, ?_, ?_⟩ (fun i hi => ?_) (sg_F_t (sg_F_m f2 rfl) f30)
    · rw [e30, sg_gw_c _ _ _ _ _ _ (by decide), e26, sg_gw_c _ _ _ _ _ _ (by decide), e23, sg_gw_c _ _ _ _ _ _ (by decide), e20, sg_gw_c _ _ _ _ _ _ (by decide), e17, sg_gw_c _ _ _ _ _ _ (by decide), e14, sg_gw_c _ _ _ _ _ _ (by decide), e11, sg_gw_c _ _ _ _ _ _ (by decide), e8, sg_gw_e _ _ _ _ hn]
    · rw [e30, sg_gw_c _ _ _ _ _ _ (by decide), e26, sg_gw_c _ _ _ _ _ _ (by decide), e23, sg_gw_c _ _ _ _ _ _ (by decide), e20, sg_gw_c _ _ _ _ _ _ (by decide), e17, sg_gw_c _ _ _ _ _ _ (by decide), e14, sg_gw_c _ _ _ _ _ _ (by decide), e11, sg_gw_e _ _ _ _ (by decide)]
    · rw [e30, sg_gw_c _ _ _ _ _ _ (by decide), e26, sg_gw_c _ _ _ _ _ _ (by decide), e23, sg_gw_c _ _ _ _ _ _ (by decide), e20, sg_gw_c _ _ _ _ _ _ (by decide), e17, sg_gw_c _ _ _ _ _ _ (by decide), e14, sg_gw_e _ _ _ _ (sg_Rg _ _ _)]
    · rw [e30, sg_gw_c _ _ _ _ _ _ (by decide), e26, sg_gw_c _ _ _ _ _ _ (by decide), e23, sg_gw_c _ _ _ _ _ _ (by decide), e20, sg_gw_c _ _ _ _ _ _ (by decide), e17, sg_gw_e _ _ _ _ (by decide)]
    · rw [e30, sg_gw_c _ _ _ _ _ _ (by decide), e26, sg_gw_c _ _ _ _ _ _ (by decide), e23, sg_gw_c _ _ _ _ _ _ (by decide), e20, sg_gw_e _ _ _ _ (by decide)]
    · rw [e30, sg_gw_c _ _ _ _ _ _ (by decide), e26, sg_gw_c _ _ _ _ _ _ (by decide), e23, sg_gw_e _ _ _ _ (by decide)]
    · rw [e30, sg_gw_c _ _ _ _ _ _ (by decide), e26, sg_gw_e _ _ _ _ (by decide)]
    · have K : ∀ a, sg_g σ26 a i = sg_g σ2 a i := fun a => by rw [e26, sg_gw_k _ _ _ _ _ _ hi, e23, sg_gw_k _ _ _ _ _ _ hi, e20, sg_gw_k _ _ _ _ _ _ hi, e17, sg_gw_k _ _ _ _ _ _ hi, e14, sg_gw_k _ _ _ _ _ _ hi, e11, sg_gw_k _ _ _ _ _ _ hi, e8, sg_gw_k _ _ _ _ _ _ hi]
      have K2 : ∀ a, ¬ a = 88 → sg_ca [55088, 74088] a = true → a < 1000 → sg_g σ30 a i = sg_g σ a i := fun a ha hca hlt => by rw [e30, sg_gw_c _ _ _ _ _ _ ha, K, sg_F_ga f2 hca (hc := hlt)]
      exact ⟨K2 126 (by decide) rfl (by decide), K2 127 (by decide) rfl (by decide), K2 128 (by decide) rfl (by decide), K2 129 (by decide) rfl (by decide), K2 130 (by decide) rfl (by decide), K2 131 (by decide) rfl (by decide), K2 132 (by decide) rfl (by decide)⟩
  unfold V_begin
  refine x_works h0 hw hw2 ⟨by decide, by decide⟩ (fun z σ2 q1 q2 f2 _ => main σ2 f2 True (fun σ30 y1 y2 _ _ _ y6 => kF z σ30 (by rw [y1]; exact q1) (by rw [y2]; exact q2) y6)) (fun z σ2 q1 q2 f2 _ => main σ2 f2 True (fun σ30 y1 y2 y3 y4 y5 y6 => kS z σ30 (by rw [y1]; exact q1) (by rw [y2]; exact q2) y3 y4 y5 y6))
abbrev lvR : List Nat := [129, 131, 133, 55088, 56088, 63088, 71088, 74088]
/-- what a node's end costs -/
def cstF (σ : sg_S) (K v b c : Int) : Prop := (v_tellsCount K = 0 ∧ ¬ (K = 18 ∨ K = 19 ∨ K = 20) ∧ c = 0) ∨ (¬ v_tellsCount K = 0 ∧ ¬ (K = 18 ∨ K = 19 ∨ K = 20) ∧ (0 ≤ v ∧ v < 9000) ∧ sg_gl σ 124 v = c) ∨ (v_tellsCount K = 0 ∧ (K = 18 ∨ K = 19 ∨ K = 20) ∧ (0 ≤ sg_g σ 133 b ∧ sg_g σ 133 b < 9000) ∧ sg_g σ 123 (sg_g σ 133 b) = c)
theorem x_leave {σ : sg_S} {f n b v c w sp K : Int} {Q : sg_S → Prop} (h0 : sg_g σ 88 73 = 0) (hw : sg_g σ 88 54 = w) (hw2 : 0 ≤ w ∧ w ≤ 3000) (ef : sg_g σ 88 62 - 1 = f) (hf : 0 ≤ f ∧ f < 4000) (en : sg_g σ 126 f = n) (hn : 0 ≤ n ∧ n < 210) (eb : sg_g σ 128 f = b) (hb : 0 ≤ b ∧ b < 12000) (hv : sg_R v) (esp : sg_g σ 129 f = sp) (hsp : 0 ≤ sp ∧ sp ≤ 3000) (hK : sg_g σ 93 n = K) (hcs : cstF σ K v b c) (hc : 0 ≤ c ∧ c ≤ 8040200) (h3 : ¬ f = 0 → (0 ≤ sg_g σ 126 (f - 1) ∧ sg_g σ 126 (f - 1) < 210) ∧ (0 ≤ sg_g σ 129 (f - 1) ∧ sg_g σ 129 (f - 1) ≤ 6000) ∧ (0 ≤ sg_g σ 131 (f - 1) ∧ sg_g σ 131 (f - 1) ≤ 6000)) (kF : ¬ w + c ≤ 3000 → ∀ σ', sg_g σ' 88 73 = 7 → sg_g σ' 88 54 = w → sg_F lvR σ σ' → Q σ') (kS : w + c ≤ 3000 → ∀ σ', sg_g σ' 88 73 = 0 → sg_g σ' 88 54 = w + c → sg_g σ' 88 70 = b + 1 → sg_g σ' 133 b = v → (∀ x, ¬ x = b → sg_g σ' 133 x = sg_g σ 133 x) → sg_g σ' 88 62 = f → (f = 0 → sg_g σ' 88 55 = sp) → (∀ i, ¬ i = f - 1 → sg_g σ' 129 i = sg_g σ 129 i ∧ sg_g σ' 131 i = sg_g σ 131 i) → (¬ f = 0 → (v_isInPlaces σ (f - 1) = 0 → sg_g σ' 129 (f - 1) = sg_g σ 129 (f - 1) + sp ∧ sg_g σ' 131 (f - 1) = sg_g σ 131 (f - 1)) ∧ (¬ v_isInPlaces σ (f - 1) = 0 → sg_g σ' 129 (f - 1) = sg_g σ 129 (f - 1) ∧ sg_g σ' 131 (f - 1) = sg_g σ 131 (f - 1) + sp)) → sg_F lvR σ σ' → Q σ') : V_leave σ v Q := by
  unfold V_leave
  rw [ef, en, eb, hK, esp]
  let P : sg_S → Prop := fun σ7 => (w + c ≤ 3000 ∧ sg_g σ7 88 73 = 0 ∧ sg_g σ7 88 54 = w + c) ∨ (¬ w + c ≤ 3000 ∧ sg_g σ7 88 73 = 7 ∧ sg_g σ7 88 54 = w)
  have hP : ∀ σ7, P σ7 = ((w + c ≤ 3000 ∧ sg_g σ7 88 73 = 0 ∧ sg_g σ7 88 54 = w + c) ∨ (¬ w + c ≤ 3000 ∧ sg_g σ7 88 73 = 7 ∧ sg_g σ7 88 54 = w)) := fun _ => rfl
  have wk : ∀ σ7, sg_g σ7 88 73 = 0 → sg_g σ7 88 54 = w → V_works σ7 c (fun σ48 => sg_F [55088, 74088] σ7 σ48 → P σ48) := fun σ7 q0 q1 => x_works q0 q1 hw2 hc (fun z σ' y1 y2 _ _ => by rw [hP]; exact Or.inr ⟨z, y1, y2⟩) (fun z σ' y1 y2 _ _ => by rw [hP]; exact Or.inl ⟨z, y1, y2⟩)
  have tail : ∀ σ13, sg_F [55088, 74088] σ σ13 → P σ13 → ∀ σ16, σ16 = (sg_w σ13 88 70 (b)) → (0 ≤ b ∧ b < 12000) ∧ ∀ σ20, σ20 = (sg_w σ16 133 (b) (v)) → sg_R (b + 1) ∧ ∀ σ24, σ24 = (sg_w σ20 88 70 ((b + 1))) → ∀ σ27, σ27 = (sg_w σ24 88 62 (f)) → ((¬ f = 0 → sg_R (f - 1) ∧ p_isInPlaces σ ((f - 1)) ∧ (((v_isInPlaces σ ((f - 1))) = 0 → (0 ≤ (f - 1) ∧ (f - 1) < 4000) ∧ ∀ σ35, σ35 = (sg_w σ27 129 ((f - 1)) ((sg_n ((sg_g σ 129 ((f - 1))) + sp)))) → Q σ35) ∧ (¬ (v_isInPlaces σ ((f - 1))) = 0 → (0 ≤ (f - 1) ∧ (f - 1) < 4000) ∧ ∀ σ39, σ39 = (sg_w σ27 131 ((f - 1)) ((sg_n ((sg_g σ 131 ((f - 1))) + sp)))) → Q σ39))) ∧ (f = 0 → ∀ σ42, σ42 = (sg_w σ27 88 55 (sp)) → Q σ42)) := by
    intro σ13 F13 p13 σ16 e16
    refine ⟨hb, fun σ20 e20 => ⟨⟨by omega, by omega⟩, fun σ24 e24 σ27 e27 => ?_⟩⟩
    have F27 : sg_F lvR σ σ27 := by
      rw [e27, e24, e20, e16]
      exact sg_F_w (sg_F_w (sg_F_w (sg_F_w (sg_F_m F13 rfl) rfl _) rfl _) rfl _) rfl _
    have v0 : sg_g σ27 88 70 = b + 1 := by rw [e27, sg_gw_k _ _ _ _ _ _ (by decide), e24, sg_gw_e _ _ _ _ ⟨by omega, by omega⟩]
    have v1 : sg_g σ27 133 b = v := by rw [e27, sg_gw_c _ _ _ _ _ _ (by decide), e24, sg_gw_c _ _ _ _ _ _ (by decide), e20, sg_gw_e _ _ _ _ hv]
    have v2 : ∀ x, ¬ x = b → sg_g σ27 133 x = sg_g σ 133 x := fun x hx => by rw [e27, sg_gw_c _ _ _ _ _ _ (by decide), e24, sg_gw_c _ _ _ _ _ _ (by decide), e20, sg_gw_k _ _ _ _ _ _ hx, e16, sg_gw_c _ _ _ _ _ _ (by decide), sg_F_ga F13 rfl]
    have v3 : sg_g σ27 88 62 = f := by rw [e27, sg_gw_e _ _ _ _ ⟨by omega, by omega⟩]
    have G : ∀ a, (a = 129 ∨ a = 131) → ∀ i, sg_g σ27 a i = sg_g σ a i := fun a ha i => by
      rw [e27, sg_gw_c _ _ _ _ _ _ (by omega), e24, sg_gw_c _ _ _ _ _ _ (by omega), e20, sg_gw_c _ _ _ _ _ _ (by omega), e16, sg_gw_c _ _ _ _ _ _ (by omega)]
      rcases ha with z | z <;> subst z <;> exact sg_F_ga F13 rfl
    have v4 : sg_g σ27 88 73 = sg_g σ13 88 73 ∧ sg_g σ27 88 54 = sg_g σ13 88 54 := by
      constructor
      · rw [e27, sg_gw_k _ _ _ _ _ _ (by decide), e24, sg_gw_k _ _ _ _ _ _ (by decide), e20, sg_gw_c _ _ _ _ _ _ (by decide), e16, sg_gw_k _ _ _ _ _ _ (by decide)]
      · rw [e27, sg_gw_k _ _ _ _ _ _ (by decide), e24, sg_gw_k _ _ _ _ _ _ (by decide), e20, sg_gw_c _ _ _ _ _ _ (by decide), e16, sg_gw_k _ _ _ _ _ _ (by decide)]
    rw [hP] at p13
    have fin : ∀ a j z, (a = 129 ∨ a = 131 ∨ (a = 88 ∧ j = 55)) → (f = 0 → a = 88 ∧ z = sp) → (∀ i, ¬ i = f - 1 → sg_g (sg_w σ27 a j z) 129 i = sg_g σ 129 i ∧ sg_g (sg_w σ27 a j z) 131 i = sg_g σ 131 i) → (¬ f = 0 → (v_isInPlaces σ (f - 1) = 0 → sg_g (sg_w σ27 a j z) 129 (f - 1) = sg_g σ 129 (f - 1) + sp ∧ sg_g (sg_w σ27 a j z) 131 (f - 1) = sg_g σ 131 (f - 1)) ∧ (¬ v_isInPlaces σ (f - 1) = 0 → sg_g (sg_w σ27 a j z) 129 (f - 1) = sg_g σ 129 (f - 1) ∧ sg_g (sg_w σ27 a j z) 131 (f - 1) = sg_g σ 131 (f - 1) + sp)) → Q (sg_w σ27 a j z) := fun a j z ha hz y1 y2 => by
      have c1 : ∀ q, ¬ q = 55 → sg_g (sg_w σ27 a j z) 88 q = sg_g σ27 88 q := fun q hq => by
        rcases ha with h | h | h
        · exact sg_gw_c _ _ _ _ _ _ (by omega)
        · exact sg_gw_c _ _ _ _ _ _ (by omega)
        · exact sg_gw_k _ _ _ _ _ _ (by omega)
      have c2 : ∀ q, sg_g (sg_w σ27 a j z) 133 q = sg_g σ27 133 q := fun q => sg_gw_c _ _ _ _ _ _ (by omega)
      have FF : sg_F lvR σ (sg_w σ27 a j z) := by
        rcases ha with h | h | ⟨h, h'⟩
        · subst h; exact sg_F_w F27 rfl _
        · subst h; exact sg_F_w F27 rfl _
        · subst h h'; exact sg_F_w F27 rfl _
      rcases p13 with ⟨p1, p2, p3⟩ | ⟨p1, p2, p3⟩
      · refine kS p1 _ (by rw [c1 73 (by decide), v4.1]; exact p2) (by rw [c1 54 (by decide), v4.2]; exact p3) (by rw [c1 70 (by decide)]; exact v0) (by rw [c2]; exact v1) (fun x hx => by rw [c2]; exact v2 x hx) (by rw [c1 62 (by decide)]; exact v3) (fun z0 => ?_) y1 y2 FF
        obtain ⟨ha', hz'⟩ := hz z0
        rcases ha with h | h | ⟨h, h'⟩
        · omega
        · omega
        · subst h h'
          rw [sg_gw_e _ _ _ _ (by rw [hz']; exact ⟨by omega, by omega⟩)]; exact hz'
      · exact kF p1 _ (by rw [c1 73 (by decide), v4.1]; exact p2) (by rw [c1 54 (by decide), v4.2]; exact p3) FF
    refine ⟨fun z => ?_, fun z σ42 e42 => ?_⟩
    · obtain ⟨q1, q2, q3⟩ := h3 z
      refine ⟨⟨by omega, by omega⟩, ⟨⟨by omega, by omega⟩, q1, fun _ => trivial, fun _ => ⟨fun _ => trivial, fun _ => trivial⟩⟩, fun y => ⟨⟨by omega, by omega⟩, fun σ35 e35 => ?_⟩, fun y => ⟨⟨by omega, by omega⟩, fun σ39 e39 => ?_⟩⟩
      · have en' : sg_n (sg_g σ 129 (f - 1) + sp) = sg_g σ 129 (f - 1) + sp := sg_id ⟨by omega, by omega⟩
        rw [en'] at e35
        rw [e35]
        refine fin _ _ _ (Or.inl rfl) (fun q => absurd q z) (fun i hi => ⟨by rw [sg_gw_k _ _ _ _ _ _ hi]; exact G 129 (Or.inl rfl) i, by rw [sg_gw_c _ _ _ _ _ _ (by decide)]; exact G 131 (Or.inr rfl) i⟩) (fun _ => ⟨fun _ => ⟨by rw [sg_gw_e _ _ _ _ ⟨by omega, by omega⟩], by rw [sg_gw_c _ _ _ _ _ _ (by decide)]; exact G 131 (Or.inr rfl) _⟩, fun q => absurd y q⟩)
      · have en' : sg_n (sg_g σ 131 (f - 1) + sp) = sg_g σ 131 (f - 1) + sp := sg_id ⟨by omega, by omega⟩
        rw [en'] at e39
        rw [e39]
        refine fin _ _ _ (Or.inr (Or.inl rfl)) (fun q => absurd q z) (fun i hi => ⟨by rw [sg_gw_c _ _ _ _ _ _ (by decide)]; exact G 129 (Or.inl rfl) i, by rw [sg_gw_k _ _ _ _ _ _ hi]; exact G 131 (Or.inr rfl) i⟩) (fun _ => ⟨fun q => absurd q y, fun _ => ⟨by rw [sg_gw_c _ _ _ _ _ _ (by decide)]; exact G 129 (Or.inl rfl) _, by rw [sg_gw_e _ _ _ _ ⟨by omega, by omega⟩]⟩⟩)
    · rw [e42]
      refine fin _ _ _ (Or.inr (Or.inr ⟨rfl, rfl⟩)) (fun _ => ⟨rfl, rfl⟩) (fun i hi => ⟨by rw [sg_gw_c _ _ _ _ _ _ (by decide)]; exact G 129 (Or.inl rfl) i, by rw [sg_gw_c _ _ _ _ _ _ (by decide)]; exact G 131 (Or.inr rfl) i⟩) (fun q => absurd z q)
  refine ⟨⟨by omega, by omega⟩, hf, hn, ?_⟩
  rcases hcs with ⟨k1, k2, k3⟩ | ⟨k1, k2, k3, k4⟩ | ⟨k1, k2, k3, k4⟩
  · refine ⟨fun σ7 => σ7 = σ, ⟨fun _ => rfl, fun z => absurd k1 z⟩, fun σ7 f7 h7 => ⟨P, ⟨fun z => absurd (Or.inl z) k2, fun _ => ⟨fun z => absurd (Or.inr (Or.inl z)) k2, fun _ => ⟨fun _ => ?_, fun z => absurd (Or.inr (Or.inr z)) k2⟩⟩⟩, fun σ13 f13 p13 => tail σ13 (sg_F_t f7 f13) p13⟩⟩
    rw [hP, h7]
    exact Or.inl ⟨by omega, h0, by omega⟩
  · refine ⟨P, ⟨fun z => absurd z k1, fun _ => ⟨k3, by rw [k4]; exact wk σ h0 hw⟩⟩, fun σ7 f7 h7 => ⟨P, ⟨fun z => absurd (Or.inl z) k2, fun _ => ⟨fun z => absurd (Or.inr (Or.inl z)) k2, fun _ => ⟨fun _ => h7, fun z => absurd (Or.inr (Or.inr z)) k2⟩⟩⟩, fun σ13 f13 p13 => tail σ13 (sg_F_t f7 f13) p13⟩⟩
  · refine ⟨fun σ7 => σ7 = σ, ⟨fun _ => rfl, fun z => absurd k1 z⟩, fun σ7 f7 h7 => ⟨P, ?_, fun σ13 f13 p13 => tail σ13 (sg_F_t f7 f13) p13⟩⟩
    subst h7
    rw [k4]
    exact ⟨fun _ => ⟨hb, k3, wk σ7 h0 hw⟩, fun _ => ⟨fun _ => ⟨hb, k3, wk σ7 h0 hw⟩, fun z1 => ⟨fun z2 => by omega, fun _ => ⟨hb, k3, wk σ7 h0 hw⟩⟩⟩⟩
