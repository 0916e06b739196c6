/-! nested() of the reference, exactly. -/
abbrev nsL : List Nat := [122, 123, 124, 125, 126, 127, 128, 129, 130, 131, 132, 133, 134, 135, 1088, 52088, 53088, 55088, 56088, 57088, 61088, 63088, 71088, 74088]
abbrev shL : List Nat := [136, 137, 138, 77088, 79088]
/-- what a run's end is to be followed by: the answer and what is shown -/
def kNs (σ : sg_S) (Q : Int → sg_S → Prop) (d : Nat) : eR → Prop
  | .inl (e, w') => ∀ σ37 σ50, sg_F nsL σ σ37 → sg_g σ37 88 73 = e → ¬ e = 0 → sg_g σ37 88 54 = w' → sg_g σ37 88 52 = sg_g σ 88 52 + 1 → sg_g σ37 88 51 = 1 → σ50 = sg_w σ37 88 53 (sg_g σ37 88 73) → V_showNested σ50 (fun σ54 => sg_F shL σ50 σ54 → Q (sg_g σ37 88 73) σ54)
  | .inr (v, w', s', _) => ∀ σ37 σ50, sg_F nsL σ σ37 → sg_g σ37 88 73 = 0 → sg_g σ37 88 54 = w' → sg_g σ37 88 55 = s' → sg_g σ37 88 52 = sg_g σ 88 52 + 1 → sg_g σ37 88 51 = 1 → (sg_g σ37 88 56 ≤ 9000 ∧ sg_g σ37 88 60 ≤ 12000) → rvF σ37 d v (sg_g σ37 133 0) → σ50 = sg_w σ37 88 53 (sg_g σ37 88 73) → V_showNested σ50 (fun σ54 => sg_F shL σ50 σ54 → Q (sg_g σ37 88 73) σ54)
set_option maxRecDepth 10000 in
theorem x_nested {σ : sg_S} {A : aT} {D : List aDf} {T B : Int → Int} {r : Int} {Q : Int → sg_S → Prop} (h0 : sg_g σ 88 28 = 0 → ∀ σ1, σ1 = sg_w σ 88 0 0 → Q (-4) σ1) (h20 : ¬ sg_g σ 88 28 = 0 → sg_g σ 88 52 = 20 → ∀ σ1, σ1 = sg_w σ 88 0 0 → Q (-3) σ1) (hR : ¬ sg_g σ 88 28 = 0 → pgX σ A D T B ∧ sg_g σ 88 27 = r ∧ tyN A (kDl D []) T B 201 [] r) (h52 : 0 ≤ sg_g σ 88 52 ∧ sg_g σ 88 52 ≤ 20) (kc : ¬ sg_g σ 88 28 = 0 → ¬ sg_g σ 88 52 = 20 → kNs σ Q (T r).toNat (evN A T B (eC A D T B D.length) 201 r (fun _ => nmF 0) 0)) : V_nested σ Q := by
  unfold V_nested
  intro σ1 e1
  refine ⟨fun th => ⟨fun n20 => ⟨⟨by omega, by omega⟩, ?_⟩, fun h => h20 th h σ1 e1⟩, fun h => h0 h σ1 e1⟩
  obtain ⟨hX, e27, hr⟩ := hR th
  have kc := kc th n20
  intro σ7 e7 σ10 e10 σ13 e13 σ16 e16 σ19 e19 σ22 e22 σ25 e25 σ28 e28
  have F28 : sg_F [1088, 52088, 53088, 55088, 57088, 61088, 63088, 71088, 74088] σ σ28 := by
    rw [e28, e25, e22, e19, e16, e13, e10, e7, e1]
    exact sg_F_w (sg_F_w (sg_F_w (sg_F_w (sg_F_w (sg_F_w (sg_F_w (sg_F_w (sg_F_w (sg_F_r _ _) rfl _) rfl _) rfl _) rfl _) rfl _) rfl _) rfl _) rfl _) rfl _
  have w52 : sg_g σ28 88 52 = sg_g σ 88 52 + 1 := by
    rw [e28, sg_gw_k _ _ _ _ _ _ (by decide), e25, sg_gw_k _ _ _ _ _ _ (by decide), e22, sg_gw_k _ _ _ _ _ _ (by decide), e19, sg_gw_k _ _ _ _ _ _ (by decide), e16, sg_gw_k _ _ _ _ _ _ (by decide), e13, sg_gw_k _ _ _ _ _ _ (by decide), e10, sg_gw_k _ _ _ _ _ _ (by decide), e7, sg_gw_e _ _ _ _ ⟨by omega, by omega⟩]
  have w51 : sg_g σ28 88 51 = 1 := by
    rw [e28, sg_gw_k _ _ _ _ _ _ (by decide), e25, sg_gw_k _ _ _ _ _ _ (by decide), e22, sg_gw_k _ _ _ _ _ _ (by decide), e19, sg_gw_k _ _ _ _ _ _ (by decide), e16, sg_gw_k _ _ _ _ _ _ (by decide), e13, sg_gw_k _ _ _ _ _ _ (by decide), e10, sg_gw_e _ _ _ _ (by decide)]
  have w54 : sg_g σ28 88 54 = 0 := by
    rw [e28, sg_gw_k _ _ _ _ _ _ (by decide), e25, sg_gw_k _ _ _ _ _ _ (by decide), e22, sg_gw_k _ _ _ _ _ _ (by decide), e19, sg_gw_k _ _ _ _ _ _ (by decide), e16, sg_gw_k _ _ _ _ _ _ (by decide), e13, sg_gw_e _ _ _ _ (by decide)]
  have w56 : sg_g σ28 88 56 = 0 := by
    rw [e28, sg_gw_k _ _ _ _ _ _ (by decide), e25, sg_gw_k _ _ _ _ _ _ (by decide), e22, sg_gw_k _ _ _ _ _ _ (by decide), e19, sg_gw_k _ _ _ _ _ _ (by decide), e16, sg_gw_e _ _ _ _ (by decide)]
  have w60 : sg_g σ28 88 60 = 0 := by
    rw [e28, sg_gw_k _ _ _ _ _ _ (by decide), e25, sg_gw_k _ _ _ _ _ _ (by decide), e22, sg_gw_k _ _ _ _ _ _ (by decide), e19, sg_gw_e _ _ _ _ (by decide)]
  have w62 : sg_g σ28 88 62 = 0 := by
    rw [e28, sg_gw_k _ _ _ _ _ _ (by decide), e25, sg_gw_k _ _ _ _ _ _ (by decide), e22, sg_gw_e _ _ _ _ (by decide)]
  have w70 : sg_g σ28 88 70 = 0 := by
    rw [e28, sg_gw_k _ _ _ _ _ _ (by decide), e25, sg_gw_e _ _ _ _ (by decide)]
  have w73 : sg_g σ28 88 73 = 0 := by rw [e28, sg_gw_e _ _ _ _ (by decide)]
  have hX28 : pgX σ28 A D T B := pgX_F F28 rfl hX
  have F37 : ∀ σ37, sg_F goL σ28 σ37 → sg_F nsL σ σ37 ∧ sg_g σ37 88 52 = sg_g σ 88 52 + 1 ∧ sg_g σ37 88 51 = 1 := fun σ37 f => ⟨sg_F_t (sg_F_m F28 rfl) (sg_F_m f rfl), (sg_F_g f (by rfl)).trans w52, (sg_F_g f (by rfl)).trans w51⟩
  rw [e27]
  -- what the loop's end is followed by
  obtain ⟨X, hXd⟩ : ∃ X : sg_S → Prop, X = fun σ37 => ∀ σ50, σ50 = sg_w σ37 88 53 (sg_g σ37 88 73) → V_showNested σ50 (fun σ54 => sg_F shL σ50 σ54 → Q (sg_g σ37 88 73) σ54) := ⟨_, rfl⟩
  have hr' : tyN A (kDl (D.take D.length) []) T B 201 [] r := by rw [List.take_of_length_le (Nat.le_refl _)]; exact hr
  refine gN_all (jd := D.length) (X := X) hX28 (eC_b A D T B D.length) (fun q hq => cLr_all hX28 q D.length hq) 201 r [] hr' σ28 24008 (fun _ => nmF 0) 0 0 0 0 ⟨sg_F_r _ _, w73, ⟨w62, w70, w54⟩, ⟨by decide, by decide, by clear kc; omega, by clear kc; omega⟩, ⟨by decide, by decide⟩, by clear kc; omega, by clear kc; omega, by decide⟩ (fun z => absurd rfl z) (fun p hp => by cases hp) (by decide) (by decide) ?_ _ (fun σ32 hRx _ => ?_)
  · generalize evN A T B (eC A D T B D.length) 201 r (fun _ => nmF 0) 0 = rr at kc
    match rr, kc with
    | .inl (e, w'), kc =>
      intro σ' f' h1 h2 h3
      obtain ⟨y1, y2, y3⟩ := F37 σ' f'
      rw [hXd]
      exact fun σ50 e50 => kc σ' σ50 y1 h1 h2 h3 y2 y3 e50
    | .inr (v, w', s', ρ'), kc =>
      intro σ' m' S' U' v' _
      obtain ⟨a1, a2, ⟨a3, a4, a5⟩, a6, a7, a8, a9, a10⟩ := S'
      obtain ⟨y1, y2, y3⟩ := F37 σ' a1
      refine rx_e (by omega) ?_
      rw [hXd]
      exact fun σ50 e50 => kc σ' σ50 y1 a2 a5 (U'.2.2.2.2.2 rfl) y2 y3 ⟨by omega, by omega⟩ v' e50
  · refine ⟨fun n σ37 => Rx X n σ37, X, ⟨24008, hRx⟩, ?_, ?_⟩
    · rintro n σ37 f37 hI
      cases n with
      | zero =>
        obtain ⟨y1, y2, y3⟩ := hI
        exact ⟨y1, fun z => ⟨y2, fun z2 => (y3 z z2).elim⟩⟩
      | succ n =>
        obtain ⟨y1, y2, y3⟩ := hI
        exact ⟨y1, fun z => ⟨y2, fun z2 => y3 z z2 _ (fun σ' h => ⟨n, Nat.lt_succ_self n, h⟩)⟩⟩
    · rintro σ37 f37 hx σ50 e50
      rw [hXd] at hx
      exact hx σ50 e50
