/-! leave: a value goes down the pile. -/
theorem m_leave {σ : sg_S} {f n b v : Int} {Q : sg_S → Prop} (hw : 0 ≤ sg_g σ 88 54 ∧ sg_g σ 88 54 ≤ 3000) (ef : sg_g σ 88 62 - 1 = f) (hf : 0 ≤ f ∧ f < 4000) (en : sg_g σ 126 f = n) (hn : 0 ≤ n ∧ n < 210) (eb : sg_g σ 128 f = b) (hb : 0 ≤ b ∧ b < 12000) (hv : sg_R v) (h1 : ¬ v_tellsCount (sg_g σ 93 n) = 0 → (0 ≤ v ∧ v < 9000) ∧ 0 ≤ sg_gl σ 124 v ∧ sg_gl σ 124 v ≤ 8040200) (h2 : sg_g σ 93 n = 18 ∨ sg_g σ 93 n = 19 ∨ sg_g σ 93 n = 20 → (0 ≤ sg_g σ 133 b ∧ sg_g σ 133 b < 9000) ∧ 0 ≤ sg_g σ 123 (sg_g σ 133 b) ∧ sg_g σ 123 (sg_g σ 133 b) ≤ 200) (h3 : ¬ f = 0 → 0 ≤ sg_g σ 126 (f - 1) ∧ sg_g σ 126 (f - 1) < 210) (k : ∀ σ', (¬ sg_g σ' 88 73 = 0 ∨ (sg_g σ' 88 73 = 0 ∧ sg_g σ 88 54 ≤ sg_g σ' 88 54 ∧ sg_g σ' 88 54 ≤ 3000 ∧ (¬ v_tellsCount (sg_g σ 93 n) = 0 → sg_g σ 88 54 + sg_gl σ 124 v ≤ sg_g σ' 88 54))) → sg_g σ' 88 70 = b + 1 → sg_g σ' 133 b = v → (∀ x, ¬ x = b → sg_g σ' 133 x = sg_g σ 133 x) → sg_g σ' 88 62 = f → sg_F [129, 131, 133, 55088, 56088, 63088, 71088, 74088] σ σ' → Q σ') : V_leave σ v Q := by
  unfold V_leave
  rw [ef, en, eb]
  let P : sg_S → Prop := fun σ7 => (0 ≤ sg_g σ7 88 54 ∧ sg_g σ7 88 54 ≤ 3000) ∧ (¬ sg_g σ7 88 73 = 0 ∨ (sg_g σ7 88 73 = 0 ∧ sg_g σ 88 54 ≤ sg_g σ7 88 54 ∧ (¬ v_tellsCount (sg_g σ 93 n) = 0 → sg_g σ 88 54 + sg_gl σ 124 v ≤ sg_g σ7 88 54)))
  have hP : ∀ σ7, P σ7 = ((0 ≤ sg_g σ7 88 54 ∧ sg_g σ7 88 54 ≤ 3000) ∧ (¬ sg_g σ7 88 73 = 0 ∨ (sg_g σ7 88 73 = 0 ∧ sg_g σ 88 54 ≤ sg_g σ7 88 54 ∧ (¬ v_tellsCount (sg_g σ 93 n) = 0 → sg_g σ 88 54 + sg_gl σ 124 v ≤ sg_g σ7 88 54)))) := fun _ => rfl
  have up : ∀ σ7, P σ7 → ∀ a, (0 ≤ a ∧ a ≤ 200) → V_works σ7 a (fun σ48 => sg_F [55088, 74088] σ7 σ48 → P σ48) := fun σ7 p a ha => by
    rw [hP] at p
    refine m_works p.1 ⟨ha.1, by omega⟩ (fun σ' x1 x2 x3 _ => ?_)
    rw [hP]
    refine ⟨x1, ?_⟩
    rcases x2 with x2 | ⟨x2, x4, x5⟩
    · exact Or.inl x2
    · rcases p.2 with p2 | ⟨-, p3, p4⟩
      · exact absurd x2 p2
      · exact Or.inr ⟨x4, by omega, fun z => by have := p4 z; omega⟩
  refine ⟨⟨by omega, by omega⟩, hf, hn, P, ⟨fun z => ?_, fun z => ⟨(h1 z).1, m_works hw (h1 z).2 (fun σ' x1 x2 x3 _ => ?_)⟩⟩, fun σ7 f7 p7 => ⟨P, ⟨fun z => ⟨hb, (h2 (Or.inl z)).1, up σ7 p7 _ (h2 (Or.inl z)).2⟩, fun _ => ⟨fun z => ⟨hb, (h2 (Or.inr (Or.inl z))).1, up σ7 p7 _ (h2 (Or.inr (Or.inl z))).2⟩, fun _ => ⟨fun _ => p7, fun z => ⟨hb, (h2 (Or.inr (Or.inr z))).1, up σ7 p7 _ (h2 (Or.inr (Or.inr z))).2⟩⟩⟩⟩, ?_⟩⟩
  · rw [hP]
    refine ⟨hw, ?_⟩
    by_cases e : sg_g σ 88 73 = 0
    · exact Or.inr ⟨e, Int.le_refl _, fun y => absurd z y⟩
    · exact Or.inl e
  · rw [hP]
    refine ⟨x1, ?_⟩
    rcases x2 with x2 | ⟨x2, x4, x5⟩
    · exact Or.inl x2
    · have := (h1 z).2
      exact Or.inr ⟨x4, by omega, fun _ => by omega⟩
  · intro σ13 f13 p13 σ16 e16
    refine ⟨hb, fun σ20 e20 => ⟨⟨by omega, by omega⟩, fun σ24 e24 σ27 e27 => ?_⟩⟩
    rw [hP] at p13
    have F13 : sg_F [55088, 74088] σ σ13 := sg_F_t f7 f13
    have F27 : sg_F [129, 131, 133, 55088, 56088, 63088, 71088, 74088] σ σ27 := by
      rw [e27, e24, e20, e16]
      exact sg_F_w (sg_F_w (sg_F_w (sg_F_w (sg_F_m F13 rfl) rfl _) rfl _) rfl _) rfl _
    have v0 : sg_g σ27 88 70 = b + 1 := by rw [e27, sg_gw_k _ _ _ _ _ _ (by decide), e24, sg_gw_e _ _ _ _ ⟨by omega, by omega⟩]
    have v1 : sg_g σ27 133 b = v := by rw [e27, sg_gw_c _ _ _ _ _ _ (by decide), e24, sg_gw_c _ _ _ _ _ _ (by decide), e20, sg_gw_e _ _ _ _ hv]
    have v2 : ∀ x, ¬ x = b → sg_g σ27 133 x = sg_g σ 133 x := fun x hx => by rw [e27, sg_gw_c _ _ _ _ _ _ (by decide), e24, sg_gw_c _ _ _ _ _ _ (by decide), e20, sg_gw_k _ _ _ _ _ _ hx, e16, sg_gw_c _ _ _ _ _ _ (by decide), sg_F_ga F13 rfl]
    have v3 : sg_g σ27 88 62 = f := by rw [e27, sg_gw_e _ _ _ _ ⟨by omega, by omega⟩]
    have v4 : sg_g σ27 88 73 = sg_g σ13 88 73 ∧ sg_g σ27 88 54 = sg_g σ13 88 54 := by
      constructor
      · rw [e27, sg_gw_k _ _ _ _ _ _ (by decide), e24, sg_gw_k _ _ _ _ _ _ (by decide), e20, sg_gw_c _ _ _ _ _ _ (by decide), e16, sg_gw_k _ _ _ _ _ _ (by decide)]
      · rw [e27, sg_gw_k _ _ _ _ _ _ (by decide), e24, sg_gw_k _ _ _ _ _ _ (by decide), e20, sg_gw_c _ _ _ _ _ _ (by decide), e16, sg_gw_k _ _ _ _ _ _ (by decide)]
    have fin : ∀ a j z, (a = 129 ∨ a = 131 ∨ (a = 88 ∧ j = 55)) → Q (sg_w σ27 a j z) := fun a j z ha => by
      have c1 : ∀ q, ¬ q = 55 → sg_g (sg_w σ27 a j z) 88 q = sg_g σ27 88 q := fun q hq => by
        rcases ha with h | h | h
        · exact sg_gw_c _ _ _ _ _ _ (by omega)
        · exact sg_gw_c _ _ _ _ _ _ (by omega)
        · exact sg_gw_k _ _ _ _ _ _ (by omega)
      have c2 : ∀ q, sg_g (sg_w σ27 a j z) 133 q = sg_g σ27 133 q := fun q => sg_gw_c _ _ _ _ _ _ (by omega)
      refine k _ ?_ (by rw [c1 70 (by decide)]; exact v0) (by rw [c2]; exact v1) (fun x hx => by rw [c2]; exact v2 x hx) (by rw [c1 62 (by decide)]; exact v3) ?_
      · rw [c1 73 (by decide), c1 54 (by decide), v4.1, v4.2]
        rcases p13.2 with p | p
        · exact Or.inl p
        · exact Or.inr ⟨p.1, p.2.1, p13.1.2, p.2.2⟩
      · rcases ha with h | h | ⟨h, h'⟩
        · subst h; exact sg_F_w F27 rfl _
        · subst h; exact sg_F_w F27 rfl _
        · subst h h'; exact sg_F_w F27 rfl _
    refine ⟨fun z => ⟨⟨by omega, by omega⟩, ?_, fun _ => ⟨⟨by omega, by omega⟩, fun σ35 e35 => by rw [e35]; exact fin _ _ _ (Or.inl rfl)⟩, fun _ => ⟨⟨by omega, by omega⟩, fun σ39 e39 => by rw [e39]; exact fin _ _ _ (Or.inr (Or.inl rfl))⟩⟩, fun z σ42 e42 => by rw [e42]; exact fin _ _ _ (Or.inr (Or.inr ⟨rfl, rfl⟩))⟩
    exact ⟨⟨by omega, by omega⟩, h3 z, fun _ => trivial, fun _ => ⟨fun _ => trivial, fun _ => trivial⟩⟩
