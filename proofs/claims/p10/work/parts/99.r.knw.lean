/-! Names known, in the reference's rows. -/
/-- names known with types e and binders eb, in rows -/
def kPs (σ : sg_S) (e eb : kE) : Prop := pst (sg_gl σ 113) (sg_g σ 115) (sg_g σ 88 37) e ∧ pst (sg_gl σ 113) (sg_g σ 114) (sg_g σ 88 37) eb
theorem q_knownAt {σ : sg_S} {e eb : kE} {w : Int} {Q : Int → sg_S → Prop} (h : kPs σ e eb) (hl : e.length ≤ 300) (k1 : kFind e w = none → kFind eb w = none → Q (-1) σ) (k2 : ∀ j, kFind e w = some (sg_g σ 115 j) → kFind eb w = some (sg_g σ 114 j) → 0 ≤ j → j < e.length → Q j σ) : V_knownAt σ w Q := by
  have hn := pst_n h.1
  unfold V_knownAt
  refine ⟨⟨by omega, by omega⟩, fun n v => n = (v + 1).toNat ∧ -1 ≤ v ∧ v < e.length ∧ ∃ r rb, pst (sg_gl σ 113) (sg_g σ 115) (v + 1) r ∧ kFind r w = kFind e w ∧ pst (sg_gl σ 113) (sg_g σ 114) (v + 1) rb ∧ kFind rb w = kFind eb w, fun v => (v = -1 ∧ kFind e w = none ∧ kFind eb w = none) ∨ (0 ≤ v ∧ v < e.length ∧ kFind e w = some (sg_g σ 115 v) ∧ kFind eb w = some (sg_g σ 114 v)), ⟨_, rfl, by omega, by omega, e, eb, by rw [show sg_g σ 88 37 - 1 + 1 = sg_g σ 88 37 by omega]; exact h.1, rfl, by rw [show sg_g σ 88 37 - 1 + 1 = sg_g σ 88 37 by omega]; exact h.2, rfl⟩, ?_, ?_⟩
  · rintro n v rv ⟨en, h0, h1, r, rb, hp, hf, hpb, hfb⟩
    have hr := pst_n hp
    have hrb := pst_n hpb
    cases r with
    | nil =>
      cases rb with
      | nil =>
        simp only [List.length_nil] at hr
        exact ⟨fun hv => Or.inl ⟨by omega, by rw [← hf]; rfl, by rw [← hfb]; rfl⟩, fun hv => by omega⟩
      | cons y rb => simp only [List.length_nil, List.length_cons] at hr hrb; omega
    | cons x r =>
      cases rb with
      | nil => simp only [List.length_nil, List.length_cons] at hr hrb; omega
      | cons y rb =>
        simp only [List.length_cons] at hr
        obtain ⟨p1, p2, p3, p4⟩ := hp
        obtain ⟨s1, s2, s3, s4⟩ := hpb
        rw [show v + 1 - 1 = v by omega] at p2 p3 p4 s2 s3 s4
        refine ⟨fun hv => by omega, fun hv => ⟨⟨hv, by omega⟩, fun hw => Or.inr ⟨hv, h1, ?_, ?_⟩, fun hw => ⟨⟨by omega, by omega⟩, _, ?_, rfl, by omega, by omega, r, rb, ?_, ?_, ?_, ?_⟩⟩⟩
        · rw [← hf, kFind, if_pos (by rw [← p2]; exact hw), p3]
        · rw [← hfb, kFind, if_pos (by rw [← s2]; exact hw), s3]
        · omega
        · rw [show v + -1 + 1 = v by omega]; exact p4
        · rw [← hf, kFind, if_neg (by rw [← p2]; exact hw)]
        · rw [show v + -1 + 1 = v by omega]; exact s4
        · rw [← hfb, kFind, if_neg (by rw [← s2]; exact hw)]
  · rintro v rv (⟨rfl, x, y⟩ | ⟨x1, x2, x3, x4⟩)
    · exact k1 x y
    · exact k2 v x3 x4 x1 x2
theorem q_wrong {σ : sg_S} {a p : Int} {Q : sg_S → Prop} (ha : sg_R a ∧ ¬ a = 0) (k : ∀ σ', ¬ sg_g σ' 88 29 = 0 → sg_F [30088, 31088] σ σ' → Q σ') : V_wrong σ a p Q := by
  unfold V_wrong
  refine ⟨fun h => k σ h (sg_F_r _ _), fun _ σ2 e2 σ5 e5 => k σ5 ?_ ?_⟩
  · rw [e5, sg_gw_k _ _ _ _ _ _ (by decide), e2, sg_gw_e _ _ _ _ ha.1]; exact ha.2
  · rw [e5, e2]; exact sg_F_w (sg_F_w (sg_F_r _ _) rfl _) rfl _
/-- typed: a fault, or node n has its type -/
theorem q_typed {σ : sg_S} {n is ty : Int} {Q : sg_S → Prop} (hn : 0 ≤ n ∧ n < 210) (k1 : ∀ σ', (is = 0 ∨ 3 < ty) → ¬ sg_g σ' 88 29 = 0 → sg_F [101, 30088, 31088] σ σ' → Q σ') (k2 : ¬ is = 0 → ty ≤ 3 → Q (sg_w σ 101 n ty)) : V_typed σ n is ty Q := by
  unfold V_typed
  refine ⟨fun σ' => ((is = 0 ∨ 3 < ty) ∧ ¬ sg_g σ' 88 29 = 0) ∨ (¬ is = 0 ∧ ty ≤ 3 ∧ σ' = σ), ⟨fun h => ⟨hn, q_wrong (by decide) (fun σ' h1 _ _ => Or.inl ⟨Or.inl h, h1⟩)⟩, fun h => ⟨fun h2 => Or.inr ⟨h, h2, rfl⟩, fun h2 => ⟨hn, q_wrong (by decide) (fun σ' h1 _ _ => Or.inl ⟨Or.inr h2, h1⟩)⟩⟩⟩, ?_⟩
  rintro σ4 hF (⟨x1, x2⟩ | ⟨x1, x2, rfl⟩)
  · refine ⟨hn, fun σ8 e8 => k1 σ8 x1 ?_ ?_⟩
    · rw [e8, sg_gw_c _ _ _ _ _ _ (by decide)]; exact x2
    · rw [e8]
      refine sg_F_t (sg_F_m hF rfl) ?_
      exact fun c j hc hk => by
        have : ¬ c = 101 := fun e => by subst e; simp [sg_cv] at hk
        simp only [sg_w, this, false_and, if_false, and_self]
  · exact ⟨hn, fun σ8 e8 => by rw [e8]; exact k2 x1 x2⟩
