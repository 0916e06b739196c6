/-! defNamed, lookCall of the reference. -/
theorem dsR_e {σ σ' : sg_S} (h1 : ∀ j, sg_gl σ' 103 j = sg_gl σ 103 j) (h2 : ∀ j, sg_g σ' 106 j = sg_g σ 106 j) (h3 : ∀ j, sg_g σ' 109 j = sg_g σ 109 j) (h4 : ∀ j, sg_g σ' 105 j = sg_g σ 105 j) : ∀ {n : Int} {l : kD}, dsR σ n l → dsR σ' n l
  | n, [], h => h
  | n, x :: r, h => by
    obtain ⟨a1, a2, a3, a4, a5, a6, a7⟩ := h
    exact ⟨a1, by rw [h1]; exact a2, by rw [h2]; exact a3, fun j y hy => by rw [h3]; exact a4 j y hy, by rw [h4]; exact a5, a6, dsR_e h1 h2 h3 h4 a7⟩
/-- what is told of the DEF at q -/
def dsQ (σ : sg_S) (q : Int) (x : List Int × Int) : Prop := sg_g σ 106 q = x.1.length ∧ (∀ j : Nat, ∀ y, x.1[j]? = some y → sg_g σ 109 (6 * q + j) = y) ∧ sg_g σ 105 q = x.2 ∧ x.1.length ≤ 6
theorem q_defNamed {σ : sg_S} {ds : kD} {w : Int} {Q : Int → sg_S → Prop} (h : dsR σ (sg_g σ 88 45) ds) (hl : ds.length ≤ 12) (k1 : kDef ds w = none → Q (-1) σ) (k2 : ∀ q x, kDef ds w = some x → kDx ds w = some q → 0 ≤ q → q < 12 → dsQ σ q x → Q q σ) : V_defNamed σ w Q := by
  have hn := dsR_n h
  unfold V_defNamed
  refine ⟨⟨by omega, by omega⟩, fun n v => n = (v + 1).toNat ∧ -1 ≤ v ∧ v < ds.length ∧ ∃ r, dsR σ (v + 1) r ∧ kDef r w = kDef ds w ∧ kDx r w = kDx ds w, fun v => (v = -1 ∧ kDef ds w = none) ∨ (0 ≤ v ∧ v < ds.length ∧ ∃ x, kDef ds w = some x ∧ kDx ds w = some v ∧ dsQ σ v x), ⟨_, rfl, by omega, by omega, ds, by rw [show sg_g σ 88 45 - 1 + 1 = sg_g σ 88 45 by omega]; exact h, rfl, rfl⟩, ?_, ?_⟩
  · rintro n v rv ⟨en, h0, h1, r, hp, hf, hfx⟩
    refine ⟨fun hv => ?_, fun hv => ⟨⟨hv, by omega⟩, fun hw => ?_, fun hw => ⟨⟨by omega, by omega⟩, _, ?_, rfl, by omega, by omega, ?_⟩⟩⟩
    · left
      refine ⟨by omega, ?_⟩
      have := dsR_n hp
      cases r with
      | nil => rw [← hf]; rfl
      | cons x r => simp only [List.length_cons] at this; omega
    · right
      refine ⟨hv, h1, ?_⟩
      cases r with
      | nil => have := dsR_n hp; simp at this; omega
      | cons x r =>
        obtain ⟨p1, p2, p3, p4, p5, p6, p7⟩ := hp
        rw [show v + 1 - 1 = v by omega] at p2 p3 p4 p5
        have hn7 := dsR_n p7
        exact ⟨x.2, by rw [← hf, kDef, if_pos (by rw [← p2]; exact hw)], by rw [← hfx, kDx, if_pos (by rw [← p2]; exact hw)]; congr 1; omega, p3, p4, p5, p6⟩
    · omega
    · cases r with
      | nil => have := dsR_n hp; simp at this; omega
      | cons x r =>
        obtain ⟨p1, p2, p3, p4, p5, p6, p7⟩ := hp
        rw [show v + 1 - 1 = v by omega] at p2
        refine ⟨r, by rw [show v + -1 + 1 = v + 1 - 1 by omega]; exact p7, ?_, ?_⟩
        · rw [← hf, kDef, if_neg (by rw [← p2]; exact hw)]
        · rw [← hfx, kDx, if_neg (by rw [← p2]; exact hw)]
  · rintro v rv (⟨rfl, x⟩ | ⟨x1, x2, x, x3, x5, x4⟩)
    · exact k1 x
    · exact k2 v x x3 x5 x1 (by omega) x4
