/-! THE LAW'S STATE, fourth: as many nested and as many flat runs on both sides. -/
def lkZ (σ : sg_S) : Prop := lkR σ ∧ (sg_g σ 0 11 = sg_g σ 88 52 ∧ sg_g σ 0 12 = sg_g σ 88 82) ∧ (sg_g σ 88 28 = 0 ∨ lyR σ)
def okZ8 (L : List Nat) : Bool := okK8 L && (!sg_cv L 0 12 && !sg_cv L 88 82)
theorem lkZ_F {L : List Nat} {σ σ' : sg_S} (h : lkZ σ) (f : sg_F L σ σ') (hL : okZ8 L = true) : lkZ σ' := by
  unfold okZ8 at hL
  simp only [Bool.and_eq_true, Bool.not_eq_true'] at hL
  obtain ⟨l1, l2, l3⟩ := hL
  obtain ⟨a1, ⟨a2, a3⟩, a4⟩ := h
  obtain ⟨b1, b2, b3⟩ := lkK_F ⟨a1, a2, a4⟩ f l1
  exact ⟨b1, ⟨b2, by rw [sg_F_g f l2, sg_F_g f l3]; exact a3⟩, b3⟩
def lwZ (σ : sg_S) : Prop := lwI σ ∧ lkZ σ
