/-! THE LAW'S STATE, third: the same PROGRAM, ready for nested runs of both sides; as many runs on both sides. -/
def lyR (σ : sg_S) : Prop := ∃ A D k, clR σ A D k ∧ pgX σ A D (sg_g σ 101) (sg_g σ 102) ∧ sg_g σ 88 27 = k ∧ tyN A (kDl D []) (sg_g σ 101) (sg_g σ 102) 201 [] k ∧ (∃ B0, ∀ x, 0 ≤ x → x < A.1 → sg_g σ 102 x = kPB A D k B0 x) ∧ ∀ n, 0 ≤ n → n < A.1 → sg_g σ 6 n = sg_g σ 101 n
def okY (L : List Nat) : Bool := okP8 L && okX L && (sg_ca L 6 && sg_ca L 101 && sg_ca L 102 && !sg_cv L 88 27)
theorem lyR_F {L : List Nat} {σ σ' : sg_S} (h : lyR σ) (f : sg_F L σ σ') (hL : okY L = true) : lyR σ' := by
  unfold okY at hL
  simp only [Bool.and_eq_true, Bool.not_eq_true'] at hL
  obtain ⟨⟨l1, l2⟩, ⟨⟨l3, l4⟩, l5⟩, l6⟩ := hL
  obtain ⟨A, D, k, a1, a2, a3, a4, ⟨B0, a5⟩, a6⟩ := h
  have e101 : sg_g σ' 101 = sg_g σ 101 := funext fun x => sg_F_ga f l4
  have e102 : sg_g σ' 102 = sg_g σ 102 := funext fun x => sg_F_ga f l5
  refine ⟨A, D, k, clR_F a1 f l1, by rw [e101, e102]; exact pgX_F f l2 a2, by rw [sg_F_g f l6]; exact a3, by rw [e101, e102]; exact a4, ⟨B0, fun x z1 z2 => by rw [e102]; exact a5 x z1 z2⟩, fun n z1 z2 => ?_⟩
  rw [e101, sg_F_ga f l3]
  exact a6 n z1 z2
def lkK (σ : sg_S) : Prop := lkR σ ∧ sg_g σ 0 11 = sg_g σ 88 52 ∧ (sg_g σ 88 28 = 0 ∨ lyR σ)
def okK8 (L : List Nat) : Bool := okK L && okY L && (!sg_cv L 0 11 && !sg_cv L 88 52 && !sg_cv L 88 28)
theorem lkK_F {L : List Nat} {σ σ' : sg_S} (h : lkK σ) (f : sg_F L σ σ') (hL : okK8 L = true) : lkK σ' := by
  unfold okK8 at hL
  simp only [Bool.and_eq_true, Bool.not_eq_true'] at hL
  obtain ⟨⟨l1, l2⟩, ⟨l3, l4⟩, l5⟩ := hL
  obtain ⟨a1, a2, a3⟩ := h
  refine ⟨lkR_F a1 f l1, by rw [sg_F_g f l3, sg_F_g f l4]; exact a2, ?_⟩
  rw [sg_F_g f l5]
  exact a3.imp id (fun w => lyR_F w f l2)
def lwK (σ : sg_S) : Prop := lwI σ ∧ lkK σ
