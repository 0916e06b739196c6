/-! The pile stays while values are made; begin and leave. -/
section NSU
variable {A : aT} {D : List aDf} {T B : Int → Int} {r : Int}
theorem eM_0 {σ : sg_S} {b p : Int} {g : Nat} (a : eM σ b p g) : 0 ≤ sg_g σ 133 b ∧ sg_g σ 133 b < sg_g σ 88 56 := by
  obtain ⟨a1, a2, a3⟩ := a
  have := (a3 0 (by omega)).1
  rwa [show b + ((0 : Nat) : Int) = b by omega] at this
theorem eM_up {σ σ' : sg_S} {b p : Int} {g : Nat} (h : nEx σ σ') (hv : ∀ x, b ≤ x → x < b + g → sg_g σ' 133 x = sg_g σ 133 x) (a : eM σ b p g) : eM σ' b p g ∧ sg_g σ' 123 (sg_g σ' 133 b) = sg_g σ 123 (sg_g σ 133 b) := by
  have a0 := eM_0 a
  obtain ⟨a1, a2, a3⟩ := a
  have e0 : sg_g σ' 123 (sg_g σ' 133 b) = sg_g σ 123 (sg_g σ 133 b) := by
    rw [hv b (by omega) (by omega)]
    exact (h.2.1 _ a0.1 a0.2).2.1
  refine ⟨⟨a1, by rw [e0]; exact a2, fun j hj => ?_⟩, e0⟩
  obtain ⟨b1, b2⟩ := a3 j hj
  rw [e0, hv (b + j) (by omega) (by omega), (h.2.1 _ b1.1 b1.2).2.1]
  have := h.1.1
  exact ⟨⟨b1.1, by omega⟩, b2⟩
theorem fS_up {σ σ' : sg_S} {n s p b : Int} {ty : List Int} (h : nEx σ σ') (hb : bOk A D T σ σ') (hv : A.2.1 n = 15 → ((A.2.2.2.2.2 n).length : Int) < s → ∀ x, b ≤ x → x < b + (A.2.2.2.2.2 n).length → sg_g σ' 133 x = sg_g σ 133 x) (a : fS A D T σ n s p b ty) : fS A D T σ' n s p b ty := by
  unfold fS at a ⊢
  by_cases c2 : A.2.1 n = 2
  · rw [if_pos c2] at a ⊢; exact a
  rw [if_neg c2] at a ⊢
  by_cases c3 : A.2.1 n = 3
  · rw [if_pos c3] at a ⊢; exact a
  rw [if_neg c3] at a ⊢
  by_cases c15 : A.2.1 n = 15
  · rw [if_pos c15] at a ⊢
    obtain ⟨bd, tl, e, a⟩ := a
    refine ⟨bd, tl, e, ?_⟩
    rcases a with a | ⟨a1, i, a2, a3⟩
    · exact Or.inl a
    · have hs : ((A.2.2.2.2.2 n).length : Int) < s := by rcases a3 with a3 | a3 | a3 <;> omega
      obtain ⟨b1, b2⟩ := eM_up h (hv c15 hs) a1
      refine Or.inr ⟨b1, i, a2, ?_⟩
      rw [b2]
      rcases a3 with a3 | ⟨⟨a3, a4⟩, a5⟩ | a3
      · exact Or.inl a3
      · refine Or.inr (Or.inl ⟨⟨a3, fun j hj => ?_⟩, a5⟩)
        rcases hb (210 + 4 * n + j) with z | z
        · rw [z]; exact vU_up h (a4 j hj)
        · exact z
      · exact Or.inr (Or.inr a3)
  · rw [if_neg c15] at a ⊢; exact a
theorem fO_w {σ : sg_S} {n : Int} (h : fO A D T B σ n) : nW A n ∧ (0 ≤ n ∧ n < A.1) ∧ kIn (T n) := by
  obtain ⟨j, f, sc, a1, a2⟩ := h
  cases f with
  | zero => cases a1
  | succ f => exact ⟨a1.1, a1.2.1, a1.2.2.1⟩
theorem nStk_up {σ σ' : sg_S} (h : nEx σ σ') (hb : bOk A D T σ σ') : ∀ (m : Nat) (tp ty : Int), (∀ i : Nat, i < m → sg_g σ' 126 i = sg_g σ 126 i ∧ sg_g σ' 127 i = sg_g σ 127 i ∧ sg_g σ' 128 i = sg_g σ 128 i ∧ sg_g σ' 130 i = sg_g σ 130 i) → (∀ x, 0 ≤ x → x < tp → sg_g σ' 133 x = sg_g σ 133 x) → nStk A D T B r σ m tp ty → nStk A D T B r σ' m tp ty
  | 0, tp, ty, _, _, a => a
  | m + 1, tp, ty, hr, hv, a => by
    obtain ⟨tys, a1, a2, a3, a4, a5, a6, a7⟩ := a
    obtain ⟨r1, r2, r3, r4⟩ := hr m (by omega)
    refine ⟨tys, by rw [r3]; exact a1, by rw [r3]; exact a2, ?_, by rw [r1]; exact fO_up h hb a4, ?_, by rw [r1, r2]; exact a6, ?_⟩
    · rw [r3]
      exact vS_up h (fun x y z => hv x (by omega) (by omega)) a3
    · rw [r1, r2, r3, r4]
      refine fS_up h hb (fun c hs x y z => hv x (by omega) ?_) a5
      obtain ⟨w, -, -⟩ := fO_w a4
      unfold fS at a5
      rw [if_neg (by omega), if_neg (by omega), if_pos c] at a5
      obtain ⟨bd, tl, e, a5⟩ := a5
      have wl := (w.2.2.2.2.2.2.1 c).1
      rw [e] at wl
      simp only [List.length_cons] at wl
      have tk : (tl.take (A.2.2.2.2.2 (sg_g σ 126 m)).length).length = (A.2.2.2.2.2 (sg_g σ 126 m)).length := by rw [List.length_take]; omega
      rcases a5 with ⟨i, b1, b2, -⟩ | ⟨-, i, -, b3⟩
      · omega
      · have hl : (tys ++ [ty]).length = tys.length + 1 := by simp
        rcases b3 with ⟨b3, b4⟩ | ⟨-, b3, b4⟩ | ⟨-, b3, b4⟩
        · exact absurd b3 (a6 c)
        · rw [b4] at hl
          simp only [List.length_append, List.length_map, tk, List.length_replicate, List.length_cons, List.length_nil] at hl
          omega
        · rw [b4] at hl
          simp only [List.length_append, List.length_map, tk, List.length_replicate] at hl
          omega
    · rw [r1, r3]
      exact nStk_up h hb m _ _ (fun i hi => hr i (by omega)) (fun x y z => hv x y (by omega)) a7
theorem m_begin {σ : sg_S} {n : Int} {Q : sg_S → Prop} (hw : 0 ≤ sg_g σ 88 54 ∧ sg_g σ 88 54 ≤ 3000) (hn : sg_R n) (hf : 0 ≤ sg_g σ 88 62 ∧ sg_g σ 88 62 < 4000) (k : ∀ σ', (¬ sg_g σ' 88 73 = 0 ∨ (sg_g σ' 88 73 = 0 ∧ sg_g σ' 88 54 = sg_g σ 88 54 + 1 ∧ sg_g σ' 88 54 ≤ 3000)) → sg_g σ' 88 62 = sg_g σ 88 62 + 1 → (sg_g σ' 126 (sg_g σ 88 62) = n ∧ sg_g σ' 127 (sg_g σ 88 62) = 0 ∧ sg_g σ' 128 (sg_g σ 88 62) = sg_g σ 88 70 ∧ sg_g σ' 130 (sg_g σ 88 62) = 0) → (∀ i, ¬ i = sg_g σ 88 62 → sg_g σ' 126 i = sg_g σ 126 i ∧ sg_g σ' 127 i = sg_g σ 127 i ∧ sg_g σ' 128 i = sg_g σ 128 i ∧ sg_g σ' 130 i = sg_g σ 130 i) → sg_F [126, 127, 128, 129, 130, 131, 132, 55088, 63088, 74088] σ σ' → Q σ') : V_begin σ n Q := by
  unfold V_begin
  refine m_works hw ⟨by decide, by decide⟩ (fun σ2 w1 w2 f2 _ => ⟨hf, ?_⟩)
  intro σ8 e8 σ11 e11 σ14 e14 σ17 e17 σ20 e20 σ23 e23 σ26 e26
  refine ⟨⟨by omega, by omega⟩, fun σ30 e30 => ?_⟩
  have F30 : sg_F [126, 127, 128, 129, 130, 131, 132, 55088, 63088, 74088] σ2 σ30 := by
    rw [e30, e26, e23, e20, e17, e14, e11, e8]
    exact sg_F_w (sg_F_w (sg_F_w (sg_F_w (sg_F_w (sg_F_w (sg_F_w (sg_F_w (sg_F_r _ _) rfl _) rfl _) rfl _) rfl _) rfl _) rfl _) rfl _) rfl _
  have G : ∀ a k, ¬ a = 88 → ¬ a = 126 → ¬ a = 127 → ¬ a = 128 → ¬ a = 129 → ¬ a = 130 → ¬ a = 131 → ¬ a = 132 → sg_g σ30 a k = sg_g σ2 a k := fun a k z0 z1 z2 z3 z4 z5 z6 z7 => by
    rw [e30, sg_gw_c _ _ _ _ _ _ z0, e26, sg_gw_c _ _ _ _ _ _ z7, e23, sg_gw_c _ _ _ _ _ _ z6, e20, sg_gw_c _ _ _ _ _ _ z5, e17, sg_gw_c _ _ _ _ _ _ z4, e14, sg_gw_c _ _ _ _ _ _ z3, e11, sg_gw_c _ _ _ _ _ _ z2, e8, sg_gw_c _ _ _ _ _ _ z1]
  have G88 : ∀ k, ¬ k = 62 → sg_g σ30 88 k = sg_g σ2 88 k := fun k z => by
    rw [e30, sg_gw_k _ _ _ _ _ _ z, e26, sg_gw_c _ _ _ _ _ _ (by decide), e23, sg_gw_c _ _ _ _ _ _ (by decide), e20, sg_gw_c _ _ _ _ _ _ (by decide), e17, sg_gw_c _ _ _ _ _ _ (by decide), e14, sg_gw_c _ _ _ _ _ _ (by decide), e11, sg_gw_c _ _ _ _ _ _ (by decide), e8, sg_gw_c _ _ _ _ _ _ (by decide)]
  refine k σ30 ?_ ?_ ?_ ?_ (sg_F_t (sg_F_m f2 rfl) F30)
  · rw [G88 73 (by decide), G88 54 (by decide)]
    rcases w2 with w2 | ⟨-, w3, w4⟩
    · exact Or.inl w2
    · exact Or.inr ⟨w3, w4, w1.2⟩
  · rw [e30, sg_gw_e _ _ _ _ ⟨by omega, by omega⟩]
  · refine ⟨?_, ?_, ?_, ?_⟩
    · rw [e30, sg_gw_c _ _ _ _ _ _ (by decide), e26, sg_gw_c _ _ _ _ _ _ (by decide), e23, sg_gw_c _ _ _ _ _ _ (by decide), e20, sg_gw_c _ _ _ _ _ _ (by decide), e17, sg_gw_c _ _ _ _ _ _ (by decide), e14, sg_gw_c _ _ _ _ _ _ (by decide), e11, sg_gw_c _ _ _ _ _ _ (by decide), e8, sg_gw_e _ _ _ _ hn]
    · rw [e30, sg_gw_c _ _ _ _ _ _ (by decide), e26, sg_gw_c _ _ _ _ _ _ (by decide), e23, sg_gw_c _ _ _ _ _ _ (by decide), e20, sg_gw_c _ _ _ _ _ _ (by decide), e17, sg_gw_c _ _ _ _ _ _ (by decide), e14, sg_gw_c _ _ _ _ _ _ (by decide), e11, sg_gw_e _ _ _ _ (by decide)]
    · rw [e30, sg_gw_c _ _ _ _ _ _ (by decide), e26, sg_gw_c _ _ _ _ _ _ (by decide), e23, sg_gw_c _ _ _ _ _ _ (by decide), e20, sg_gw_c _ _ _ _ _ _ (by decide), e17, sg_gw_c _ _ _ _ _ _ (by decide), e14, sg_gw_e _ _ _ _ (sg_Rg _ _ _)]
    · rw [e30, sg_gw_c _ _ _ _ _ _ (by decide), e26, sg_gw_c _ _ _ _ _ _ (by decide), e23, sg_gw_c _ _ _ _ _ _ (by decide), e20, sg_gw_e _ _ _ _ (by decide)]
  · intro i hi
    have K : ∀ a, sg_g σ26 a i = sg_g σ2 a i := fun a => by rw [e26, sg_gw_k _ _ _ _ _ _ hi, e23, sg_gw_k _ _ _ _ _ _ hi, e20, sg_gw_k _ _ _ _ _ _ hi, e17, sg_gw_k _ _ _ _ _ _ hi, e14, sg_gw_k _ _ _ _ _ _ hi, e11, sg_gw_k _ _ _ _ _ _ hi, e8, sg_gw_k _ _ _ _ _ _ hi]
    refine ⟨?_, ?_, ?_, ?_⟩
    · rw [e30, sg_gw_c _ _ _ _ _ _ (by decide), K, sg_F_ga f2 rfl]
    · rw [e30, sg_gw_c _ _ _ _ _ _ (by decide), K, sg_F_ga f2 rfl]
    · rw [e30, sg_gw_c _ _ _ _ _ _ (by decide), K, sg_F_ga f2 rfl]
    · rw [e30, sg_gw_c _ _ _ _ _ _ (by decide), K, sg_F_ga f2 rfl]
end NSU
