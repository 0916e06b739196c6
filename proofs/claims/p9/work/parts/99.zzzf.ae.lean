/-! flat ops of the reference, exactly: the small parts. -/
/-- the lanes ks are listed -/
def lX (σ : sg_S) (ks : List Int) : Prop := sg_g σ 88 93 = ks.length ∧ ∀ (i : Nat) (x : Int), ks[i]? = some x → sg_g σ 143 i = x
theorem lX_F {L : List Nat} {σ σ' : sg_S} {ks : List Int} (f : sg_F L σ σ') (hL : (!sg_cv L 88 93 && sg_ca L 143) = true) (h : lX σ ks) : lX σ' ks := by
  simp only [Bool.and_eq_true, Bool.not_eq_true'] at hL
  exact ⟨by rw [sg_F_g f hL.1]; exact h.1, fun i x hx => by rw [sg_F_ga f hL.2]; exact h.2 i x hx⟩
theorem lX_0 {σ σ' : sg_S} (e : σ' = sg_w σ 88 93 0) : lX σ' [] := ⟨by rw [e, sg_gw_e _ _ _ _ ⟨by decide, by decide⟩]; rfl, fun i x hx => by simp at hx⟩
theorem m_listX {σ : sg_S} {ks : List Int} {x : Int} {Q : sg_S → Prop} (h : lX σ ks) (hN : ks.length < 13000) (hx : sg_R x) (k : ∀ σ', lX σ' (ks ++ [x]) → sg_F [143, 94088] σ σ' → Q σ') : V_list σ x Q := by
  obtain ⟨h1, h2⟩ := h
  unfold V_list
  refine ⟨⟨by omega, by omega⟩, fun σ2 e2 => ⟨⟨by omega, by omega⟩, fun σ6 e6 => k σ6 ⟨?_, fun i y hy => ?_⟩ (by rw [e6, e2]; exact sg_F_w (sg_F_w (sg_F_r _ _) rfl _) rfl _)⟩⟩
  · rw [e6, sg_gw_e _ _ _ _ ⟨by omega, by omega⟩, List.length_append, List.length_cons, List.length_nil]; omega
  · rw [e6, sg_gw_c _ _ _ _ _ _ (by decide), e2, h1]
    rcases Nat.lt_or_ge i ks.length with q | q
    · rw [List.getElem?_append_left q] at hy
      rw [sg_gw_k _ _ _ _ _ _ (by omega)]
      exact h2 i y hy
    · rw [List.getElem?_append_right q] at hy
      have hl := lt_of_get hy
      simp only [List.length_cons, List.length_nil] at hl
      have ei : i = ks.length := by omega
      rw [ei, Nat.sub_self] at hy
      cases hy
      rw [ei, sg_gw_e _ _ _ _ hx]
/-- no lane lacks anything (0), or the least that does lacks e -/
def fqX (σ : sg_S) (e : Int) : Prop := (e = 0 ∧ sg_g σ 88 102 < 0) ∨ (¬ e = 0 ∧ 0 ≤ sg_g σ 88 102 ∧ sg_g σ 88 103 = e)
theorem m_lacksX {σ : sg_S} {i f e : Int} {Q : sg_S → Prop} (hi : 0 ≤ i ∧ sg_R i) (hf : ¬ f = 0 ∧ sg_R f) (h : fqX σ e) (k : ∀ σ', fqX σ' (if e = 0 then f else e) → sg_F [103088, 104088] σ σ' → Q σ') : V_lacks σ i f Q := by
  unfold V_lacks
  refine ⟨fun z => k σ ?_ (sg_F_r _ _), fun z σ2 e2 σ5 e5 => ?_⟩
  · rcases h with ⟨a, b⟩ | ⟨a, b, c⟩
    · omega
    · rw [if_neg a]; exact Or.inr ⟨a, b, c⟩
  · refine k σ5 ?_ (by rw [e5, e2]; exact sg_F_w (sg_F_w (sg_F_r _ _) rfl _) rfl _)
    rcases h with ⟨a, b⟩ | ⟨a, b, c⟩
    · rw [if_pos a]
      refine Or.inr ⟨hf.1, ?_, ?_⟩
      · rw [e5, sg_gw_k _ _ _ _ _ _ (by decide), e2, sg_gw_e _ _ _ _ hi.2]; exact hi.1
      · rw [e5, sg_gw_e _ _ _ _ hf.2]
    · omega
/-- counters: STEPS, CELLS, most LANES -/
def fcX (σ : sg_S) (s : fSt) : Prop := sg_g σ 88 84 = s.1 ∧ sg_g σ 88 85 = s.2.1 ∧ sg_g σ 88 86 = s.2.2 ∧ (0 ≤ s.1 ∧ s.1 ≤ 2000) ∧ 0 ≤ s.2.1 ∧ s.2.1 ≤ 6000
theorem m_stepX {σ : sg_S} {a : Int} {s : fSt} {Q : Int → sg_S → Prop} (h : fcX σ s) (ha : 0 ≤ a ∧ a ≤ 1000000000) (k0 : fStp a s = none → ∀ σ', sg_g σ' 88 73 = 8 → fcX σ' s → sg_F [74088] σ σ' → Q 0 σ') (k1 : ∀ s', fStp a s = some s' → ∀ σ', fcX σ' s' → sg_F [85088, 86088] σ σ' → Q 1 σ') : V_stepped σ a Q := by
  obtain ⟨h1, h2, h3, h4, h5⟩ := id h
  have z0 : ∀ σ2, σ2 = sg_w σ 88 73 8 → fStp a s = none → Q 0 σ2 := fun σ2 e2 hn => by
    have f2 : sg_F [74088] σ σ2 := by rw [e2]; exact sg_F_w (sg_F_r _ _) rfl _
    refine k0 hn σ2 (by rw [e2, sg_gw_e _ _ _ _ ⟨by decide, by decide⟩]) ⟨by rw [sg_F_g f2 (by rfl)]; exact h1, by rw [sg_F_g f2 (by rfl)]; exact h2, by rw [sg_F_g f2 (by rfl)]; exact h3, h4, h5⟩ f2
  unfold V_stepped
  refine ⟨fun z σ2 e2 => z0 σ2 e2 ?_, fun z => ⟨⟨by omega, by omega⟩, fun w => ⟨⟨by omega, by omega⟩, fun σ8 e8 => ⟨⟨by omega, by omega⟩, fun σ12 e12 => ?_⟩⟩, fun w σ2 e2 => z0 σ2 e2 ?_⟩⟩
  · unfold fStp
    rw [if_pos (Or.inl (by omega))]
  · have f12 : sg_F [85088, 86088] σ σ12 := by rw [e12, e8]; exact sg_F_w (sg_F_w (sg_F_r _ _) rfl _) rfl _
    refine k1 (s.1 + 1, s.2.1 + a, s.2.2) (by unfold fStp; rw [if_neg (by omega)]) σ12 ⟨?_, ?_, by rw [sg_F_g f12 (by rfl)]; exact h3, ⟨by simp only; omega, by simp only; omega⟩, by simp only; omega, by simp only; omega⟩ f12
    · rw [e12, sg_gw_k _ _ _ _ _ _ (by decide), e8, sg_gw_e _ _ _ _ ⟨by omega, by omega⟩, h1]
    · rw [e12, sg_gw_e _ _ _ _ ⟨by omega, by omega⟩, h2]
  · unfold fStp
    rw [if_pos (Or.inr (by omega))]
