/-! know, defNamed of the reference. -/
theorem q_know {σ : sg_S} {e eb : kE} {w b ty : Int} {Q : sg_S → Prop} (hh : kPs σ e eb) (hl : e.length < 300) (hw : sg_RL w) (ht : sg_R ty) (hb : 0 ≤ b ∧ b < 1200) (k : ∀ σ', kPs σ' ((w, ty) :: e) ((w, b) :: eb) → sg_F [113, 114, 115, 116, 38088] σ σ' → Q σ') : V_know σ w b ty Q := by
  have h := hh.1
  have hn := pst_n h
  unfold V_know
  refine ⟨by omega, fun σ2 e2 σ5 e5 σ8 e8 => ⟨hb, fun σ12 e12 => ⟨⟨by omega, by omega⟩, fun σ16 e16 => k σ16 ?_ ?_⟩⟩⟩
  · have r37 : sg_g σ16 88 37 = sg_g σ 88 37 + 1 := by rw [e16, sg_gw_e _ _ _ _ ⟨by omega, by omega⟩]
    refine ⟨⟨by omega, ?_, ?_, ?_⟩, ⟨by omega, ?_, ?_, ?_⟩⟩
    · rw [r37, show sg_g σ 88 37 + 1 - 1 = sg_g σ 88 37 by omega, e16, sg_gw', e12, sg_gw', e8, sg_gw', e5, sg_gw', e2, sg_gwl_e _ _ _ _ hw]
    · rw [r37, show sg_g σ 88 37 + 1 - 1 = sg_g σ 88 37 by omega, e16, sg_gw_c _ _ _ _ _ _ (by decide), e12, sg_gw_c _ _ _ _ _ _ (by decide), e8, sg_gw_e _ _ _ _ ht]
    · rw [r37, show sg_g σ 88 37 + 1 - 1 = sg_g σ 88 37 by omega]
      refine pst_e h (fun j a b => ⟨?_, ?_⟩)
      · rw [e16, sg_gw', e12, sg_gw', e8, sg_gw', e5, sg_gw', e2, sg_gwl_k _ _ _ _ _ _ (by omega)]
      · rw [e16, sg_gw_c _ _ _ _ _ _ (by decide), e12, sg_gw_c _ _ _ _ _ _ (by decide), e8, sg_gw_k _ _ _ _ _ _ (by omega), e5, sg_gw_c _ _ _ _ _ _ (by decide), e2, sg_gwl']
    · rw [r37, show sg_g σ 88 37 + 1 - 1 = sg_g σ 88 37 by omega, e16, sg_gw', e12, sg_gw', e8, sg_gw', e5, sg_gw', e2, sg_gwl_e _ _ _ _ hw]
    · rw [r37, show sg_g σ 88 37 + 1 - 1 = sg_g σ 88 37 by omega, e16, sg_gw_c _ _ _ _ _ _ (by decide), e12, sg_gw_c _ _ _ _ _ _ (by decide), e8, sg_gw_c _ _ _ _ _ _ (by decide), e5, sg_gw_e _ _ _ _ ⟨by omega, by omega⟩]
    · rw [r37, show sg_g σ 88 37 + 1 - 1 = sg_g σ 88 37 by omega]
      refine pst_e hh.2 (fun j a b => ⟨?_, ?_⟩)
      · rw [e16, sg_gw', e12, sg_gw', e8, sg_gw', e5, sg_gw', e2, sg_gwl_k _ _ _ _ _ _ (by omega)]
      · rw [e16, sg_gw_c _ _ _ _ _ _ (by decide), e12, sg_gw_c _ _ _ _ _ _ (by decide), e8, sg_gw_c _ _ _ _ _ _ (by decide), e5, sg_gw_k _ _ _ _ _ _ (by omega), e2, sg_gwl']
  · rw [e16, e12, e8, e5, e2]
    exact sg_F_w (sg_F_w (sg_F_w (sg_F_w (sg_F_wl (sg_F_r _ _) rfl _) rfl _) rfl _) rfl _) rfl _
/-- DEFS known, the newest first: their words, numbers of PARAMS, types of PARAMS, nodes -/
def dsR (σ : sg_S) : Int → kD → Prop
  | n, [] => n = 0
  | n, x :: r => 0 < n ∧ sg_gl σ 103 (n - 1) = x.1 ∧ sg_g σ 106 (n - 1) = x.2.1.length ∧ (∀ j : Nat, ∀ y, x.2.1[j]? = some y → sg_g σ 109 (6 * (n - 1) + j) = y) ∧ sg_g σ 105 (n - 1) = x.2.2 ∧ x.2.1.length ≤ 6 ∧ dsR σ (n - 1) r
theorem dsR_n {σ : sg_S} : ∀ {n : Int} {l : kD}, dsR σ n l → n = l.length
  | n, [], h => by simp only [dsR] at h; simp [h]
  | n, x :: r, h => by have := dsR_n h.2.2.2.2.2.2; simp only [List.length_cons]; omega
