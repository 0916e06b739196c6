/-! flat ops of the reference, exactly: rows of numbers, inner and outer rows. -/
theorem m_putX {σ σb : sg_S} {f s t c : Int} {b : Prop} {cl : List Int} {Q : sg_S → Prop} (h : gHX σb f b s t cl σ) (hf : 0 ≤ f) (h6 : f + s < 60000) (hc : sg_R c) (hb : b → 0 ≤ c ∧ c ≤ 200) (k : ∀ σ', gHX σb f b (s + 1) (t + c) (cl ++ [c]) σ' → sg_F [142, 92088] σ σ' → Q σ') : V_put σ c Q := by
  have h1 := h.1.1
  unfold V_put
  refine ⟨⟨by omega, by omega⟩, fun σ2 e2 => ⟨⟨by omega, by omega⟩, fun σ6 e6 => k σ6 (gHX_p h hf (by omega) hc hb e2 e6) (by rw [e6, e2]; exact sg_F_w (sg_F_w (sg_F_r _ _) rfl _) rfl _)⟩⟩
theorem m_numbersX {σ : sg_S} {M f : Int} {l : List vaF} {Q : Int → sg_S → Prop} (h : 0 ≤ sg_g σ 88 87 ∧ sg_g σ 88 87 < 30000) (hf : 0 ≤ f ∧ f ≤ sg_g σ 88 91 ∧ sg_g σ 88 91 ≤ 60000) (hM : sg_g σ 88 91 - f ≤ M) (hl : (l.length : Int) = sg_g σ 88 91 - f) (hc : ∀ (i : Nat) (v : vaF), l[i]? = some v → sg_g σ 142 (f + i) = v []) (k : ∀ q σ', q = sg_g σ 88 87 → fEx σ σ' → fX σ' M q 0 l [(f, sg_g σ 88 91 - f)] → sg_g σ' 88 87 = sg_g σ 88 87 + 1 → sg_F [139, 140, 141, 88088] σ σ' → Q q σ') : V_numbers σ f Q := by
  refine m_numbers h hf hM (fun q σ' e ex fv e87 F => k q σ' e ex ⟨fv, rfl, trivial, fun j hj => ?_⟩ e87 F)
  have j0 : j = 0 := by omega
  subst j0
  refine ⟨by simp only [lvl, List.length_map]; exact hl, fun i x hx => ?_⟩
  have hi := lt_of_get hx
  simp only [lvl, List.length_map] at hi
  simp only [lvl, List.getElem?_map] at hx
  rw [List.getElem?_eq_getElem hi, Option.map_some] at hx
  show sg_g σ' 142 (f + i) = x
  rw [ex.2.2.2 _ (by omega) (by omega), hc i _ (List.getElem?_eq_getElem hi)]
  exact Option.some.inj hx
section FXO
variable {σ : sg_S} {M v : Int} {d : Nat} {l : List vaF} {R : List (Int × Int)}
theorem fX_up {σ' : sg_S} (h : fEx σ σ') (a : fX σ M v d l R) : fX σ' M v d l R := by
  obtain ⟨a1, a2, a3, a4⟩ := a
  refine ⟨fV_up h a1, a2, a3, fun j hj => ⟨(a4 j hj).1, fun i x hx => ?_⟩⟩
  obtain ⟨r, hr⟩ : ∃ r, R[j]? = some r := ⟨_, List.getElem?_eq_getElem (by omega)⟩
  obtain ⟨b1, b2, b3, b4⟩ := (fCh_at a1.2.2.2.2 hr).1
  have er : R.getD j (0, 0) = r := by rw [List.getD_eq_getElem?_getD, hr]; rfl
  have hl := (a4 j hj).1
  have hi := lt_of_get hx
  rw [er] at hl ⊢
  rw [h.2.2.2 _ (by omega) (by omega)]
  have := (a4 j hj).2 i x hx
  rw [er] at this
  exact this
theorem m_innerX {r : Int × Int} {Q : Int → sg_S → Prop} (h : 0 ≤ sg_g σ 88 87 ∧ sg_g σ 88 87 < 30000) (hv : fX σ M v (d + 1) l (r :: R)) (k : ∀ q σ', q = sg_g σ 88 87 → fEx σ σ' → fX σ' M q d (flF l) R → sg_g σ' 88 87 = sg_g σ 88 87 + 1 → sg_F [139, 140, 141, 88088] σ σ' → Q q σ') : V_inner σ v Q := by
  have hv' := hv
  obtain ⟨a1, a2, a3, a4⟩ := hv
  simp only [List.length_cons] at a2
  refine m_inner h a1 (by omega) (fun q σ' e ex fv e87 F => k q σ' e ex ⟨fv, by omega, a3.2, fun j hj => ?_⟩ e87 F)
  have b := (fX_up ex hv').2.2.2 (j + 1) (by omega)
  exact b
theorem m_outerX {f s : Int} {r : Int × Int} {L : List vaF} {Q : Int → sg_S → Prop} (h : 0 ≤ sg_g σ 88 87 ∧ sg_g σ 88 87 < 30000) (hv : fX σ M v d (flF L) (r :: R)) (hR : R.length ≤ 2) (hf : sg_R f ∧ sg_R s) (hw : fRw σ M (f, s)) (hs : (L.length : Int) = s) (hl : ∀ (i : Nat) (u : vaF), L[i]? = some u → sg_g σ 142 (f + i) = u [] ∧ 0 ≤ u [] ∧ u [] ≤ 200) (k : ∀ q σ', q = sg_g σ 88 87 → fEx σ σ' → fX σ' M q (d + 1) L ((f, s) :: r :: R) → sg_g σ' 88 87 = sg_g σ 88 87 + 1 → sg_F [139, 140, 141, 88088] σ σ' → Q q σ') : V_outer σ f s v Q := by
  have hv' := hv
  obtain ⟨a1, a2, a3, a4⟩ := hv
  have c0 : ∀ (i : Nat) (x : Int), (lvl 0 L)[i]? = some x → sg_g σ 142 (f + i) = x := fun i x hx => by
    have hi := lt_of_get hx
    simp only [lvl, List.length_map] at hi
    simp only [lvl, List.getElem?_map] at hx
    rw [List.getElem?_eq_getElem hi, Option.map_some] at hx
    rw [(hl i _ (List.getElem?_eq_getElem hi)).1]
    exact Option.some.inj hx
  have okL : ∀ u ∈ L, 0 ≤ u [] := fun u hu => by
    obtain ⟨i, hi⟩ := List.getElem?_of_mem hu
    exact (hl i u hi).2.1
  refine m_outer h a1 hR hf hw (fun i i0 i1 => ?_) ?_ (fun q σ' e ex fv e87 F => k q σ' e ex ⟨fv, by simp only [List.length_cons] at a2 ⊢; omega, ⟨okL, a3⟩, fun j hj => ?_⟩ e87 F)
  · have hi : i.toNat < L.length := by simp only at i1; omega
    have := hl i.toNat _ (List.getElem?_eq_getElem hi)
    rw [show ((i.toNat : Nat) : Int) = i by omega] at this
    simp only
    rw [this.1]
    exact this.2
  · have e0 := (a4 0 (Nat.zero_le _)).1
    simp only [lvl, List.length_map] at e0
    have e1 : r.2 = ((flF L).length : Int) := e0.symm
    have e2 := lvl_n L okL
    rw [e1, e2, cs_sum c0 s.toNat (by simp only [lvl, List.length_map]; omega), List.take_of_length_le (by simp only [lvl, List.length_map]; omega)]
  · cases j with
    | zero =>
      refine ⟨by simp only [lvl, List.length_map]; exact hs, fun i x hx => ?_⟩
      have hi := lt_of_get hx
      simp only [lvl, List.length_map] at hi
      obtain ⟨w1, w2, w3, w4⟩ := hw
      simp only at w1 w2 w3 w4
      show sg_g σ' 142 (f + i) = x
      rw [ex.2.2.2 _ (by omega) (by omega)]
      exact c0 i x hx
    | succ j => exact (fX_up ex hv').2.2.2 j (by omega)
end FXO
